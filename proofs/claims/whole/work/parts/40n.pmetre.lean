/-! a metre is taken, in pairs -/
theorem metre_ok {Q : zP} (h2 : Good2 PM Q) {S S' Z : zS} {k : Int} {x : T3} (hI : Inv PM Q S) (hk : gI S 74 1 = k) (hk2 : 0 ≤ k ∧ k < 6) (hC : FrCN (sI S 35 1 0) S' 4 1206) (hM : MetC S' (gN S) x) (hO : OK3 x) (hx : x.2.1 ≤ 200) (hZ : FrRf (sI (sI (sI (sQ (sI S' 4 17 (-1)) 10 k (some (gN S))) 5 8 (k + 1)) 4 16 0) 72 0 0) Z) (h18 : gI Z 72 18 = -1) (hW : Cont Z 98 x.2.2) : Inv PM Q (metM Z k x.2.2.length) ∧ gN (metM Z k x.2.2.length) = gN S + 4 ∧ gW (metM Z k x.2.2.length) ≤ gW S + 1206 := by
  have hG := h2.g
  have hfx := hI.2.2.2.2.2.2
  have hN := hfx.1
  obtain ⟨f1, f2, f3, f4, f5, f6⟩ := hC
  have eN : gN (sI S 35 1 0) = gN S := rfl
  rw [eN] at f1 f3 f4 f6
  obtain ⟨m1, m2, m3, m4, m5, m6, m7, m8, m9⟩ := id hI.2.2.2.1
  have fresh := hI.2.2.2.2.2.1.2.1.1
  -- what the class has left
  have c1 : ∀ b i, b < gN S → ¬ (37 ≤ b ∧ b ≤ 51) → ¬ (b = 35 ∧ i = 1) → b ≠ 4 → ¬ (b = 5 ∧ i = 8) → gI (sI (sI (sQ (sI S' 4 17 (-1)) 10 k (some (gN S))) 5 8 (k + 1)) 4 16 0) b i = gI S b i := fun b i q0 q1 q2 q3 q4 => by
    (repeat (first | rw [gI_sI, if_neg (by omega)] | rw [gI_sF, if_neg (by omega)] | rw [gI_sJ] | rw [gI_sG] | rw [gI_sQ])); rw [f3 b q0 q1 i, gI_sI, if_neg q2]
  have c35 : gI (sI (sI (sQ (sI S' 4 17 (-1)) 10 k (some (gN S))) 5 8 (k + 1)) 4 16 0) 35 1 = 0 := by (repeat (first | rw [gI_sI, if_neg (by omega)] | rw [gI_sF, if_neg (by omega)] | rw [gI_sJ] | rw [gI_sG] | rw [gI_sQ])); rw [f3 35 (by omega) (by omega)]; simp (disch := first | omega | assumption | exact b01_rng _ | exact st_5 | exact st_12 | exact st_19 | (simp only [isSt_sI, isSt_sJ, isSt_sF, isSt_sG, isSt_sA]; assumption)) only [gI_sI, i_lit, i_add, i_sub, i_mul, i_neg, i_lt, i_le, i_eq, i32_gI, i64_gJ, i32_id, i32_to, i64_to, sI_i32, sJ_i64, b01_t, b01_f, i32_b01, b01_0, ↓a_s0, ↓n_s0, ↓a_s1, ↓n_s1, Int.add_zero, t_lt, f_lt, t_le, f_le, t_eq, f_eq, true_and, and_true, false_and, and_false, and_self, ↓reduceIte, z_bool_of, or_true, true_or, or_false, false_or, Int.neg_neg, not_true_eq_false, not_false_eq_true, lg_lt, lg_le, lg_gt, lg_ge, lg_eq, j_lit, j_add, j_sub, j_mul, j_neg, j_eq, i64_id, ij, ji, z_rt, Nat.reduceEqDiff, Nat.reduceAdd, Int.reduceAdd, Int.reduceSub, Int.reduceMul, Int.reduceNeg, Int.reduceLT, Int.reduceLE, Int.reduceEq]
  have c4 : ∀ i, i ≠ 16 → i ≠ 17 → gI (sI (sI (sQ (sI S' 4 17 (-1)) 10 k (some (gN S))) 5 8 (k + 1)) 4 16 0) 4 i = gI S 4 i := fun i q1 q2 => by
    (repeat (first | rw [gI_sI, if_neg (by omega)] | rw [gI_sF, if_neg (by omega)] | rw [gI_sJ] | rw [gI_sG] | rw [gI_sQ])); rw [f3 4 (by omega) (by omega)]; (repeat (first | rw [gI_sI, if_neg (by omega)] | rw [gI_sF, if_neg (by omega)] | rw [gI_sJ] | rw [gI_sG] | rw [gI_sQ]))
  have c417 : gI (sI (sI (sQ (sI S' 4 17 (-1)) 10 k (some (gN S))) 5 8 (k + 1)) 4 16 0) 4 17 = -1 := by (repeat (first | rw [gI_sI, if_neg (by omega)] | rw [gI_sF, if_neg (by omega)] | rw [gI_sJ] | rw [gI_sG] | rw [gI_sQ])); simp (disch := first | omega | assumption | exact b01_rng _ | exact st_5 | exact st_12 | exact st_19 | (simp only [isSt_sI, isSt_sJ, isSt_sF, isSt_sG, isSt_sA]; assumption)) only [gI_sI, i_lit, i_add, i_sub, i_mul, i_neg, i_lt, i_le, i_eq, i32_gI, i64_gJ, i32_id, i32_to, i64_to, sI_i32, sJ_i64, b01_t, b01_f, i32_b01, b01_0, ↓a_s0, ↓n_s0, ↓a_s1, ↓n_s1, Int.add_zero, t_lt, f_lt, t_le, f_le, t_eq, f_eq, true_and, and_true, false_and, and_false, and_self, ↓reduceIte, z_bool_of, or_true, true_or, or_false, false_or, Int.neg_neg, not_true_eq_false, not_false_eq_true, lg_lt, lg_le, lg_gt, lg_ge, lg_eq, j_lit, j_add, j_sub, j_mul, j_neg, j_eq, i64_id, ij, ji, z_rt, Nat.reduceEqDiff, Nat.reduceAdd, Int.reduceAdd, Int.reduceSub, Int.reduceMul, Int.reduceNeg, Int.reduceLT, Int.reduceLE, Int.reduceEq]
  have c416 : gI (sI (sI (sQ (sI S' 4 17 (-1)) 10 k (some (gN S))) 5 8 (k + 1)) 4 16 0) 4 16 = 0 := by simp (disch := first | omega | assumption | exact b01_rng _ | exact st_5 | exact st_12 | exact st_19 | (simp only [isSt_sI, isSt_sJ, isSt_sF, isSt_sG, isSt_sA]; assumption)) only [gI_sI, i_lit, i_add, i_sub, i_mul, i_neg, i_lt, i_le, i_eq, i32_gI, i64_gJ, i32_id, i32_to, i64_to, sI_i32, sJ_i64, b01_t, b01_f, i32_b01, b01_0, ↓a_s0, ↓n_s0, ↓a_s1, ↓n_s1, Int.add_zero, t_lt, f_lt, t_le, f_le, t_eq, f_eq, true_and, and_true, false_and, and_false, and_self, ↓reduceIte, z_bool_of, or_true, true_or, or_false, false_or, Int.neg_neg, not_true_eq_false, not_false_eq_true, lg_lt, lg_le, lg_gt, lg_ge, lg_eq, j_lit, j_add, j_sub, j_mul, j_neg, j_eq, i64_id, ij, ji, z_rt, Nat.reduceEqDiff, Nat.reduceAdd, Int.reduceAdd, Int.reduceSub, Int.reduceMul, Int.reduceNeg, Int.reduceLT, Int.reduceLE, Int.reduceEq]
  have c58 : gI (sI (sI (sQ (sI S' 4 17 (-1)) 10 k (some (gN S))) 5 8 (k + 1)) 4 16 0) 5 8 = k + 1 := by simp (disch := first | omega | assumption | exact b01_rng _ | exact st_5 | exact st_12 | exact st_19 | (simp only [isSt_sI, isSt_sJ, isSt_sF, isSt_sG, isSt_sA]; assumption)) only [gI_sI, i_lit, i_add, i_sub, i_mul, i_neg, i_lt, i_le, i_eq, i32_gI, i64_gJ, i32_id, i32_to, i64_to, sI_i32, sJ_i64, b01_t, b01_f, i32_b01, b01_0, ↓a_s0, ↓n_s0, ↓a_s1, ↓n_s1, Int.add_zero, t_lt, f_lt, t_le, f_le, t_eq, f_eq, true_and, and_true, false_and, and_false, and_self, ↓reduceIte, z_bool_of, or_true, true_or, or_false, false_or, Int.neg_neg, not_true_eq_false, not_false_eq_true, lg_lt, lg_le, lg_gt, lg_ge, lg_eq, j_lit, j_add, j_sub, j_mul, j_neg, j_eq, i64_id, ij, ji, z_rt, Nat.reduceEqDiff, Nat.reduceAdd, Int.reduceAdd, Int.reduceSub, Int.reduceMul, Int.reduceNeg, Int.reduceLT, Int.reduceLE, Int.reduceEq]
  have cn : ∀ b i, gN S ≤ b → gI (sI (sI (sQ (sI S' 4 17 (-1)) 10 k (some (gN S))) 5 8 (k + 1)) 4 16 0) b i = gI S' b i := fun b i q => by (repeat (first | rw [gI_sI, if_neg (by omega)] | rw [gI_sF, if_neg (by omega)] | rw [gI_sJ] | rw [gI_sG] | rw [gI_sQ]))
  have cJ : ∀ a i, gJ (sI (sI (sQ (sI S' 4 17 (-1)) 10 k (some (gN S))) 5 8 (k + 1)) 4 16 0) a i = gJ S a i := fun a i => f5 a i
  have cQ : ∀ b i, b < gN S → ¬ (b = 10 ∧ i = k) → gQ (sI (sI (sQ (sI S' 4 17 (-1)) 10 k (some (gN S))) 5 8 (k + 1)) 4 16 0) b i = gQ S b i := fun b i q1 q2 => by
    rw [gQ_sI, gQ_sI, gQ_sQ, if_neg q2]; exact (f4 b q1).1 i
  have cQn : ∀ b i, gN S ≤ b → gQ (sI (sI (sQ (sI S' 4 17 (-1)) 10 k (some (gN S))) 5 8 (k + 1)) 4 16 0) b i = gQ S' b i := fun b i q => by
    rw [gQ_sI, gQ_sI, gQ_sQ, if_neg (by omega)]; rfl
  have cQk : gQ (sI (sI (sQ (sI S' 4 17 (-1)) 10 k (some (gN S))) 5 8 (k + 1)) 4 16 0) 10 k = some (gN S) := by rw [gQ_sI, gQ_sI, gQ_sQ, if_pos ⟨rfl, rfl⟩]
  have cH : ∀ b, gH (sI (sI (sQ (sI S' 4 17 (-1)) 10 k (some (gN S))) 5 8 (k + 1)) 4 16 0) b = gH S' b := fun _ => rfl
  have cN : gN (sI (sI (sQ (sI S' 4 17 (-1)) 10 k (some (gN S))) 5 8 (k + 1)) 4 16 0) = gN S + 4 := f1
  have cW : gW (sI (sI (sQ (sI S' 4 17 (-1)) 10 k (some (gN S))) 5 8 (k + 1)) 4 16 0) ≤ gW S + 1206 := f2
  generalize sI (sI (sQ (sI S' 4 17 (-1)) 10 k (some (gN S))) 5 8 (k + 1)) 4 16 0 = C at *
  -- what the reference has
  have hl : x.2.2.length ≤ 399 := by have := hO.2.2.1; omega
  have hD : Dyn C (metM Z k x.2.2.length) := ((by (repeat (first | exact Dyn.rf | refine Dyn.sI (by decide) ?_ | refine Dyn.sF (by decide) ?_ | refine Dyn.sJ ?_ | refine Dyn.sG ?_ | refine Dyn.sQ (by decide) ?_)) : Dyn C (sI C 72 0 0)).tr hZ.1).tr (by unfold metM; (repeat (first | exact Dyn.rf | refine Dyn.sI (by decide) ?_ | refine Dyn.sF (by decide) ?_ | refine Dyn.sJ ?_ | refine Dyn.sG ?_ | refine Dyn.sQ (by decide) ?_)))
  have t1 : ∀ a i, a ≠ 72 → a ≠ 74 → ¬ (94 ≤ a ∧ a ≤ 98) → gI (metM Z k x.2.2.length) a i = gI C a i := fun a i q1 q2 q3 => by
    unfold metM; (repeat (first | rw [gI_sI, if_neg (by omega)] | rw [gI_sF, if_neg (by omega)] | rw [gI_sJ] | rw [gI_sG] | rw [gI_sQ])); rw [hZ.2.1 a i (by omega) q3]; (repeat (first | rw [gI_sI, if_neg (by omega)] | rw [gI_sF, if_neg (by omega)] | rw [gI_sJ] | rw [gI_sG] | rw [gI_sQ]))
  have t72 : ∀ i, i = 8 ∨ i = 11 ∨ i = 67 ∨ i = 71 ∨ i = 20 → gI (metM Z k x.2.2.length) 72 i = gI C 72 i := fun i q => by
    unfold metM; (repeat (first | rw [gI_sI, if_neg (by omega)] | rw [gI_sF, if_neg (by omega)] | rw [gI_sJ] | rw [gI_sG] | rw [gI_sQ])); rw [hZ.2.1 72 i (by omega) (by omega)]; (repeat (first | rw [gI_sI, if_neg (by omega)] | rw [gI_sF, if_neg (by omega)] | rw [gI_sJ] | rw [gI_sG] | rw [gI_sQ]))
  have t13 : gI (metM Z k x.2.2.length) 72 13 = 0 := by unfold metM; (repeat (first | rw [gI_sI, if_neg (by omega)] | rw [gI_sF, if_neg (by omega)] | rw [gI_sJ] | rw [gI_sG] | rw [gI_sQ])); simp (disch := first | omega | assumption | exact b01_rng _ | exact st_5 | exact st_12 | exact st_19 | (simp only [isSt_sI, isSt_sJ, isSt_sF, isSt_sG, isSt_sA]; assumption)) only [gI_sI, i_lit, i_add, i_sub, i_mul, i_neg, i_lt, i_le, i_eq, i32_gI, i64_gJ, i32_id, i32_to, i64_to, sI_i32, sJ_i64, b01_t, b01_f, i32_b01, b01_0, ↓a_s0, ↓n_s0, ↓a_s1, ↓n_s1, Int.add_zero, t_lt, f_lt, t_le, f_le, t_eq, f_eq, true_and, and_true, false_and, and_false, and_self, ↓reduceIte, z_bool_of, or_true, true_or, or_false, false_or, Int.neg_neg, not_true_eq_false, not_false_eq_true, lg_lt, lg_le, lg_gt, lg_ge, lg_eq, j_lit, j_add, j_sub, j_mul, j_neg, j_eq, i64_id, ij, ji, z_rt, Nat.reduceEqDiff, Nat.reduceAdd, Int.reduceAdd, Int.reduceSub, Int.reduceMul, Int.reduceNeg, Int.reduceLT, Int.reduceLE, Int.reduceEq]
  have t18 : gI (metM Z k x.2.2.length) 72 18 = -1 := by unfold metM; (repeat (first | rw [gI_sI, if_neg (by omega)] | rw [gI_sF, if_neg (by omega)] | rw [gI_sJ] | rw [gI_sG] | rw [gI_sQ])); exact h18
  have t01 : gI (metM Z k x.2.2.length) 72 1 = 0 := by unfold metM; simp (disch := first | omega | assumption | exact b01_rng _ | exact st_5 | exact st_12 | exact st_19 | (simp only [isSt_sI, isSt_sJ, isSt_sF, isSt_sG, isSt_sA]; assumption)) only [gI_sI, i_lit, i_add, i_sub, i_mul, i_neg, i_lt, i_le, i_eq, i32_gI, i64_gJ, i32_id, i32_to, i64_to, sI_i32, sJ_i64, b01_t, b01_f, i32_b01, b01_0, ↓a_s0, ↓n_s0, ↓a_s1, ↓n_s1, Int.add_zero, t_lt, f_lt, t_le, f_le, t_eq, f_eq, true_and, and_true, false_and, and_false, and_self, ↓reduceIte, z_bool_of, or_true, true_or, or_false, false_or, Int.neg_neg, not_true_eq_false, not_false_eq_true, lg_lt, lg_le, lg_gt, lg_ge, lg_eq, j_lit, j_add, j_sub, j_mul, j_neg, j_eq, i64_id, ij, ji, z_rt, Nat.reduceEqDiff, Nat.reduceAdd, Int.reduceAdd, Int.reduceSub, Int.reduceMul, Int.reduceNeg, Int.reduceLT, Int.reduceLE, Int.reduceEq]
  have e74 : ∀ i, gI Z 74 i = gI C 74 i := fun i => by rw [hZ.2.1 _ _ (by omega) (by omega)]; (repeat (first | rw [gI_sI, if_neg (by omega)] | rw [gI_sF, if_neg (by omega)] | rw [gI_sJ] | rw [gI_sG] | rw [gI_sQ]))
  have t74 : ∀ i, i ≠ 1 → ¬ (80 + 402 * k ≤ i ∧ i ≤ 80 + 402 * k + x.2.2.length) → gI (metM Z k x.2.2.length) 74 i = gI C 74 i := fun i q1 q2 => by
    unfold metM; (repeat (first | rw [gI_sI, if_neg (by omega)] | rw [gI_sF, if_neg (by omega)] | rw [gI_sJ] | rw [gI_sG] | rw [gI_sQ])); exact e74 i
  have t741 : gI (metM Z k x.2.2.length) 74 1 = k + 1 := by unfold metM; (repeat (first | rw [gI_sI, if_neg (by omega)] | rw [gI_sF, if_neg (by omega)] | rw [gI_sJ] | rw [gI_sG] | rw [gI_sQ])); simp (disch := first | omega | assumption | exact b01_rng _ | exact st_5 | exact st_12 | exact st_19 | (simp only [isSt_sI, isSt_sJ, isSt_sF, isSt_sG, isSt_sA]; assumption)) only [gI_sI, i_lit, i_add, i_sub, i_mul, i_neg, i_lt, i_le, i_eq, i32_gI, i64_gJ, i32_id, i32_to, i64_to, sI_i32, sJ_i64, b01_t, b01_f, i32_b01, b01_0, ↓a_s0, ↓n_s0, ↓a_s1, ↓n_s1, Int.add_zero, t_lt, f_lt, t_le, f_le, t_eq, f_eq, true_and, and_true, false_and, and_false, and_self, ↓reduceIte, z_bool_of, or_true, true_or, or_false, false_or, Int.neg_neg, not_true_eq_false, not_false_eq_true, lg_lt, lg_le, lg_gt, lg_ge, lg_eq, j_lit, j_add, j_sub, j_mul, j_neg, j_eq, i64_id, ij, ji, z_rt, Nat.reduceEqDiff, Nat.reduceAdd, Int.reduceAdd, Int.reduceSub, Int.reduceMul, Int.reduceNeg, Int.reduceLT, Int.reduceLE, Int.reduceEq]
  have t74a : gI (metM Z k x.2.2.length) 74 (80 + 402 * k) = x.2.2.length := by
    unfold metM; (repeat (first | rw [gI_sI, if_neg (by omega)] | rw [gI_sF, if_neg (by omega)] | rw [gI_sJ] | rw [gI_sG] | rw [gI_sQ])); rw [gI_sI, if_pos ⟨rfl, rfl⟩, i32_id (by omega) (by omega)]
  have t74b : ∀ (j : Nat) (y : Int), x.2.2[j]? = some y → gI (metM Z k x.2.2.length) 74 (80 + 402 * k + (1 + j)) = y := fun j y q => by
    have hj := (List.getElem?_eq_some_iff.mp q).1
    unfold metM
    rw [gI_sI, if_neg (by omega), gI_sI, if_neg (by omega), gI_sF, if_pos (by omega), i32_gI, show (80 + 402 * k + (1 + (j : Int)) - (80 + 402 * k + 1)) = j by omega]
    exact hW j y q
  have tJ : ∀ a i, ¬ (a = 72 ∧ i = 17) → gJ (metM Z k x.2.2.length) a i = gJ C a i := fun a i q => hZ.2.2.1 a i q
  have tQ : ∀ a i, gQ (metM Z k x.2.2.length) a i = gQ C a i := fun a i => hZ.2.2.2 a i
  generalize metM Z k x.2.2.length = F at *
  have kI : ∀ a i, a < gN S → ¬ (37 ≤ a ∧ a ≤ 51) → ¬ (a = 35 ∧ i = 1) → a ≠ 4 → ¬ (a = 5 ∧ i = 8) → a ≠ 72 → a ≠ 74 → ¬ (94 ≤ a ∧ a ≤ 98) → gI F a i = gI S a i := fun a i q0 q1 q2 q3 q4 q5 q6 q7 => by rw [t1 a i q5 q6 q7, c1 a i q0 q1 q2 q3 q4]
  have kQ : ∀ a i, a < gN S → ¬ (a = 10 ∧ i = k) → gQ F a i = gQ S a i := fun a i q1 q2 => (tQ a i).trans (cQ a i q1 q2)
  have k72 : ∀ i, i = 8 ∨ i = 11 ∨ i = 67 ∨ i = 71 ∨ i = 20 → gI F 72 i = gI S 72 i := fun i q => by rw [t72 i q, c1 72 i (by omega) (by omega) (by omega) (by omega) (by omega)]
  have k74 : ∀ i, i ≠ 1 → ¬ (80 + 402 * k ≤ i ∧ i ≤ 80 + 402 * k + 400) → gI F 74 i = gI S 74 i := fun i q1 q2 => by rw [t74 i q1 (by omega), c1 74 i (by omega) (by omega) (by omega) (by omega) (by omega)]
  have kD : ∀ b, 114 ≤ b → b < gN S → (∀ i, gI F b i = gI S b i) ∧ (∀ i, gQ F b i = gQ S b i) ∧ gH F b = gH S b := fun b q1 q2 => ⟨fun i => by rw [(hD.1 b q1).1 i, c1 b i q2 (by omega) (by omega) (by omega) (by omega)], fun i => kQ b i q2 (by omega), by rw [(hD.1 b q1).2.2, cH]; exact (f4 b q2).2 q1⟩
  have hFN : gN F = gN S + 4 := by rw [hD.2.1, cN]
  have hFW : gW F ≤ gW S + 1206 := by rw [hD.2.2]; exact cW
  refine ⟨?_, hFN, hFW⟩
  have hK : Keep PM Q S F := Keep.of h2 fresh kD
  have hMF : MetC F (gN S) x := hM.fr (fun j hj => ⟨fun i => by rw [(hD.1 (gN S + j) (by omega)).1 i, cn _ _ (by omega)], fun i => by rw [(hD.1 (gN S + j) (by omega)).2.1 i, cQn _ _ (by omega)], by rw [(hD.1 (gN S + j) (by omega)).2.2, cH]⟩)
  have hH : ∀ b y, 114 ≤ b → gH S b = some y → gH F b = some y := fun b y q1 q2 => by
    have hb : b < gN S := by
      apply Classical.byContradiction; intro hq; rw [fresh b q1 (by omega)] at q2; cases q2
    rw [(kD b q1 hb).2.2]; exact q2
  refine hI.gen hK ?_ ?_ ?_ ?_ ?_ ?_ (fun i => kI _ _ (by omega) (by omega) (by omega) (by omega) (by omega) (by omega) (by omega) (by omega)) (fun i => kI _ _ (by omega) (by omega) (by omega) (by omega) (by omega) (by omega) (by omega) (by omega)) (fun i => kQ _ _ (by omega) (by omega)) kD (by omega) (fun b q1 q2 => ?_) (fun b i q => by rw [tJ b i (by omega)]; exact cJ b i) (by rw [kQ _ _ (by omega) (by omega), kQ _ _ (by omega) (by omega)]; exact hfx.2.1) (by rw [k72 20 (by omega)]; exact hfx.2.2.1)
  · obtain ⟨a1, a2, a3, a4, a5, a6, a7, a8, a9, a10⟩ := id hI.1
    have k5 : ∀ i, i ≠ 8 → gI F 5 i = gI S 5 i := fun i q => kI _ _ (by omega) (by omega) (by omega) (by omega) (by omega) (by omega) (by omega) (by omega)
    have kk : ∀ j i, 6 ≤ j → j ≤ 9 → gI F j i = gI S j i := fun j i q1 q2 => kI _ _ (by omega) (by omega) (by omega) (by omega) (by omega) (by omega) (by omega) (by omega)
    refine ⟨by rw [k5 _ (by omega), k74 0 (by omega) (by omega)]; exact a1, ?_, by rw [k5 _ (by omega), k74 2 (by omega) (by omega)]; exact a3, by rw [k5 _ (by omega), k74 3 (by omega) (by omega)]; exact a4, by rw [k5 _ (by omega), k74 4 (by omega) (by omega), k74 3 (by omega) (by omega)]; exact a5, ?_, fun p q1 q2 => ?_, fun j q1 q2 => ?_, fun j q1 q2 => ?_, fun j q1 q2 => ?_⟩
    · rw [t741, t1 5 8 (by omega) (by omega) (by omega), c58]; omega
    · rw [kk 7 0 (by omega) (by omega), kk 7 1 (by omega) (by omega), kk 7 2 (by omega) (by omega), k74 5 (by omega) (by omega), k74 6 (by omega) (by omega), k74 7 (by omega) (by omega)]; exact a6
    · rw [kk 6 _ (by omega) (by omega), kk 6 _ (by omega) (by omega), kk 6 _ (by omega) (by omega), k74 _ (by omega) (by omega), k74 _ (by omega) (by omega), k74 _ (by omega) (by omega)]; exact a7 p q1 q2
    · rw [k74 2 (by omega) (by omega)] at q2
      rw [kk 8 _ (by omega) (by omega), kk 9 _ (by omega) (by omega), k74 _ (by omega) (by omega), k74 _ (by omega) (by omega)]; exact a8 j q1 q2
    · rw [t741] at q2
      by_cases e : j = k
      · subst e
        refine ⟨gN S, by rw [tQ]; exact cQk, x, hMF, hO, hx, ?_, fun i y q => ?_⟩
        · show blk (gI F 74) (80 + 402 * j) 402 0 = _
          unfold blk; rw [if_pos (by omega), Int.add_zero]; exact t74a
        · have hj := (List.getElem?_eq_some_iff.mp q).1
          unfold blk; rw [if_pos (by omega)]; exact t74b i y q
      · obtain ⟨a, w1, w2⟩ := a9 j q1 (by omega)
        refine ⟨a, by rw [kQ 10 j (by omega) (by omega)]; exact w1, ?_⟩
        rw [blk_eq (g := gI S 74) (b := 80 + 402 * j) (fun i z1 z2 => k74 _ (by omega) (by omega))]
        exact hK.1 a _ w2
    · rw [k74 3 (by omega) (by omega)] at q2
      obtain ⟨a, w1, w2⟩ := a10 j q1 q2
      refine ⟨a, by rw [kQ 11 j (by omega) (by omega)]; exact w1, ?_⟩
      rw [blk_eq (g := gI S 74) (b := 2492 + 900 * j) (fun i z1 z2 => k74 _ (by omega) (by omega))]
      exact hK.2 a _ w2
  · exact hI.2.1.fr (kI _ _ (by omega) (by omega) (by omega) (by omega) (by omega) (by omega) (by omega) (by omega)) (k72 8 (by omega)) (fun i => kI _ _ (by omega) (by omega) (by omega) (by omega) (by omega) (by omega) (by omega) (by omega)) (fun i => kI _ _ (by omega) (by omega) (by omega) (by omega) (by omega) (by omega) (by omega) (by omega)) (fun i => kI _ _ (by omega) (by omega) (by omega) (by omega) (by omega) (by omega) (by omega) (by omega)) (fun i => kI _ _ (by omega) (by omega) (by omega) (by omega) (by omega) (by omega) (by omega) (by omega)) (fun i => kI _ _ (by omega) (by omega) (by omega) (by omega) (by omega) (by omega) (by omega) (by omega)) (fun i q1 q2 => k74 _ (by omega) (by omega))
  · refine ⟨⟨?_, ?_, ?_⟩, fun i q1 q2 => ?_⟩
    · rw [t13, t1 35 1 (by omega) (by omega) (by omega), c35]
    · rw [t13]; omega
    · rw [t13]; omega
    · rw [t13] at q2; omega
  · unfold MsRel
    rw [t1 4 17 (by omega) (by omega) (by omega), t1 4 18 (by omega) (by omega) (by omega), t1 4 19 (by omega) (by omega) (by omega), t1 4 16 (by omega) (by omega) (by omega), c417, c416, c4 18 (by omega) (by omega), c4 19 (by omega) (by omega), t18, t01, k72 11 (by omega), k72 67 (by omega)]
    have e : ∀ i, gI F 71 i = gI S 71 i := fun i => kI _ _ (by omega) (by omega) (by omega) (by omega) (by omega) (by omega) (by omega) (by omega)
    have e2 : ∀ i, gI F 73 i = gI S 73 i := fun i => kI _ _ (by omega) (by omega) (by omega) (by omega) (by omega) (by omega) (by omega) (by omega)
    simp only [e, e2]
    exact ⟨trivial, m2, m3, trivial, m5, m6, m7, m8, m9⟩
  · exact hI.2.2.2.2.1.fr (k72 71 (by omega)) (kI _ _ (by omega) (by omega) (by omega) (by omega) (by omega) (by omega) (by omega) (by omega)) (fun i => kI _ _ (by omega) (by omega) (by omega) (by omega) (by omega) (by omega) (by omega) (by omega)) (fun i => kI _ _ (by omega) (by omega) (by omega) (by omega) (by omega) (by omega) (by omega) (by omega))
  · obtain ⟨r1, r2⟩ := hI.2.2.2.2.2.1.1
    refine ⟨fun j a q1 q2 q3 => ?_, fun j a q1 q2 q3 => ?_⟩
    · by_cases e : j = k
      · subst e
        have : gQ F (5 + 5) j = some (gN S) := by rw [tQ]; exact cQk
        rw [this] at q3
        cases q3
        exact ⟨hN, hMF.2.1⟩
      · rw [kQ (5 + 5) j (by omega) (by omega)] at q3
        obtain ⟨w1, w2⟩ := r1 j a q1 q2 q3
        exact ⟨w1, hH a _ w1 w2⟩
    · rw [kQ (5 + 6) j (by omega) (by omega)] at q3
      obtain ⟨w1, w2⟩ := r2 j a q1 q2 q3
      exact ⟨w1, hH a _ w1 w2⟩
  · rw [(hD.1 b q1).2.2, cH, f6 b (by omega)]; exact fresh b q1 (by omega)
/-- metre, in pairs -/
theorem p_metre {Q : zP} (h2 : Good2 PM Q) {X : zX} {S : zS} {d : Nat} (hd : 200 ≤ d) (hI : Inv PM Q S) : PairAt PM Q X 104 219 [] S d := by
  have hG := h2.g
  obtain ⟨-, ⟨s1, s2, s3⟩, -⟩ := id hI.1
  have hfx := hI.2.2.2.2.2.2
  obtain ⟨⟨t1, t2, t3⟩, t4⟩ := id hI.2.2.1
  by_cases q : gI S 74 1 = 6
  · -- no room: the tape is emptied
    have hc := e104a (X := X) (d := d) (S := S) (by omega) (by rw [s1]; exact q)
    have hm := e219a (X := X) (d := d) (S := cR (sI S 35 1 0) (-5)) (by omega) (by rw [cR_I (by omega) (by omega)]; (repeat (first | rw [gI_sI, if_neg (by omega)] | rw [gI_sF, if_neg (by omega)] | rw [gI_sJ] | rw [gI_sG] | rw [gI_sQ])); exact q)
    -- as if it had been ended, then refused
    have hI0 : Inv PM Q (sI (sI S 35 1 0) 72 13 0) := by
      refine hI.gen (Keep.dyn hG (by (repeat (first | exact Dyn.rf | refine Dyn.sI (by decide) ?_ | refine Dyn.sF (by decide) ?_ | refine Dyn.sJ ?_ | refine Dyn.sG ?_ | refine Dyn.sQ (by decide) ?_)))) ?_ ?_ ?_ ?_ ?_ ?_ (fun i => by (repeat (first | rw [gI_sI, if_neg (by omega)] | rw [gI_sF, if_neg (by omega)] | rw [gI_sJ] | rw [gI_sG] | rw [gI_sQ]))) (fun i => by (repeat (first | rw [gI_sI, if_neg (by omega)] | rw [gI_sF, if_neg (by omega)] | rw [gI_sJ] | rw [gI_sG] | rw [gI_sQ]))) (fun _ => rfl) (fun b q1 q2 => ⟨fun i => by (repeat (first | rw [gI_sI, if_neg (by omega)] | rw [gI_sF, if_neg (by omega)] | rw [gI_sJ] | rw [gI_sG] | rw [gI_sQ])), fun _ => rfl, rfl⟩) (Nat.le_refl _) (fun b q1 q2 => hI.2.2.2.2.2.1.2.1.1 b q1 q2) (fun _ _ _ => rfl) hfx.2.1 (by (repeat (first | rw [gI_sI, if_neg (by omega)] | rw [gI_sF, if_neg (by omega)] | rw [gI_sJ] | rw [gI_sG] | rw [gI_sQ])); exact hfx.2.2.1)
      · have hD : Dyn S (sI (sI S 35 1 0) 72 13 0) := by (repeat (first | exact Dyn.rf | refine Dyn.sI (by decide) ?_ | refine Dyn.sF (by decide) ?_ | refine Dyn.sJ ?_ | refine Dyn.sG ?_ | refine Dyn.sQ (by decide) ?_))
        exact hI.1.fr hG hD (fun i => by (repeat (first | rw [gI_sI, if_neg (by omega)] | rw [gI_sF, if_neg (by omega)] | rw [gI_sJ] | rw [gI_sG] | rw [gI_sQ]))) (fun i => by (repeat (first | rw [gI_sI, if_neg (by omega)] | rw [gI_sF, if_neg (by omega)] | rw [gI_sJ] | rw [gI_sG] | rw [gI_sQ]))) (fun i => by (repeat (first | rw [gI_sI, if_neg (by omega)] | rw [gI_sF, if_neg (by omega)] | rw [gI_sJ] | rw [gI_sG] | rw [gI_sQ]))) (fun i => by (repeat (first | rw [gI_sI, if_neg (by omega)] | rw [gI_sF, if_neg (by omega)] | rw [gI_sJ] | rw [gI_sG] | rw [gI_sQ]))) (fun i => by (repeat (first | rw [gI_sI, if_neg (by omega)] | rw [gI_sF, if_neg (by omega)] | rw [gI_sJ] | rw [gI_sG] | rw [gI_sQ]))) (fun i => rfl) (fun i => rfl) (fun i => by (repeat (first | rw [gI_sI, if_neg (by omega)] | rw [gI_sF, if_neg (by omega)] | rw [gI_sJ] | rw [gI_sG] | rw [gI_sQ])))
      · exact hI.2.1.fr (by (repeat (first | rw [gI_sI, if_neg (by omega)] | rw [gI_sF, if_neg (by omega)] | rw [gI_sJ] | rw [gI_sG] | rw [gI_sQ]))) (by (repeat (first | rw [gI_sI, if_neg (by omega)] | rw [gI_sF, if_neg (by omega)] | rw [gI_sJ] | rw [gI_sG] | rw [gI_sQ]))) (fun i => by (repeat (first | rw [gI_sI, if_neg (by omega)] | rw [gI_sF, if_neg (by omega)] | rw [gI_sJ] | rw [gI_sG] | rw [gI_sQ]))) (fun i => by (repeat (first | rw [gI_sI, if_neg (by omega)] | rw [gI_sF, if_neg (by omega)] | rw [gI_sJ] | rw [gI_sG] | rw [gI_sQ]))) (fun i => by (repeat (first | rw [gI_sI, if_neg (by omega)] | rw [gI_sF, if_neg (by omega)] | rw [gI_sJ] | rw [gI_sG] | rw [gI_sQ]))) (fun i => by (repeat (first | rw [gI_sI, if_neg (by omega)] | rw [gI_sF, if_neg (by omega)] | rw [gI_sJ] | rw [gI_sG] | rw [gI_sQ]))) (fun i => by (repeat (first | rw [gI_sI, if_neg (by omega)] | rw [gI_sF, if_neg (by omega)] | rw [gI_sJ] | rw [gI_sG] | rw [gI_sQ]))) (fun i _ _ => by (repeat (first | rw [gI_sI, if_neg (by omega)] | rw [gI_sF, if_neg (by omega)] | rw [gI_sJ] | rw [gI_sG] | rw [gI_sQ])))
      · refine ⟨⟨?_, ?_, ?_⟩, fun i q1 q2 => ?_⟩
        · simp (disch := first | omega | assumption | exact b01_rng _ | exact st_5 | exact st_12 | exact st_19 | (simp only [isSt_sI, isSt_sJ, isSt_sF, isSt_sG, isSt_sA]; assumption)) only [gI_sI, i_lit, i_add, i_sub, i_mul, i_neg, i_lt, i_le, i_eq, i32_gI, i64_gJ, i32_id, i32_to, i64_to, sI_i32, sJ_i64, b01_t, b01_f, i32_b01, b01_0, ↓a_s0, ↓n_s0, ↓a_s1, ↓n_s1, Int.add_zero, t_lt, f_lt, t_le, f_le, t_eq, f_eq, true_and, and_true, false_and, and_false, and_self, ↓reduceIte, z_bool_of, or_true, true_or, or_false, false_or, Int.neg_neg, not_true_eq_false, not_false_eq_true, lg_lt, lg_le, lg_gt, lg_ge, lg_eq, j_lit, j_add, j_sub, j_mul, j_neg, j_eq, i64_id, ij, ji, z_rt, Nat.reduceEqDiff, Nat.reduceAdd, Int.reduceAdd, Int.reduceSub, Int.reduceMul, Int.reduceNeg, Int.reduceLT, Int.reduceLE, Int.reduceEq]
        · simp (disch := first | omega | assumption | exact b01_rng _ | exact st_5 | exact st_12 | exact st_19 | (simp only [isSt_sI, isSt_sJ, isSt_sF, isSt_sG, isSt_sA]; assumption)) only [gI_sI, i_lit, i_add, i_sub, i_mul, i_neg, i_lt, i_le, i_eq, i32_gI, i64_gJ, i32_id, i32_to, i64_to, sI_i32, sJ_i64, b01_t, b01_f, i32_b01, b01_0, ↓a_s0, ↓n_s0, ↓a_s1, ↓n_s1, Int.add_zero, t_lt, f_lt, t_le, f_le, t_eq, f_eq, true_and, and_true, false_and, and_false, and_self, ↓reduceIte, z_bool_of, or_true, true_or, or_false, false_or, Int.neg_neg, not_true_eq_false, not_false_eq_true, lg_lt, lg_le, lg_gt, lg_ge, lg_eq, j_lit, j_add, j_sub, j_mul, j_neg, j_eq, i64_id, ij, ji, z_rt, Nat.reduceEqDiff, Nat.reduceAdd, Int.reduceAdd, Int.reduceSub, Int.reduceMul, Int.reduceNeg, Int.reduceLT, Int.reduceLE, Int.reduceEq]
        · simp (disch := first | omega | assumption | exact b01_rng _ | exact st_5 | exact st_12 | exact st_19 | (simp only [isSt_sI, isSt_sJ, isSt_sF, isSt_sG, isSt_sA]; assumption)) only [gI_sI, i_lit, i_add, i_sub, i_mul, i_neg, i_lt, i_le, i_eq, i32_gI, i64_gJ, i32_id, i32_to, i64_to, sI_i32, sJ_i64, b01_t, b01_f, i32_b01, b01_0, ↓a_s0, ↓n_s0, ↓a_s1, ↓n_s1, Int.add_zero, t_lt, f_lt, t_le, f_le, t_eq, f_eq, true_and, and_true, false_and, and_false, and_self, ↓reduceIte, z_bool_of, or_true, true_or, or_false, false_or, Int.neg_neg, not_true_eq_false, not_false_eq_true, lg_lt, lg_le, lg_gt, lg_ge, lg_eq, j_lit, j_add, j_sub, j_mul, j_neg, j_eq, i64_id, ij, ji, z_rt, Nat.reduceEqDiff, Nat.reduceAdd, Int.reduceAdd, Int.reduceSub, Int.reduceMul, Int.reduceNeg, Int.reduceLT, Int.reduceLE, Int.reduceEq]
        · simp (disch := first | omega | assumption | exact b01_rng _ | exact st_5 | exact st_12 | exact st_19 | (simp only [isSt_sI, isSt_sJ, isSt_sF, isSt_sG, isSt_sA]; assumption)) only [gI_sI, i_lit, i_add, i_sub, i_mul, i_neg, i_lt, i_le, i_eq, i32_gI, i64_gJ, i32_id, i32_to, i64_to, sI_i32, sJ_i64, b01_t, b01_f, i32_b01, b01_0, ↓a_s0, ↓n_s0, ↓a_s1, ↓n_s1, Int.add_zero, t_lt, f_lt, t_le, f_le, t_eq, f_eq, true_and, and_true, false_and, and_false, and_self, ↓reduceIte, z_bool_of, or_true, true_or, or_false, false_or, Int.neg_neg, not_true_eq_false, not_false_eq_true, lg_lt, lg_le, lg_gt, lg_ge, lg_eq, j_lit, j_add, j_sub, j_mul, j_neg, j_eq, i64_id, ij, ji, z_rt, Nat.reduceEqDiff, Nat.reduceAdd, Int.reduceAdd, Int.reduceSub, Int.reduceMul, Int.reduceNeg, Int.reduceLT, Int.reduceLE, Int.reduceEq] at q2
      · obtain ⟨m1, m2, m3, m4, m5, m6, m7, m8, m9⟩ := id hI.2.2.2.1
        unfold MsRel
        simp only [gI_sI, Nat.reduceEqDiff, false_and, and_false, if_false, Int.reduceEq]
        exact ⟨m1, m2, m3, m4, m5, m6, m7, m8, m9⟩
      · exact hI.2.2.2.2.1.fr (by (repeat (first | rw [gI_sI, if_neg (by omega)] | rw [gI_sF, if_neg (by omega)] | rw [gI_sJ] | rw [gI_sG] | rw [gI_sQ]))) (by (repeat (first | rw [gI_sI, if_neg (by omega)] | rw [gI_sF, if_neg (by omega)] | rw [gI_sJ] | rw [gI_sG] | rw [gI_sQ]))) (fun i => by (repeat (first | rw [gI_sI, if_neg (by omega)] | rw [gI_sF, if_neg (by omega)] | rw [gI_sJ] | rw [gI_sG] | rw [gI_sQ]))) (fun i => by (repeat (first | rw [gI_sI, if_neg (by omega)] | rw [gI_sF, if_neg (by omega)] | rw [gI_sJ] | rw [gI_sG] | rw [gI_sQ])))
      · exact hI.2.2.2.2.2.1.1
    have e : tellS (sI (sI (cR (sI S 35 1 0) (-5)) 72 0 0) 72 13 0) (-5) = rfS (sI (sI S 35 1 0) 72 13 0) (-5) := by
      unfold tellS rfS cR
      rw [if_pos (by omega)]
      refine zS_ext (fun a i => ?_) (fun _ _ => rfl) (fun _ _ => rfl) (fun _ => rfl) rfl rfl
      simp only [gI_sI, rix]
      by_cases w73 : a = 73
      · subst w73; simp
      · by_cases w72 : a = 72
        · subst w72
          by_cases w1 : i = 1
          · subst w1; simp
          · by_cases w0 : i = 0
            · subst w0; simp
            · by_cases w13 : i = 13
              · subst w13; simp
              · simp [w1, w0, w13]
        · by_cases w71 : a = 71
          · subst w71; simp
          · simp [w73, w72, w71]
    rw [e] at hm
    exact ⟨_, _, _, hc, hm, hI0.rf hG (by omega), Nat.le_add_right _ _, Nat.le_add_right _ _, Or.inl ⟨_, rfl⟩⟩
  · obtain ⟨T, hT, hx⟩ := x104 (X := X) (d := d) (by omega) hI.2.2.1 hfx.1 (k := gI S 74 1) s1 (by omega)
    have hb : ∀ (S' : zS) (f : Int), r32 f → z_ev X d (z_entry 104 [.ref 4] (mk S)) = some (some (.int (Int32.ofInt (-6))), mk (cR (sI S' 4 17 f) (-6))) → FrCl (sI S 35 1 0) S' → (∀ C, C = cR (sI S' 4 17 f) (-6) → StW C → gI C 72 13 = gI S 72 13 → gI C 81 = gI S 81 → gI C 74 1 = gI S 74 1 → ∃ Z : zS, z_ev X d (z_entry 219 [.ref 72] (mk C)) = some (some (.int (Int32.ofInt (-6))), mk (tellS (sI Z 72 13 0) (-6))) ∧ FrRf (sI C 72 0 0) Z ∧ gI Z 72 18 = f) → PairAt PM Q X 104 219 [] S d := by
      intro S' f hf g1 g2 g3
      have c1 : ∀ a i, ¬ (37 ≤ a ∧ a ≤ 51) → ¬ (a = 35 ∧ i = 1) → a ≠ 4 → a ≠ 71 → gI (cR (sI S' 4 17 f) (-6)) a i = gI S a i := fun a i q1 q2 q3 q4 => by
        rw [cR_I q3 q4, gI_sI, if_neg (by omega), g2.2.1 a i q1, gI_sI, if_neg q2]
      obtain ⟨Z, z1, z2, z3⟩ := g3 _ rfl (by
        have := hfx.2.2.2.2.2.2.1
        unfold StW
        have e : ∀ i, gJ (cR (sI S' 4 17 f) (-6)) 93 i = gJ S 93 i := fun i => g2.2.2.1 93 i
        simp only [e]; exact this) (c1 _ _ (by omega) (by omega) (by omega) (by omega)) (funext fun i => c1 _ _ (by omega) (by omega) (by omega) (by omega)) (c1 _ _ (by omega) (by omega) (by omega) (by omega))
      obtain ⟨v1, v2⟩ := metre_bad h2 hI g2 hf z2 z3
      exact pair_ok _ _ g1 z1 v1 v2
    have hr : ∀ e, r32 (tpos (gI S 81) (gI S 72 13) e) := fun e => by
      have := tpos_rng (b := gI S 81) t2 e; omega
    have hy := fun (C : zS) (w1 : StW C) (w2 : gI C 72 13 = gI S 72 13) (w3 : gI C 81 = gI S 81) (w4 : gI C 74 1 = gI S 74 1) => x219 (X := X) (d := d) (by omega) hT (S := C) w1 w2 w3 (k := gI S 74 1) w4 (by omega)
    cases hp : pM (tc (gI S 81) (gI S 72 13)) (tv (gI S 81) (gI S 72 13)) 8 0 with
    | inl e =>
      rw [hp] at hx hy
      obtain ⟨S', g1, g2⟩ := hx
      exact hb S' _ (hr e) g1 g2 (fun C _ w1 w2 w3 w4 => hy C w1 w2 w3 w4)
    | inr p =>
      obtain ⟨ops, u1⟩ := p
      rw [hp] at hx hy
      simp only [] at hx hy
      by_cases w : tc (gI S 81) (gI S 72 13) u1 = 301
      · rw [if_pos w] at hx
        simp only [if_pos w] at hy
        obtain ⟨x, x1, x2, hx⟩ := hx
        by_cases w2 : x.2.1 ≤ 200
        · rw [if_pos w2] at hx
          obtain ⟨S', g1, g2, g3⟩ := hx
          have hN := hfx.1
          have eN : gN (sI S 35 1 0) = gN S := rfl
          have c1 : ∀ b i, b < 114 → ¬ (37 ≤ b ∧ b ≤ 51) → ¬ (b = 35 ∧ i = 1) → b ≠ 4 → ¬ (b = 5 ∧ i = 8) → gI (sI (sI (sQ (sI S' 4 17 (-1)) 10 (gI S 74 1) (some (gN S))) 5 8 (gI S 74 1 + 1)) 4 16 0) b i = gI S b i := fun b i q0 q1 q2 q3 q4 => by
            (repeat (first | rw [gI_sI, if_neg (by omega)] | rw [gI_sF, if_neg (by omega)] | rw [gI_sJ] | rw [gI_sG] | rw [gI_sQ])); rw [g3.2.2.1 b (by omega) q1 i, gI_sI, if_neg q2]
          have := hy (sI (sI (sQ (sI S' 4 17 (-1)) 10 (gI S 74 1) (some (gN S))) 5 8 (gI S 74 1 + 1)) 4 16 0) (by
            have := hfx.2.2.2.2.2.2.1
            unfold StW
            have e : ∀ i, gJ (sI (sI (sQ (sI S' 4 17 (-1)) 10 (gI S 74 1) (some (gN S))) 5 8 (gI S 74 1 + 1)) 4 16 0) 93 i = gJ S 93 i := fun i => g3.2.2.2.2.1 93 i
            simp only [e]; exact this) (c1 _ _ (by omega) (by omega) (by omega) (by omega) (by omega)) (funext fun i => c1 _ _ (by omega) (by omega) (by omega) (by omega) (by omega)) (c1 _ _ (by omega) (by omega) (by omega) (by omega) (by omega)) x x1 x2
          rw [if_pos w2] at this
          obtain ⟨Z, z1, z2, z3, z4⟩ := this
          obtain ⟨v1, v2, v3⟩ := metre_ok h2 hI rfl (by omega) g3 g2 x2 w2 z2 z3 z4
          exact ⟨_, _, _, g1, z1, v1, by omega, by omega, Or.inl ⟨_, rfl⟩⟩
        · rw [if_neg w2] at hx
          obtain ⟨S', g1, g2⟩ := hx
          refine hb S' _ (hr u1) g1 g2 (fun C _ y1 y2 y3 y4 => ?_)
          have := hy C y1 y2 y3 y4 x x1 x2
          rw [if_neg w2] at this
          exact this
      · rw [if_neg w] at hx
        simp only [if_neg w] at hy
        obtain ⟨S', g1, g2⟩ := hx
        exact hb S' _ (hr u1) g1 g2 (fun C _ w1 w2 w3 w4 => hy C w1 w2 w3 w4)
