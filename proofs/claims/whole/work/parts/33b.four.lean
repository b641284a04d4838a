/-! four bytes -/
def fourS (S : zS) (a b : Nat) (k x : Int) : zS := let n := gI S b k; sI (sF S a n (n + 4) (fun j => byt x (24 - 8 * (j - n)))) b k (n + 4)
theorem four_eq (S : zS) (a b : Nat) (k n x : Int) (hab : a ≠ b) (hn : 0 ≤ n ∧ n < 1000) (hg : gI S b k = n) : sI (sI (sI (sI (sI (sI (sI (sI S a n (byt x 24)) b k (n + 1)) a (n + 1) (byt x 16)) b k (n + 1 + 1)) a (n + 1 + 1) (byt x 8)) b k (n + 1 + 1 + 1)) a (n + 1 + 1 + 1) (byt x 0)) b k (n + 1 + 1 + 1 + 1) = fourS S a b k x := by
  unfold fourS
  refine zS_ext (fun c j => ?_) (fun _ _ => rfl) (fun _ _ => rfl) (fun _ => rfl) rfl rfl
  simp only [gI_sI, gI_sF, hg]
  by_cases q1 : c = b
  · subst q1
    have : ¬ (c = a) := fun h => hab h.symm
    simp only [this, true_and, false_and, if_false]
    by_cases q2 : j = k
    · simp only [q2, if_true]; congr 1; omega
    · simp only [q2, if_false]
  · by_cases q2 : c = a
    · subst q2
      simp only [q1, true_and, false_and, if_false]
      by_cases w0 : j = n
      · subst w0; rw [if_neg (by omega), if_neg (by omega), if_neg (by omega), if_pos rfl, if_pos (by omega)]; congr 2; omega
      · by_cases w1 : j = n + 1
        · subst w1; rw [if_neg (by omega), if_neg (by omega), if_pos rfl, if_pos (by omega)]; congr 2; omega
        · by_cases w2 : j = n + 1 + 1
          · subst w2; rw [if_neg (by omega), if_pos rfl, if_pos (by omega)]; congr 2; omega
          · by_cases w3 : j = n + 1 + 1 + 1
            · subst w3; rw [if_pos rfl, if_pos (by omega)]; congr 2; omega
            · rw [if_neg w3, if_neg w2, if_neg w1, if_neg w0, if_neg (by omega)]
    · simp only [q1, q2, false_and, if_false]
theorem e81 {X : zX} {d : Nat} (hd : 0 ≤ d) {S : zS} (x : Int) (h : 0 ≤ gI S 35 1 ∧ gI S 35 1 ≤ 396) : z_ev X d (z_entry 81 [.ref 35, .int (Int32.ofInt x)] (mk S)) = some (none, mk (fourS S 36 35 1 x)) := by
  show z_ev X d (81, 0, [some (.ref 35), some (.int (Int32.ofInt x)), none], [], mk S) = _
  have b0 := byt_rng x 0
  have b8 := byt_rng x 8
  have b16 := byt_rng x 16
  have b24 := byt_rng x 24
  rw [← four_eq S 36 35 1 (gI S 35 1) x (by omega) (by omega) rfl]
  simp (disch := first | omega | assumption | exact b01_rng _ | exact st_5 | exact st_12 | exact st_19 | (simp only [isSt_sI, isSt_sJ, isSt_sF, isSt_sG, isSt_sA]; assumption)) only [↓B81_0, ↓B81_3, ↓B81_7, ↓B81_14, ↓B81_26, ↓B81_52, ↓B81_58, ↓a_36, ↓n_36, ↓r_35_0, ↓r_35_1, ↓s_36, ↓w_35_1, i_lit, i_add, i_sub, i_mul, i_neg, i_lt, i_le, i_eq, i32_gI, i64_gJ, i32_id, i32_to, i64_to, sI_i32, sJ_i64, b01_t, b01_f, i32_b01, b01_0, ↓a_s0, ↓n_s0, ↓a_s1, ↓n_s1, Int.add_zero, t_lt, f_lt, t_le, f_le, t_eq, f_eq, true_and, and_true, false_and, and_false, and_self, ↓reduceIte, z_bool_of, or_true, true_or, or_false, false_or, Int.neg_neg, not_true_eq_false, not_false_eq_true, lg_lt, lg_le, lg_gt, lg_ge, lg_eq, j_lit, j_add, j_sub, j_mul, j_neg, j_eq, i64_id, ij, ji, z_rt, Nat.reduceEqDiff, Nat.reduceAdd, Int.reduceAdd, Int.reduceSub, Int.reduceMul, Int.reduceNeg, Int.reduceLT, Int.reduceLE, Int.reduceEq, gI_sI, gI_sJ, gI_sF, gI_sG, gI_sQ, gI_sA, gJ_sI, gJ_sJ, gJ_sF, gJ_sG, gJ_sQ, gJ_sA, gQ_sI, gQ_sJ, gQ_sF, gQ_sG, gQ_sQ, gQ_sA, gH_sI, gH_sJ, gH_sF, gH_sG, gH_sQ, gH_sA, gN_sI, gN_sJ, gN_sF, gN_sG, gN_sQ, gN_sA, gW_sI, gW_sJ, gW_sF, gW_sG, gW_sQ, gW_sA, byt_of]
theorem c81 {X : zX} {d : Nat} (hd : 0 < d) {S : zS} (x : Int) (h : 0 ≤ gI S 35 1 ∧ gI S 35 1 ≤ 396) {cm cp : Nat} {L : zL} {st : List Value} : z_evc X d 81 [.ref 35, .int (Int32.ofInt x)] (cm, cp, L, st, mk S) = z_ev X d (cm, cp, L, st, mk (fourS S 36 35 1 x)) := z_evc_of (r := (none, mk (fourS S 36 35 1 x))) (ck := (cm, cp, L, st, mk S)) hd (e81 (X := X) (Nat.le_refl _) x h)
theorem e170 {X : zX} {d : Nat} (hd : 0 ≤ d) {S : zS} (x : Int) (h : 0 ≤ gI S 72 13 ∧ gI S 72 13 ≤ 396) : z_ev X d (z_entry 170 [.ref 72, .int (Int32.ofInt x)] (mk S)) = some (none, mk (fourS S 81 72 13 x)) := by
  show z_ev X d (170, 0, [some (.ref 72), some (.int (Int32.ofInt x)), none], [], mk S) = _
  have b0 := byt_rng x 0
  have b8 := byt_rng x 8
  have b16 := byt_rng x 16
  have b24 := byt_rng x 24
  rw [← four_eq S 81 72 13 (gI S 72 13) x (by omega) (by omega) rfl]
  simp (disch := first | omega | assumption | exact b01_rng _ | exact st_5 | exact st_12 | exact st_19 | (simp only [isSt_sI, isSt_sJ, isSt_sF, isSt_sG, isSt_sA]; assumption)) only [↓B170_0, ↓B170_3, ↓B170_7, ↓B170_39, ↓a_81, ↓n_81, ↓r_72_12, ↓r_72_13, ↓s_81, ↓w_72_13, i_lit, i_add, i_sub, i_mul, i_neg, i_lt, i_le, i_eq, i32_gI, i64_gJ, i32_id, i32_to, i64_to, sI_i32, sJ_i64, b01_t, b01_f, i32_b01, b01_0, ↓a_s0, ↓n_s0, ↓a_s1, ↓n_s1, Int.add_zero, t_lt, f_lt, t_le, f_le, t_eq, f_eq, true_and, and_true, false_and, and_false, and_self, ↓reduceIte, z_bool_of, or_true, true_or, or_false, false_or, Int.neg_neg, not_true_eq_false, not_false_eq_true, lg_lt, lg_le, lg_gt, lg_ge, lg_eq, j_lit, j_add, j_sub, j_mul, j_neg, j_eq, i64_id, ij, ji, z_rt, Nat.reduceEqDiff, Nat.reduceAdd, Int.reduceAdd, Int.reduceSub, Int.reduceMul, Int.reduceNeg, Int.reduceLT, Int.reduceLE, Int.reduceEq, gI_sI, gI_sJ, gI_sF, gI_sG, gI_sQ, gI_sA, gJ_sI, gJ_sJ, gJ_sF, gJ_sG, gJ_sQ, gJ_sA, gQ_sI, gQ_sJ, gQ_sF, gQ_sG, gQ_sQ, gQ_sA, gH_sI, gH_sJ, gH_sF, gH_sG, gH_sQ, gH_sA, gN_sI, gN_sJ, gN_sF, gN_sG, gN_sQ, gN_sA, gW_sI, gW_sJ, gW_sF, gW_sG, gW_sQ, gW_sA, byt_of]

theorem c170 {X : zX} {d : Nat} (hd : 0 < d) {S : zS} (x : Int) (h : 0 ≤ gI S 72 13 ∧ gI S 72 13 ≤ 396) {cm cp : Nat} {L : zL} {st : List Value} : z_evc X d 170 [.ref 72, .int (Int32.ofInt x)] (cm, cp, L, st, mk S) = z_ev X d (cm, cp, L, st, mk (fourS S 81 72 13 x)) := z_evc_of (r := (none, mk (fourS S 81 72 13 x))) (ck := (cm, cp, L, st, mk S)) hd (e170 (X := X) (Nat.le_refl _) x h)