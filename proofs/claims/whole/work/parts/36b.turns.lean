/-! weigh, ends, meets, undo -/
theorem remS_74 {S : zS} {k i : Int} : gI (remS S k) 74 i = gI S 74 i := remS_o (by omega)
theorem addS_6 {S : zS} {k s w i : Int} : gI (addS S k s w) 6 i = gI S 6 i := addS_o (by omega)
theorem addS_7 {S : zS} {k s w i : Int} : gI (addS S k s w) 7 i = gI S 7 i := addS_o (by omega)
theorem addS_cong {S S1 : zS} {k s w : Int} (h : ∀ a i, 27 ≤ a → a ≤ 30 → gI S1 a i = gI S a i) {a : Nat} {i : Int} (h1 : 27 ≤ a) (h2 : a ≤ 30) : gI (addS S1 k s w) a i = gI (addS S k s w) a i := by
  unfold addS histS dropS
  rw [h 27 3 (by decide) (by decide)]
  split
  · simp only [gI_sI, h _ _ h1 h2, h 27 3 (by decide) (by decide)]
  · simp only [gI_sI, gI_sF, h _ _ h1 h2, h 27 _ (by decide) (by decide), h 28 _ (by decide) (by decide), h 29 _ (by decide) (by decide), h 30 _ (by decide) (by decide)]
theorem LH.weigh {P Q : zP} (hG : Good P Q) {S T : zS} (h : LH P Q S T) {p w v : Int} (hw : 0 ≤ w ∧ w ≤ 2) (hp : 0 ≤ p ∧ p < gI T 74 0) (hv : gI T 74 (8 + p) = v) : LH P Q (addS (sI S 6 (3 * p) w) 0 p v) (sI (remS T 0) 74 (8 + p) w) ∧ FrC S (addS (sI S 6 (3 * p) w) 0 p v) ∧ FrM T (sI (remS T 0) 74 (8 + p) w) := by
  obtain ⟨hS, hH⟩ := h
  obtain ⟨b1, b2, b3, b4, b5, b6, b7, b8, b9, b10⟩ := id hS
  simp only [Nat.reduceAdd] at b6 b7
  have bp := b7 p hp.1 (by omega)
  have hD : Dyn S (addS (sI S 6 (3 * p) w) 0 p v) := Dyn.add (Dyn.sI (by decide) Dyn.rf)
  refine ⟨⟨hS.ln hG hD (fun i q => ?_) (fun i => ?_) (fun i => ?_) (fun i => by rw [addS_J.2]; rfl) (fun i => by rw [addS_J.2]; rfl) (fun i q => ?_) ?_ ?_ (fun j q1 q2 => ?_), hH.add (K := 0) (s := p) (w := v) (fun a i q1 q2 => addS_cong (fun a i w1 w2 => by (repeat (first | rw [gI_sI, if_neg (by omega)] | rw [gI_sF, if_neg (by omega)] | rw [gI_sJ] | rw [gI_sG] | rw [gI_sQ]))) q1 q2) (by (repeat (first | rw [gI_sI, if_neg (by omega)] | rw [gI_sF, if_neg (by omega)] | rw [gI_sJ] | rw [gI_sG] | rw [gI_sQ]))) (fun i => by (repeat (first | rw [gI_sI, if_neg (by omega)] | rw [gI_sF, if_neg (by omega)] | rw [gI_sJ] | rw [gI_sG] | rw [gI_sQ]))) (fun i => by (repeat (first | rw [gI_sI, if_neg (by omega)] | rw [gI_sF, if_neg (by omega)] | rw [gI_sJ] | rw [gI_sG] | rw [gI_sQ]))) (by omega) (by omega) (by omega) (by omega) (by omega) (by omega) (fun i q1 q2 => ?_)⟩, ⟨hD, fun a i q1 q2 q3 => ?_, fun a i => addS_J.1 a i, fun a i => addS_J.2 a i⟩, ⟨Dyn.sI (by decide) (Dyn.rem Dyn.rf), fun a i q1 q2 q3 q4 => ?_, fun a i => (remS_J (S := T) (k := 0)).1 a i, fun a i => (remS_J (S := T) (k := 0)).2 a i⟩⟩
  · rw [addS_o (by omega)]; (repeat (first | rw [gI_sI, if_neg (by omega)] | rw [gI_sF, if_neg (by omega)] | rw [gI_sJ] | rw [gI_sG] | rw [gI_sQ]))
  · rw [addS_o (by omega)]; (repeat (first | rw [gI_sI, if_neg (by omega)] | rw [gI_sF, if_neg (by omega)] | rw [gI_sJ] | rw [gI_sG] | rw [gI_sQ]))
  · rw [addS_o (by omega)]; (repeat (first | rw [gI_sI, if_neg (by omega)] | rw [gI_sF, if_neg (by omega)] | rw [gI_sJ] | rw [gI_sG] | rw [gI_sQ]))
  · (repeat (first | rw [gI_sI, if_neg (by omega)] | rw [gI_sF, if_neg (by omega)] | rw [gI_sJ] | rw [gI_sG] | rw [gI_sQ])); rw [remS_o (by omega)]
  · rw [addS_o (by omega)]; (repeat (first | rw [gI_sI, if_neg (by omega)] | rw [gI_sF, if_neg (by omega)] | rw [gI_sJ] | rw [gI_sG] | rw [gI_sQ])); rw [remS_o (by omega)]; exact b1
  · simp only [Nat.reduceAdd, addS_7, gI_sI, remS_74]
    simp (disch := first | omega | assumption | exact b01_rng _ | exact st_5 | exact st_12 | exact st_19 | (simp only [isSt_sI, isSt_sJ, isSt_sF, isSt_sG, isSt_sA]; assumption)) only [i_lit, i_add, i_sub, i_mul, i_neg, i_lt, i_le, i_eq, i32_gI, i64_gJ, i32_id, i32_to, i64_to, sI_i32, sJ_i64, b01_t, b01_f, i32_b01, b01_0, ↓a_s0, ↓n_s0, ↓a_s1, ↓n_s1, Int.add_zero, t_lt, f_lt, t_le, f_le, t_eq, f_eq, true_and, and_true, false_and, and_false, and_self, ↓reduceIte, z_bool_of, or_true, true_or, or_false, false_or, Int.neg_neg, not_true_eq_false, not_false_eq_true, lg_lt, lg_le, lg_gt, lg_ge, lg_eq, j_lit, j_add, j_sub, j_mul, j_neg, j_eq, i64_id, ij, ji, z_rt, Nat.reduceEqDiff, Nat.reduceAdd, Int.reduceAdd, Int.reduceSub, Int.reduceMul, Int.reduceNeg, Int.reduceLT, Int.reduceLE, Int.reduceEq]
  · have bj := b7 j q1 q2
    simp only [Nat.reduceAdd, addS_6, gI_sI, remS_74]
    by_cases q : j = p
    · subst q; simp (disch := first | omega | assumption | exact b01_rng _ | exact st_5 | exact st_12 | exact st_19 | (simp only [isSt_sI, isSt_sJ, isSt_sF, isSt_sG, isSt_sA]; assumption)) only [i_lit, i_add, i_sub, i_mul, i_neg, i_lt, i_le, i_eq, i32_gI, i64_gJ, i32_id, i32_to, i64_to, sI_i32, sJ_i64, b01_t, b01_f, i32_b01, b01_0, ↓a_s0, ↓n_s0, ↓a_s1, ↓n_s1, Int.add_zero, t_lt, f_lt, t_le, f_le, t_eq, f_eq, true_and, and_true, false_and, and_false, and_self, ↓reduceIte, z_bool_of, or_true, true_or, or_false, false_or, Int.neg_neg, not_true_eq_false, not_false_eq_true, lg_lt, lg_le, lg_gt, lg_ge, lg_eq, j_lit, j_add, j_sub, j_mul, j_neg, j_eq, i64_id, ij, ji, z_rt, Nat.reduceEqDiff, Nat.reduceAdd, Int.reduceAdd, Int.reduceSub, Int.reduceMul, Int.reduceNeg, Int.reduceLT, Int.reduceLE, Int.reduceEq]
    · simp (disch := first | omega | assumption | exact b01_rng _ | exact st_5 | exact st_12 | exact st_19 | (simp only [isSt_sI, isSt_sJ, isSt_sF, isSt_sG, isSt_sA]; assumption)) only [i_lit, i_add, i_sub, i_mul, i_neg, i_lt, i_le, i_eq, i32_gI, i64_gJ, i32_id, i32_to, i64_to, sI_i32, sJ_i64, b01_t, b01_f, i32_b01, b01_0, ↓a_s0, ↓n_s0, ↓a_s1, ↓n_s1, Int.add_zero, t_lt, f_lt, t_le, f_le, t_eq, f_eq, true_and, and_true, false_and, and_false, and_self, ↓reduceIte, z_bool_of, or_true, true_or, or_false, false_or, Int.neg_neg, not_true_eq_false, not_false_eq_true, lg_lt, lg_le, lg_gt, lg_ge, lg_eq, j_lit, j_add, j_sub, j_mul, j_neg, j_eq, i64_id, ij, ji, z_rt, Nat.reduceEqDiff, Nat.reduceAdd, Int.reduceAdd, Int.reduceSub, Int.reduceMul, Int.reduceNeg, Int.reduceLT, Int.reduceLE, Int.reduceEq]
  · unfold undoAt
    dsimp only
    rw [if_pos rfl, gI_sI, remS_o (by omega)]
    by_cases q : i = 3 + p
    · rw [if_pos q, ← hv]; congr 1; omega
    · rw [if_neg q, if_neg (by omega)]
  · rw [addS_o (by omega)]; (repeat (first | rw [gI_sI, if_neg (by omega)] | rw [gI_sF, if_neg (by omega)] | rw [gI_sJ] | rw [gI_sG] | rw [gI_sQ]))
  · (repeat (first | rw [gI_sI, if_neg (by omega)] | rw [gI_sF, if_neg (by omega)] | rw [gI_sJ] | rw [gI_sG] | rw [gI_sQ])); rw [remS_o (by omega)]
theorem LH.turn {P Q : zP} (hG : Good P Q) {S T : zS} (h : LH P Q S T) {p k v : Int} (hk : k = 1 ∨ k = 2) (hp : 0 ≤ p ∧ p < gI T 74 0) (hv : gI T 74 (8 + 20 * k + p) = v) : LH P Q (sI (addS S k p 0) 6 (3 * p + k) (1 - v)) (sI (remS T k) 74 (8 + 20 * k + p) (1 - v)) ∧ FrC S (sI (addS S k p 0) 6 (3 * p + k) (1 - v)) ∧ FrM T (sI (remS T k) 74 (8 + 20 * k + p) (1 - v)) := by
  obtain ⟨hS, hH⟩ := h
  obtain ⟨b1, b2, b3, b4, b5, b6, b7, b8, b9, b10⟩ := id hS
  simp only [Nat.reduceAdd] at b6 b7
  have bp := b7 p hp.1 (by omega)
  have hD : Dyn S (sI (addS S k p 0) 6 (3 * p + k) (1 - v)) := Dyn.sI (by decide) (Dyn.add Dyn.rf)
  have hvr : 0 ≤ v ∧ v ≤ 1 := by
    rcases hk with rfl | rfl
    · rw [show 8 + 20 * 1 + p = 28 + p by omega] at hv; omega
    · rw [show 8 + 20 * 2 + p = 48 + p by omega] at hv; omega
  refine ⟨⟨hS.ln hG hD (fun i q => ?_) (fun i => ?_) (fun i => ?_) (fun i => (addS_J (S := S) (k := k) (s := p) (w := 0)).2 _ _) (fun i => (addS_J (S := S) (k := k) (s := p) (w := 0)).2 _ _) (fun i q => ?_) ?_ ?_ (fun j q1 q2 => ?_), hH.add (K := k) (s := p) (w := 0) (fun a i q1 q2 => by (repeat (first | rw [gI_sI, if_neg (by omega)] | rw [gI_sF, if_neg (by omega)] | rw [gI_sJ] | rw [gI_sG] | rw [gI_sQ]))) (by (repeat (first | rw [gI_sI, if_neg (by omega)] | rw [gI_sF, if_neg (by omega)] | rw [gI_sJ] | rw [gI_sG] | rw [gI_sQ]))) (fun i => by (repeat (first | rw [gI_sI, if_neg (by omega)] | rw [gI_sF, if_neg (by omega)] | rw [gI_sJ] | rw [gI_sG] | rw [gI_sQ]))) (fun i => by (repeat (first | rw [gI_sI, if_neg (by omega)] | rw [gI_sF, if_neg (by omega)] | rw [gI_sJ] | rw [gI_sG] | rw [gI_sQ]))) (by omega) (by omega) (by omega) (by omega) (by omega) (by omega) (fun i q1 q2 => ?_)⟩, ⟨hD, fun a i q1 q2 q3 => ?_, fun a i => (addS_J (S := S) (k := k) (s := p) (w := 0)).1 a i, fun a i => (addS_J (S := S) (k := k) (s := p) (w := 0)).2 a i⟩, ⟨Dyn.sI (by decide) (Dyn.rem Dyn.rf), fun a i q1 q2 q3 q4 => ?_, fun a i => (remS_J (S := T) (k := k)).1 a i, fun a i => (remS_J (S := T) (k := k)).2 a i⟩⟩
  · (repeat (first | rw [gI_sI, if_neg (by omega)] | rw [gI_sF, if_neg (by omega)] | rw [gI_sJ] | rw [gI_sG] | rw [gI_sQ])); rw [addS_o (by omega)]
  · (repeat (first | rw [gI_sI, if_neg (by omega)] | rw [gI_sF, if_neg (by omega)] | rw [gI_sJ] | rw [gI_sG] | rw [gI_sQ])); rw [addS_o (by omega)]
  · (repeat (first | rw [gI_sI, if_neg (by omega)] | rw [gI_sF, if_neg (by omega)] | rw [gI_sJ] | rw [gI_sG] | rw [gI_sQ])); rw [addS_o (by omega)]
  · (repeat (first | rw [gI_sI, if_neg (by omega)] | rw [gI_sF, if_neg (by omega)] | rw [gI_sJ] | rw [gI_sG] | rw [gI_sQ])); rw [remS_o (by omega)]
  · rw [gI_sI, if_neg (by omega), addS_o (by omega), gI_sI, if_neg (by omega), remS_o (by omega)]; exact b1
  · simp only [Nat.reduceAdd, addS_7, gI_sI, remS_74]
    simp (disch := first | omega | assumption | exact b01_rng _ | exact st_5 | exact st_12 | exact st_19 | (simp only [isSt_sI, isSt_sJ, isSt_sF, isSt_sG, isSt_sA]; assumption)) only [i_lit, i_add, i_sub, i_mul, i_neg, i_lt, i_le, i_eq, i32_gI, i64_gJ, i32_id, i32_to, i64_to, sI_i32, sJ_i64, b01_t, b01_f, i32_b01, b01_0, ↓a_s0, ↓n_s0, ↓a_s1, ↓n_s1, Int.add_zero, t_lt, f_lt, t_le, f_le, t_eq, f_eq, true_and, and_true, false_and, and_false, and_self, ↓reduceIte, z_bool_of, or_true, true_or, or_false, false_or, Int.neg_neg, not_true_eq_false, not_false_eq_true, lg_lt, lg_le, lg_gt, lg_ge, lg_eq, j_lit, j_add, j_sub, j_mul, j_neg, j_eq, i64_id, ij, ji, z_rt, Nat.reduceEqDiff, Nat.reduceAdd, Int.reduceAdd, Int.reduceSub, Int.reduceMul, Int.reduceNeg, Int.reduceLT, Int.reduceLE, Int.reduceEq]
  · have bj := b7 j q1 q2
    simp only [Nat.reduceAdd, addS_6, gI_sI, remS_74]
    by_cases q : j = p
    · subst q
      rcases hk with rfl | rfl <;> simp (disch := first | omega | assumption | exact b01_rng _ | exact st_5 | exact st_12 | exact st_19 | (simp only [isSt_sI, isSt_sJ, isSt_sF, isSt_sG, isSt_sA]; assumption)) only [i_lit, i_add, i_sub, i_mul, i_neg, i_lt, i_le, i_eq, i32_gI, i64_gJ, i32_id, i32_to, i64_to, sI_i32, sJ_i64, b01_t, b01_f, i32_b01, b01_0, ↓a_s0, ↓n_s0, ↓a_s1, ↓n_s1, Int.add_zero, t_lt, f_lt, t_le, f_le, t_eq, f_eq, true_and, and_true, false_and, and_false, and_self, ↓reduceIte, z_bool_of, or_true, true_or, or_false, false_or, Int.neg_neg, not_true_eq_false, not_false_eq_true, lg_lt, lg_le, lg_gt, lg_ge, lg_eq, j_lit, j_add, j_sub, j_mul, j_neg, j_eq, i64_id, ij, ji, z_rt, Nat.reduceEqDiff, Nat.reduceAdd, Int.reduceAdd, Int.reduceSub, Int.reduceMul, Int.reduceNeg, Int.reduceLT, Int.reduceLE, Int.reduceEq]
    · simp (disch := first | omega | assumption | exact b01_rng _ | exact st_5 | exact st_12 | exact st_19 | (simp only [isSt_sI, isSt_sJ, isSt_sF, isSt_sG, isSt_sA]; assumption)) only [i_lit, i_add, i_sub, i_mul, i_neg, i_lt, i_le, i_eq, i32_gI, i64_gJ, i32_id, i32_to, i64_to, sI_i32, sJ_i64, b01_t, b01_f, i32_b01, b01_0, ↓a_s0, ↓n_s0, ↓a_s1, ↓n_s1, Int.add_zero, t_lt, f_lt, t_le, f_le, t_eq, f_eq, true_and, and_true, false_and, and_false, and_self, ↓reduceIte, z_bool_of, or_true, true_or, or_false, false_or, Int.neg_neg, not_true_eq_false, not_false_eq_true, lg_lt, lg_le, lg_gt, lg_ge, lg_eq, j_lit, j_add, j_sub, j_mul, j_neg, j_eq, i64_id, ij, ji, z_rt, Nat.reduceEqDiff, Nat.reduceAdd, Int.reduceAdd, Int.reduceSub, Int.reduceMul, Int.reduceNeg, Int.reduceLT, Int.reduceLE, Int.reduceEq]
  · unfold undoAt
    dsimp only
    have e : ∀ i, gI (sI (remS T k) 74 (8 + 20 * k + p) (1 - v)) 74 (5 + i) = if i = 3 + 20 * k + p then 1 - v else gI T 74 (5 + i) := by
      intro i
      rw [gI_sI, remS_o (by omega)]
      by_cases q : i = 3 + 20 * k + p
      · rw [if_pos (by omega), if_pos q, i32_id (by omega) (by omega)]
      · rw [if_neg (by omega), if_neg q]
    rw [e]
    rcases hk with rfl | rfl
    · simp (disch := first | omega | assumption | exact b01_rng _ | exact st_5 | exact st_12 | exact st_19 | (simp only [isSt_sI, isSt_sJ, isSt_sF, isSt_sG, isSt_sA]; assumption)) only [i_lit, i_add, i_sub, i_mul, i_neg, i_lt, i_le, i_eq, i32_gI, i64_gJ, i32_id, i32_to, i64_to, sI_i32, sJ_i64, b01_t, b01_f, i32_b01, b01_0, ↓a_s0, ↓n_s0, ↓a_s1, ↓n_s1, Int.add_zero, t_lt, f_lt, t_le, f_le, t_eq, f_eq, true_and, and_true, false_and, and_false, and_self, ↓reduceIte, z_bool_of, or_true, true_or, or_false, false_or, Int.neg_neg, not_true_eq_false, not_false_eq_true, lg_lt, lg_le, lg_gt, lg_ge, lg_eq, j_lit, j_add, j_sub, j_mul, j_neg, j_eq, i64_id, ij, ji, z_rt, Nat.reduceEqDiff, Nat.reduceAdd, Int.reduceAdd, Int.reduceSub, Int.reduceMul, Int.reduceNeg, Int.reduceLT, Int.reduceLE, Int.reduceEq]
      by_cases q : i = 23 + p
      · rw [if_pos q, show 5 + i = 8 + 20 * 1 + p by omega, hv]; omega
      · rw [if_neg q]
    · simp (disch := first | omega | assumption | exact b01_rng _ | exact st_5 | exact st_12 | exact st_19 | (simp only [isSt_sI, isSt_sJ, isSt_sF, isSt_sG, isSt_sA]; assumption)) only [i_lit, i_add, i_sub, i_mul, i_neg, i_lt, i_le, i_eq, i32_gI, i64_gJ, i32_id, i32_to, i64_to, sI_i32, sJ_i64, b01_t, b01_f, i32_b01, b01_0, ↓a_s0, ↓n_s0, ↓a_s1, ↓n_s1, Int.add_zero, t_lt, f_lt, t_le, f_le, t_eq, f_eq, true_and, and_true, false_and, and_false, and_self, ↓reduceIte, z_bool_of, or_true, true_or, or_false, false_or, Int.neg_neg, not_true_eq_false, not_false_eq_true, lg_lt, lg_le, lg_gt, lg_ge, lg_eq, j_lit, j_add, j_sub, j_mul, j_neg, j_eq, i64_id, ij, ji, z_rt, Nat.reduceEqDiff, Nat.reduceAdd, Int.reduceAdd, Int.reduceSub, Int.reduceMul, Int.reduceNeg, Int.reduceLT, Int.reduceLE, Int.reduceEq]
      by_cases q : i = 43 + p
      · rw [if_pos q, show 5 + i = 8 + 20 * 2 + p by omega, hv]; omega
      · rw [if_neg q]
  · (repeat (first | rw [gI_sI, if_neg (by omega)] | rw [gI_sF, if_neg (by omega)] | rw [gI_sJ] | rw [gI_sG] | rw [gI_sQ])); rw [addS_o (by omega)]
  · (repeat (first | rw [gI_sI, if_neg (by omega)] | rw [gI_sF, if_neg (by omega)] | rw [gI_sJ] | rw [gI_sG] | rw [gI_sQ])); rw [remS_o (by omega)]
theorem LH.pass {P Q : zP} (hG : Good P Q) {S T : zS} (h : LH P Q S T) {v : Int} (hv : gI T 74 5 = v) (hv2 : v < 999) : LH P Q (addS (sI S 7 0 (v + 1)) 3 0 0) (sI (remS T 3) 74 5 (v + 1)) ∧ FrC S (addS (sI S 7 0 (v + 1)) 3 0 0) ∧ FrM T (sI (remS T 3) 74 5 (v + 1)) := by
  obtain ⟨hS, hH⟩ := h
  obtain ⟨b1, b2, b3, b4, b5, b6, b7, b8, b9, b10⟩ := id hS
  simp only [Nat.reduceAdd] at b6 b7
  have hD : Dyn S (addS (sI S 7 0 (v + 1)) 3 0 0) := Dyn.add (Dyn.sI (by decide) Dyn.rf)
  refine ⟨⟨hS.ln hG hD (fun i q => ?_) (fun i => ?_) (fun i => ?_) (fun i => addS_J.2 _ _) (fun i => addS_J.2 _ _) (fun i q => ?_) ?_ ?_ (fun j q1 q2 => ?_), hH.add (K := 3) (s := 0) (w := 0) (fun a i q1 q2 => addS_cong (fun a i w1 w2 => by (repeat (first | rw [gI_sI, if_neg (by omega)] | rw [gI_sF, if_neg (by omega)] | rw [gI_sJ] | rw [gI_sG] | rw [gI_sQ]))) q1 q2) (by (repeat (first | rw [gI_sI, if_neg (by omega)] | rw [gI_sF, if_neg (by omega)] | rw [gI_sJ] | rw [gI_sG] | rw [gI_sQ]))) (fun i => by (repeat (first | rw [gI_sI, if_neg (by omega)] | rw [gI_sF, if_neg (by omega)] | rw [gI_sJ] | rw [gI_sG] | rw [gI_sQ]))) (fun i => by (repeat (first | rw [gI_sI, if_neg (by omega)] | rw [gI_sF, if_neg (by omega)] | rw [gI_sJ] | rw [gI_sG] | rw [gI_sQ]))) (by omega) (by omega) (by omega) (by omega) (by omega) ?_ (fun i q1 q2 => ?_)⟩, ⟨hD, fun a i q1 q2 q3 => ?_, fun a i => addS_J.1 a i, fun a i => addS_J.2 a i⟩, ⟨Dyn.sI (by decide) (Dyn.rem Dyn.rf), fun a i q1 q2 q3 q4 => ?_, fun a i => (remS_J (S := T) (k := 3)).1 a i, fun a i => (remS_J (S := T) (k := 3)).2 a i⟩⟩
  · rw [addS_o (by omega)]; (repeat (first | rw [gI_sI, if_neg (by omega)] | rw [gI_sF, if_neg (by omega)] | rw [gI_sJ] | rw [gI_sG] | rw [gI_sQ]))
  · rw [addS_o (by omega)]; (repeat (first | rw [gI_sI, if_neg (by omega)] | rw [gI_sF, if_neg (by omega)] | rw [gI_sJ] | rw [gI_sG] | rw [gI_sQ]))
  · rw [addS_o (by omega)]; (repeat (first | rw [gI_sI, if_neg (by omega)] | rw [gI_sF, if_neg (by omega)] | rw [gI_sJ] | rw [gI_sG] | rw [gI_sQ]))
  · (repeat (first | rw [gI_sI, if_neg (by omega)] | rw [gI_sF, if_neg (by omega)] | rw [gI_sJ] | rw [gI_sG] | rw [gI_sQ])); rw [remS_o (by omega)]
  · rw [addS_o (by omega), gI_sI, if_neg (by omega), gI_sI, if_neg (by omega), remS_o (by omega)]; exact b1
  · simp only [Nat.reduceAdd, addS_7, gI_sI, remS_74]
    simp (disch := first | omega | assumption | exact b01_rng _ | exact st_5 | exact st_12 | exact st_19 | (simp only [isSt_sI, isSt_sJ, isSt_sF, isSt_sG, isSt_sA]; assumption)) only [i_lit, i_add, i_sub, i_mul, i_neg, i_lt, i_le, i_eq, i32_gI, i64_gJ, i32_id, i32_to, i64_to, sI_i32, sJ_i64, b01_t, b01_f, i32_b01, b01_0, ↓a_s0, ↓n_s0, ↓a_s1, ↓n_s1, Int.add_zero, t_lt, f_lt, t_le, f_le, t_eq, f_eq, true_and, and_true, false_and, and_false, and_self, ↓reduceIte, z_bool_of, or_true, true_or, or_false, false_or, Int.neg_neg, not_true_eq_false, not_false_eq_true, lg_lt, lg_le, lg_gt, lg_ge, lg_eq, j_lit, j_add, j_sub, j_mul, j_neg, j_eq, i64_id, ij, ji, z_rt, Nat.reduceEqDiff, Nat.reduceAdd, Int.reduceAdd, Int.reduceSub, Int.reduceMul, Int.reduceNeg, Int.reduceLT, Int.reduceLE, Int.reduceEq]
  · have bj := b7 j q1 q2
    simp only [Nat.reduceAdd, addS_6, gI_sI, remS_74]
    simp (disch := first | omega | assumption | exact b01_rng _ | exact st_5 | exact st_12 | exact st_19 | (simp only [isSt_sI, isSt_sJ, isSt_sF, isSt_sG, isSt_sA]; assumption)) only [i_lit, i_add, i_sub, i_mul, i_neg, i_lt, i_le, i_eq, i32_gI, i64_gJ, i32_id, i32_to, i64_to, sI_i32, sJ_i64, b01_t, b01_f, i32_b01, b01_0, ↓a_s0, ↓n_s0, ↓a_s1, ↓n_s1, Int.add_zero, t_lt, f_lt, t_le, f_le, t_eq, f_eq, true_and, and_true, false_and, and_false, and_self, ↓reduceIte, z_bool_of, or_true, true_or, or_false, false_or, Int.neg_neg, not_true_eq_false, not_false_eq_true, lg_lt, lg_le, lg_gt, lg_ge, lg_eq, j_lit, j_add, j_sub, j_mul, j_neg, j_eq, i64_id, ij, ji, z_rt, Nat.reduceEqDiff, Nat.reduceAdd, Int.reduceAdd, Int.reduceSub, Int.reduceMul, Int.reduceNeg, Int.reduceLT, Int.reduceLE, Int.reduceEq]
  · intro _
    simp (disch := first | omega | assumption | exact b01_rng _ | exact st_5 | exact st_12 | exact st_19 | (simp only [isSt_sI, isSt_sJ, isSt_sF, isSt_sG, isSt_sA]; assumption)) only [gI_sI, i_lit, i_add, i_sub, i_mul, i_neg, i_lt, i_le, i_eq, i32_gI, i64_gJ, i32_id, i32_to, i64_to, sI_i32, sJ_i64, b01_t, b01_f, i32_b01, b01_0, ↓a_s0, ↓n_s0, ↓a_s1, ↓n_s1, Int.add_zero, t_lt, f_lt, t_le, f_le, t_eq, f_eq, true_and, and_true, false_and, and_false, and_self, ↓reduceIte, z_bool_of, or_true, true_or, or_false, false_or, Int.neg_neg, not_true_eq_false, not_false_eq_true, lg_lt, lg_le, lg_gt, lg_ge, lg_eq, j_lit, j_add, j_sub, j_mul, j_neg, j_eq, i64_id, ij, ji, z_rt, Nat.reduceEqDiff, Nat.reduceAdd, Int.reduceAdd, Int.reduceSub, Int.reduceMul, Int.reduceNeg, Int.reduceLT, Int.reduceLE, Int.reduceEq]
  · unfold undoAt
    dsimp only
    simp only [gI_sI, remS_74]
    by_cases q : i = 0
    · subst q; simp (disch := first | omega | assumption | exact b01_rng _ | exact st_5 | exact st_12 | exact st_19 | (simp only [isSt_sI, isSt_sJ, isSt_sF, isSt_sG, isSt_sA]; assumption)) only [i_lit, i_add, i_sub, i_mul, i_neg, i_lt, i_le, i_eq, i32_gI, i64_gJ, i32_id, i32_to, i64_to, sI_i32, sJ_i64, b01_t, b01_f, i32_b01, b01_0, ↓a_s0, ↓n_s0, ↓a_s1, ↓n_s1, Int.add_zero, t_lt, f_lt, t_le, f_le, t_eq, f_eq, true_and, and_true, false_and, and_false, and_self, ↓reduceIte, z_bool_of, or_true, true_or, or_false, false_or, Int.neg_neg, not_true_eq_false, not_false_eq_true, lg_lt, lg_le, lg_gt, lg_ge, lg_eq, j_lit, j_add, j_sub, j_mul, j_neg, j_eq, i64_id, ij, ji, z_rt, Nat.reduceEqDiff, Nat.reduceAdd, Int.reduceAdd, Int.reduceSub, Int.reduceMul, Int.reduceNeg, Int.reduceLT, Int.reduceLE, Int.reduceEq]
    · simp (disch := first | omega | assumption | exact b01_rng _ | exact st_5 | exact st_12 | exact st_19 | (simp only [isSt_sI, isSt_sJ, isSt_sF, isSt_sG, isSt_sA]; assumption)) only [i_lit, i_add, i_sub, i_mul, i_neg, i_lt, i_le, i_eq, i32_gI, i64_gJ, i32_id, i32_to, i64_to, sI_i32, sJ_i64, b01_t, b01_f, i32_b01, b01_0, ↓a_s0, ↓n_s0, ↓a_s1, ↓n_s1, Int.add_zero, t_lt, f_lt, t_le, f_le, t_eq, f_eq, true_and, and_true, false_and, and_false, and_self, ↓reduceIte, z_bool_of, or_true, true_or, or_false, false_or, Int.neg_neg, not_true_eq_false, not_false_eq_true, lg_lt, lg_le, lg_gt, lg_ge, lg_eq, j_lit, j_add, j_sub, j_mul, j_neg, j_eq, i64_id, ij, ji, z_rt, Nat.reduceEqDiff, Nat.reduceAdd, Int.reduceAdd, Int.reduceSub, Int.reduceMul, Int.reduceNeg, Int.reduceLT, Int.reduceLE, Int.reduceEq]
  · rw [addS_o (by omega)]; (repeat (first | rw [gI_sI, if_neg (by omega)] | rw [gI_sF, if_neg (by omega)] | rw [gI_sJ] | rw [gI_sG] | rw [gI_sQ]))
  · (repeat (first | rw [gI_sI, if_neg (by omega)] | rw [gI_sF, if_neg (by omega)] | rw [gI_sJ] | rw [gI_sG] | rw [gI_sQ])); rw [remS_o (by omega)]
/-! in pairs -/
theorem LH.of {P Q : zP} {S : zS} (h : Inv P Q S) : LH P Q S S := ⟨h.1, HiRel_2.mp h.2.1⟩
/-- a change of the line, with what is told of it -/
theorem Inv.lh {P Q : zP} (hG : Good P Q) {S S1 T : zS} (hI : Inv P Q S) (hC : FrC S S1) (hL : ∀ T0, (∀ a i, a ≠ 4 → ¬ (27 ≤ a ∧ a ≤ 30) → a ≠ 6 → a ≠ 7 → ¬ (a = 72 ∧ i = 0) → gI T0 a i = gI S a i) → True) (hD : Dyn S T) (hE : ∀ a i, a ∉ [4, 71, 73, 6, 7, 27, 28, 29, 30, 77, 78] → ¬ (a = 72 ∧ (i = 0 ∨ i = 1 ∨ i = 8)) → ¬ (a = 74 ∧ 5 ≤ i ∧ i < 68) → gI T a i = gI S a i) (hJ : ∀ a i, gJ T a i = gJ S a i) (hQ : ∀ a i, gQ T a i = gQ S a i) (hM : MsRel T) (hl : LH P Q T T) : Inv P Q T := by
  obtain ⟨a1, a2, a3, a4, a5, a6, a7⟩ := hI
  have k : ∀ a i, a ∉ [4, 71, 73, 6, 7, 27, 28, 29, 30, 77, 78, 72, 74] → gI T a i = gI S a i := fun a i q => by
    simp only [List.mem_cons, List.not_mem_nil, or_false, not_or] at q
    exact hE a i (by simp only [List.mem_cons, List.not_mem_nil, or_false, not_or]; omega) (by omega) (by omega)
  exact ⟨hl.1, HiRel_2.mpr hl.2, a3.fr (k _ _ (by decide)) (hE _ _ (by decide) (by decide) (by decide)) (fun i => k _ _ (by decide)) (fun i => k _ _ (by decide)), hM, a5.fr (hE _ _ (by decide) (by decide) (by decide)) (k _ _ (by decide)) (fun i => k _ _ (by decide)) (fun i => k _ _ (by decide)), a6.fr hG hD (fun i => k _ _ (by decide)) (fun i => hQ _ _) (fun i => k _ _ (by decide)), a7.fr hD.2.1 (hQ _ _) (hQ _ _) (hE _ _ (by decide) (by decide) (by decide)) (fun i => hJ _ _) (fun i => hJ _ _) (fun i => hJ _ _) (fun i => hJ _ _) (fun i => hJ _ _)⟩
/-- the line and what can be undone look at few cells alone -/
theorem LH.fr {P Q : zP} (hG : Good P Q) {S T S' T' : zS} (h : LH P Q S T) (hD : Dyn S S') (hC : ∀ a i, (5 ≤ a ∧ a ≤ 9) ∨ (27 ≤ a ∧ a ≤ 30) → gI S' a i = gI S a i) (hQ : ∀ a i, a = 10 ∨ a = 11 → gQ S' a i = gQ S a i) (hM : ∀ a i, a = 74 ∨ a = 77 ∨ a = 78 → gI T' a i = gI T a i) (h8 : gI T' 72 8 = gI T 72 8) : LH P Q S' T' := by
  obtain ⟨h1, ⟨b1, b2⟩⟩ := h
  have hs : ∀ k i, snap T' k i = snap T k i := fun k i => by unfold snap; rw [h8, hM _ _ (by omega), hM _ _ (by omega)]
  have hs2 : ∀ k, snap T' k = snap T k := fun k => funext (hs k)
  refine ⟨h1.fr hG hD (fun i => hC _ _ (by omega)) (fun i => hC _ _ (by omega)) (fun i => hC _ _ (by omega)) (fun i => hC _ _ (by omega)) (fun i => hC _ _ (by omega)) (fun i => hQ _ _ (by omega)) (fun i => hQ _ _ (by omega)) (fun i => hM _ _ (by omega)), ?_⟩
  unfold HiRel2
  simp only [hs2, h8, hC 27 _ (by omega), hC 28 _ (by omega), hC 29 _ (by omega), hC 30 _ (by omega), hM 78 _ (by omega)]
  exact ⟨b1, b2⟩
