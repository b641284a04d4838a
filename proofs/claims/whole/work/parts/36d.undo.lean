/-! undo in pairs -/
theorem HiRel2.pop {S T S' T' : zS} (h : HiRel2 S T) {n : Int} (hn : gI T 72 8 = n) (h1 : 1 ≤ n) (a1 : gI S' 27 3 = n - 1) (a2 : gI T' 72 8 = n - 1) (a3 : ∀ a i, 28 ≤ a → a ≤ 30 → gI S' a i = gI S a i) (a4 : ∀ a i, a = 77 ∨ a = 78 → gI T' a i = gI T a i) (a5 : ∀ i, 0 ≤ i → i < 63 → gI T' 74 (5 + i) = gI T 77 (63 * (n - 1) + i)) : HiRel2 S' T' := by
  obtain ⟨⟨b1, b2, b3⟩, b4⟩ := h
  have hs : ∀ k i, 0 ≤ k → k ≤ n - 1 → 0 ≤ i → i < 63 → snap T' k i = snap T k i := by
    intro k i q1 q2 q3 q4
    unfold snap
    rw [a2, hn, if_pos (show k < n by omega)]
    by_cases q : k < n - 1
    · rw [if_pos q, a4 _ _ (by omega)]
    · have : k = n - 1 := by omega
      subst this
      rw [if_neg q, a5 i q3 q4]
  refine ⟨by omega, fun k q1 q2 => ?_⟩
  obtain ⟨e1, e2, e3, e4, e5, e6, e7⟩ := b4 k q1 (by omega)
  rw [a4 78 _ (by omega), a3 28 _ (by omega) (by omega), a3 29 _ (by omega) (by omega), a3 30 _ (by omega) (by omega)]
  refine ⟨e1, e2, e3, e4, e5, fun w => by rw [hs _ _ (by omega) (by omega) (by omega) (by omega)]; exact e6 w, fun i q3 q4 => ?_⟩
  rw [hs k i q1 (by omega) q3 q4, e7 i q3 q4]
  exact undoAt_congr (fun i w1 w2 => (hs _ _ (by omega) (by omega) w1 w2).symm) q3 q4
theorem unS_o {S : zS} {K s w : Int} {a : Nat} {i : Int} (h : a ≠ 6 ∧ a ≠ 7) : gI (unS S K s w) a i = gI S a i := by
  unfold unS
  split
  · (repeat (first | rw [gI_sI, if_neg (by omega)] | rw [gI_sF, if_neg (by omega)] | rw [gI_sJ] | rw [gI_sG] | rw [gI_sQ]))
  · split <;> (repeat (first | rw [gI_sI, if_neg (by omega)] | rw [gI_sF, if_neg (by omega)] | rw [gI_sJ] | rw [gI_sG] | rw [gI_sQ]))
theorem unS_J {S : zS} {K s w : Int} : Dyn S (unS S K s w) ∧ (∀ a i, gJ (unS S K s w) a i = gJ S a i) ∧ (∀ a i, gQ (unS S K s w) a i = gQ S a i) := by
  unfold unS
  split
  · exact ⟨by (repeat (first | exact Dyn.rf | refine Dyn.sI (by decide) ?_ | refine Dyn.sF (by decide) ?_ | refine Dyn.sJ ?_ | refine Dyn.sG ?_ | refine Dyn.sQ (by decide) ?_)), fun _ _ => rfl, fun _ _ => rfl⟩
  · split <;> exact ⟨by (repeat (first | exact Dyn.rf | refine Dyn.sI (by decide) ?_ | refine Dyn.sF (by decide) ?_ | refine Dyn.sJ ?_ | refine Dyn.sG ?_ | refine Dyn.sQ (by decide) ?_)), fun _ _ => rfl, fun _ _ => rfl⟩
theorem p_undo {P Q : zP} (hG : Good P Q) {X : zX} {S : zS} {d : Nat} (hd : 200 ≤ d) (hI : Inv P Q S) : PairAt P Q X 114 159 [] S d := by
  obtain ⟨b1, b2, b3, b4, b5, b6, b7, b8, b9, b10⟩ := id hI.1
  simp only [Nat.reduceAdd] at b6 b7
  obtain ⟨⟨c1, c2, c3⟩, c4⟩ := id hI.2.1
  by_cases q : gI S 72 8 = 0
  · exact pair_rf hG hI (by omega) (e114a (by omega) (by omega)) (e159a (by omega) (by rw [cR_I (by decide) (by decide)]; exact q))
  · generalize hn : gI S 72 8 = n at *
    obtain ⟨d1, d2, d3, d4, d5, d6, d7⟩ := c4 (n - 1) (by omega) (by omega)
    have hcur : ∀ i, snap S (n - 1 + 1) i = gI S 74 (5 + i) := fun i => by unfold snap; rw [hn, if_neg (by omega)]
    have hold : ∀ i, snap S (n - 1) i = gI S 77 (63 * (n - 1) + i) := fun i => by unfold snap; rw [hn, if_pos (by omega)]
    generalize hK : gI S 28 (n - 1) = K at *
    generalize hs : gI S 29 (n - 1) = s at *
    generalize hw : gI S 30 (n - 1) = w at *
    rw [← d1] at d2 d3 d4 d5 d6
    have hu : ∀ i, 0 ≤ i → i < 63 → gI S 77 (63 * (n - 1) + i) = undoAt K s w (fun i => gI S 74 (5 + i)) i := fun i q1 q2 => by
      rw [← hold, d7 i q1 q2]; exact undoAt_congr (fun i _ _ => hcur i) q1 q2
    rw [hcur] at d6
    have hs7 : K ≠ 3 → 0 ≤ gI S 6 (3 * s + K) ∧ gI S 6 (3 * s + K) ≤ 2 := by
      intro hk
      have := b7 s (d4 hk).1 (d4 hk).2
      rcases (show K = 0 ∨ K = 1 ∨ K = 2 by omega) with rfl | rfl | rfl
      · rw [Int.add_zero]; omega
      · omega
      · omega
    have hD : Dyn S (sI (sF (sI (sI (sI (sI (unS S K s w) 27 3 (n - 1)) 4 16 0) 72 0 0) 72 8 (n - 1)) 74 5 68 (fun j => gI S 77 (63 * (n - 1) + (j - 5)))) 72 1 0) := Dyn.sI (by decide) (Dyn.sF (by decide) (Dyn.sI (by decide) (Dyn.sI (by decide) (Dyn.sI (by decide) (Dyn.sI (by decide) unS_J.1)))))
    have key : z_ev X d (z_entry 114 [.ref 4] (mk S)) = some (some (.int (Int32.ofInt K)), mk (sI (sI (unS S K s w) 27 3 (n - 1)) 4 16 0)) := by
      exact e114b (X := X) (by omega) n K s w (by omega) (by omega) hK hs hw (by omega) d4 d5 (by omega) hs7
    refine pair_ok (v := K) _ (sI (sF (sI (sI (sI (sI (unS S K s w) 27 3 (n - 1)) 4 16 0) 72 0 0) 72 8 (n - 1)) 74 5 68 (fun j => gI S 77 (63 * (n - 1) + (j - 5)))) 72 1 0) key ((e159b (X := X) (by omega) n K ?_ (by omega) ?_ (by omega)).trans ?_) ?_ hD
    · (repeat (first | rw [gI_sI, if_neg (by omega)] | rw [gI_sF, if_neg (by omega)] | rw [gI_sJ] | rw [gI_sG] | rw [gI_sQ])); rw [unS_o (by omega)]; exact hn
    · (repeat (first | rw [gI_sI, if_neg (by omega)] | rw [gI_sF, if_neg (by omega)] | rw [gI_sJ] | rw [gI_sG] | rw [gI_sQ])); rw [unS_o (by omega)]; exact d1.symm
    · have : (fun j => gI (sI (sI (unS S K s w) 27 3 (n - 1)) 4 16 0) 77 (63 * (n - 1) + (j - 5))) = (fun j => gI S 77 (63 * (n - 1) + (j - 5))) := funext fun j => by (repeat (first | rw [gI_sI, if_neg (by omega)] | rw [gI_sF, if_neg (by omega)] | rw [gI_sJ] | rw [gI_sG] | rw [gI_sQ])); rw [unS_o (by omega)]
      rw [this]
    · have ht : ∀ i, 0 ≤ i → i < 63 → gI (sF (sI S 72 8 (n - 1)) 74 5 68 (fun j => gI S 77 (63 * (n - 1) + (j - 5)))) 74 (5 + i) = undoAt K s w (fun i => gI S 74 (5 + i)) i := fun i q1 q2 => by
        rw [gI_sF, if_pos (by omega), i32_gI, show 5 + i - 5 = i by omega, hu i q1 q2]
      have hl : LH P Q (sI (unS S K s w) 27 3 (n - 1)) (sF (sI S 72 8 (n - 1)) 74 5 68 (fun j => gI S 77 (63 * (n - 1) + (j - 5)))) := by
        refine ⟨hI.1.ln hG (Dyn.sI (by decide) unS_J.1) (fun i q => ?_) (fun i => ?_) (fun i => ?_) (fun i => unS_J.2.2 _ _) (fun i => unS_J.2.2 _ _) (fun i q => ?_) ?_ ?_ (fun p q1 q2 => ?_), (HiRel_2.mp hI.2.1).pop hn (by omega) ?_ ?_ (fun a i q1 q2 => ?_) (fun a i q => ?_) (fun i q1 q2 => ?_)⟩
        · (repeat (first | rw [gI_sI, if_neg (by omega)] | rw [gI_sF, if_neg (by omega)] | rw [gI_sJ] | rw [gI_sG] | rw [gI_sQ])); rw [unS_o (by omega)]
        · (repeat (first | rw [gI_sI, if_neg (by omega)] | rw [gI_sF, if_neg (by omega)] | rw [gI_sJ] | rw [gI_sG] | rw [gI_sQ])); rw [unS_o (by omega)]
        · (repeat (first | rw [gI_sI, if_neg (by omega)] | rw [gI_sF, if_neg (by omega)] | rw [gI_sJ] | rw [gI_sG] | rw [gI_sQ])); rw [unS_o (by omega)]
        · (repeat (first | rw [gI_sI, if_neg (by omega)] | rw [gI_sF, if_neg (by omega)] | rw [gI_sJ] | rw [gI_sG] | rw [gI_sQ]))
        · rw [gI_sI, if_neg (by omega), unS_o (by omega), gI_sF, if_neg (by omega), gI_sI, if_neg (by omega)]; exact b1
        · have t0 := ht 0 (by omega) (by omega)
          have t1 := ht 1 (by omega) (by omega)
          have t2 := ht 2 (by omega) (by omega)
          simp only [Int.add_zero, Int.reduceAdd] at t0 t1 t2
          rw [t0, t1, t2]
          simp only [Nat.reduceAdd, gI_sI, unS, undoAt]
          rcases (show K = 0 ∨ K = 3 ∨ K = 1 ∨ K = 2 by omega) with rfl | rfl | rfl | rfl
          · simp (disch := first | omega | assumption | exact b01_rng _ | exact st_5 | exact st_12 | exact st_19 | (simp only [isSt_sI, isSt_sJ, isSt_sF, isSt_sG, isSt_sA]; assumption)) only [i_lit, i_add, i_sub, i_mul, i_neg, i_lt, i_le, i_eq, i32_gI, i64_gJ, i32_id, i32_to, i64_to, sI_i32, sJ_i64, b01_t, b01_f, i32_b01, b01_0, ↓a_s0, ↓n_s0, ↓a_s1, ↓n_s1, Int.add_zero, t_lt, f_lt, t_le, f_le, t_eq, f_eq, true_and, and_true, false_and, and_false, and_self, ↓reduceIte, z_bool_of, or_true, true_or, or_false, false_or, Int.neg_neg, not_true_eq_false, not_false_eq_true, lg_lt, lg_le, lg_gt, lg_ge, lg_eq, j_lit, j_add, j_sub, j_mul, j_neg, j_eq, i64_id, ij, ji, z_rt, Nat.reduceEqDiff, Nat.reduceAdd, Int.reduceAdd, Int.reduceSub, Int.reduceMul, Int.reduceNeg, Int.reduceLT, Int.reduceLE, Int.reduceEq, gI_sI]
          · have d9 := d6 rfl
            rw [Int.add_zero] at d9
            simp (disch := first | omega | assumption | exact b01_rng _ | exact st_5 | exact st_12 | exact st_19 | (simp only [isSt_sI, isSt_sJ, isSt_sF, isSt_sG, isSt_sA]; assumption)) only [i_lit, i_add, i_sub, i_mul, i_neg, i_lt, i_le, i_eq, i32_gI, i64_gJ, i32_id, i32_to, i64_to, sI_i32, sJ_i64, b01_t, b01_f, i32_b01, b01_0, ↓a_s0, ↓n_s0, ↓a_s1, ↓n_s1, Int.add_zero, t_lt, f_lt, t_le, f_le, t_eq, f_eq, true_and, and_true, false_and, and_false, and_self, ↓reduceIte, z_bool_of, or_true, true_or, or_false, false_or, Int.neg_neg, not_true_eq_false, not_false_eq_true, lg_lt, lg_le, lg_gt, lg_ge, lg_eq, j_lit, j_add, j_sub, j_mul, j_neg, j_eq, i64_id, ij, ji, z_rt, Nat.reduceEqDiff, Nat.reduceAdd, Int.reduceAdd, Int.reduceSub, Int.reduceMul, Int.reduceNeg, Int.reduceLT, Int.reduceLE, Int.reduceEq, gI_sI]
          · simp (disch := first | omega | assumption | exact b01_rng _ | exact st_5 | exact st_12 | exact st_19 | (simp only [isSt_sI, isSt_sJ, isSt_sF, isSt_sG, isSt_sA]; assumption)) only [i_lit, i_add, i_sub, i_mul, i_neg, i_lt, i_le, i_eq, i32_gI, i64_gJ, i32_id, i32_to, i64_to, sI_i32, sJ_i64, b01_t, b01_f, i32_b01, b01_0, ↓a_s0, ↓n_s0, ↓a_s1, ↓n_s1, Int.add_zero, t_lt, f_lt, t_le, f_le, t_eq, f_eq, true_and, and_true, false_and, and_false, and_self, ↓reduceIte, z_bool_of, or_true, true_or, or_false, false_or, Int.neg_neg, not_true_eq_false, not_false_eq_true, lg_lt, lg_le, lg_gt, lg_ge, lg_eq, j_lit, j_add, j_sub, j_mul, j_neg, j_eq, i64_id, ij, ji, z_rt, Nat.reduceEqDiff, Nat.reduceAdd, Int.reduceAdd, Int.reduceSub, Int.reduceMul, Int.reduceNeg, Int.reduceLT, Int.reduceLE, Int.reduceEq, gI_sI]
          · simp (disch := first | omega | assumption | exact b01_rng _ | exact st_5 | exact st_12 | exact st_19 | (simp only [isSt_sI, isSt_sJ, isSt_sF, isSt_sG, isSt_sA]; assumption)) only [i_lit, i_add, i_sub, i_mul, i_neg, i_lt, i_le, i_eq, i32_gI, i64_gJ, i32_id, i32_to, i64_to, sI_i32, sJ_i64, b01_t, b01_f, i32_b01, b01_0, ↓a_s0, ↓n_s0, ↓a_s1, ↓n_s1, Int.add_zero, t_lt, f_lt, t_le, f_le, t_eq, f_eq, true_and, and_true, false_and, and_false, and_self, ↓reduceIte, z_bool_of, or_true, true_or, or_false, false_or, Int.neg_neg, not_true_eq_false, not_false_eq_true, lg_lt, lg_le, lg_gt, lg_ge, lg_eq, j_lit, j_add, j_sub, j_mul, j_neg, j_eq, i64_id, ij, ji, z_rt, Nat.reduceEqDiff, Nat.reduceAdd, Int.reduceAdd, Int.reduceSub, Int.reduceMul, Int.reduceNeg, Int.reduceLT, Int.reduceLE, Int.reduceEq, gI_sI]
        · have bp := b7 p q1 q2
          have t0 := ht (3 + p) (by omega) (by omega)
          have t1 := ht (23 + p) (by omega) (by omega)
          have t2 := ht (43 + p) (by omega) (by omega)
          rw [show 5 + (3 + p) = 8 + p by omega] at t0
          rw [show 5 + (23 + p) = 28 + p by omega] at t1
          rw [show 5 + (43 + p) = 48 + p by omega] at t2
          rw [t0, t1, t2]
          simp only [Nat.reduceAdd, gI_sI, unS, undoAt]
          rw [show 5 + (3 + p) = 8 + p by omega, show 5 + (23 + p) = 28 + p by omega, show 5 + (43 + p) = 48 + p by omega]
          rcases (show K = 0 ∨ K = 3 ∨ K = 1 ∨ K = 2 by omega) with rfl | rfl | rfl | rfl
          · by_cases e : p = s
            · subst e; simp (disch := first | omega | assumption | exact b01_rng _ | exact st_5 | exact st_12 | exact st_19 | (simp only [isSt_sI, isSt_sJ, isSt_sF, isSt_sG, isSt_sA]; assumption)) only [i_lit, i_add, i_sub, i_mul, i_neg, i_lt, i_le, i_eq, i32_gI, i64_gJ, i32_id, i32_to, i64_to, sI_i32, sJ_i64, b01_t, b01_f, i32_b01, b01_0, ↓a_s0, ↓n_s0, ↓a_s1, ↓n_s1, Int.add_zero, t_lt, f_lt, t_le, f_le, t_eq, f_eq, true_and, and_true, false_and, and_false, and_self, ↓reduceIte, z_bool_of, or_true, true_or, or_false, false_or, Int.neg_neg, not_true_eq_false, not_false_eq_true, lg_lt, lg_le, lg_gt, lg_ge, lg_eq, j_lit, j_add, j_sub, j_mul, j_neg, j_eq, i64_id, ij, ji, z_rt, Nat.reduceEqDiff, Nat.reduceAdd, Int.reduceAdd, Int.reduceSub, Int.reduceMul, Int.reduceNeg, Int.reduceLT, Int.reduceLE, Int.reduceEq, gI_sI]
            · simp (disch := first | omega | assumption | exact b01_rng _ | exact st_5 | exact st_12 | exact st_19 | (simp only [isSt_sI, isSt_sJ, isSt_sF, isSt_sG, isSt_sA]; assumption)) only [i_lit, i_add, i_sub, i_mul, i_neg, i_lt, i_le, i_eq, i32_gI, i64_gJ, i32_id, i32_to, i64_to, sI_i32, sJ_i64, b01_t, b01_f, i32_b01, b01_0, ↓a_s0, ↓n_s0, ↓a_s1, ↓n_s1, Int.add_zero, t_lt, f_lt, t_le, f_le, t_eq, f_eq, true_and, and_true, false_and, and_false, and_self, ↓reduceIte, z_bool_of, or_true, true_or, or_false, false_or, Int.neg_neg, not_true_eq_false, not_false_eq_true, lg_lt, lg_le, lg_gt, lg_ge, lg_eq, j_lit, j_add, j_sub, j_mul, j_neg, j_eq, i64_id, ij, ji, z_rt, Nat.reduceEqDiff, Nat.reduceAdd, Int.reduceAdd, Int.reduceSub, Int.reduceMul, Int.reduceNeg, Int.reduceLT, Int.reduceLE, Int.reduceEq, gI_sI]
          · simp (disch := first | omega | assumption | exact b01_rng _ | exact st_5 | exact st_12 | exact st_19 | (simp only [isSt_sI, isSt_sJ, isSt_sF, isSt_sG, isSt_sA]; assumption)) only [i_lit, i_add, i_sub, i_mul, i_neg, i_lt, i_le, i_eq, i32_gI, i64_gJ, i32_id, i32_to, i64_to, sI_i32, sJ_i64, b01_t, b01_f, i32_b01, b01_0, ↓a_s0, ↓n_s0, ↓a_s1, ↓n_s1, Int.add_zero, t_lt, f_lt, t_le, f_le, t_eq, f_eq, true_and, and_true, false_and, and_false, and_self, ↓reduceIte, z_bool_of, or_true, true_or, or_false, false_or, Int.neg_neg, not_true_eq_false, not_false_eq_true, lg_lt, lg_le, lg_gt, lg_ge, lg_eq, j_lit, j_add, j_sub, j_mul, j_neg, j_eq, i64_id, ij, ji, z_rt, Nat.reduceEqDiff, Nat.reduceAdd, Int.reduceAdd, Int.reduceSub, Int.reduceMul, Int.reduceNeg, Int.reduceLT, Int.reduceLE, Int.reduceEq, gI_sI]
          · by_cases e : p = s
            · subst e; simp (disch := first | omega | assumption | exact b01_rng _ | exact st_5 | exact st_12 | exact st_19 | (simp only [isSt_sI, isSt_sJ, isSt_sF, isSt_sG, isSt_sA]; assumption)) only [i_lit, i_add, i_sub, i_mul, i_neg, i_lt, i_le, i_eq, i32_gI, i64_gJ, i32_id, i32_to, i64_to, sI_i32, sJ_i64, b01_t, b01_f, i32_b01, b01_0, ↓a_s0, ↓n_s0, ↓a_s1, ↓n_s1, Int.add_zero, t_lt, f_lt, t_le, f_le, t_eq, f_eq, true_and, and_true, false_and, and_false, and_self, ↓reduceIte, z_bool_of, or_true, true_or, or_false, false_or, Int.neg_neg, not_true_eq_false, not_false_eq_true, lg_lt, lg_le, lg_gt, lg_ge, lg_eq, j_lit, j_add, j_sub, j_mul, j_neg, j_eq, i64_id, ij, ji, z_rt, Nat.reduceEqDiff, Nat.reduceAdd, Int.reduceAdd, Int.reduceSub, Int.reduceMul, Int.reduceNeg, Int.reduceLT, Int.reduceLE, Int.reduceEq, gI_sI]
            · simp (disch := first | omega | assumption | exact b01_rng _ | exact st_5 | exact st_12 | exact st_19 | (simp only [isSt_sI, isSt_sJ, isSt_sF, isSt_sG, isSt_sA]; assumption)) only [i_lit, i_add, i_sub, i_mul, i_neg, i_lt, i_le, i_eq, i32_gI, i64_gJ, i32_id, i32_to, i64_to, sI_i32, sJ_i64, b01_t, b01_f, i32_b01, b01_0, ↓a_s0, ↓n_s0, ↓a_s1, ↓n_s1, Int.add_zero, t_lt, f_lt, t_le, f_le, t_eq, f_eq, true_and, and_true, false_and, and_false, and_self, ↓reduceIte, z_bool_of, or_true, true_or, or_false, false_or, Int.neg_neg, not_true_eq_false, not_false_eq_true, lg_lt, lg_le, lg_gt, lg_ge, lg_eq, j_lit, j_add, j_sub, j_mul, j_neg, j_eq, i64_id, ij, ji, z_rt, Nat.reduceEqDiff, Nat.reduceAdd, Int.reduceAdd, Int.reduceSub, Int.reduceMul, Int.reduceNeg, Int.reduceLT, Int.reduceLE, Int.reduceEq, gI_sI]
          · by_cases e : p = s
            · subst e; simp (disch := first | omega | assumption | exact b01_rng _ | exact st_5 | exact st_12 | exact st_19 | (simp only [isSt_sI, isSt_sJ, isSt_sF, isSt_sG, isSt_sA]; assumption)) only [i_lit, i_add, i_sub, i_mul, i_neg, i_lt, i_le, i_eq, i32_gI, i64_gJ, i32_id, i32_to, i64_to, sI_i32, sJ_i64, b01_t, b01_f, i32_b01, b01_0, ↓a_s0, ↓n_s0, ↓a_s1, ↓n_s1, Int.add_zero, t_lt, f_lt, t_le, f_le, t_eq, f_eq, true_and, and_true, false_and, and_false, and_self, ↓reduceIte, z_bool_of, or_true, true_or, or_false, false_or, Int.neg_neg, not_true_eq_false, not_false_eq_true, lg_lt, lg_le, lg_gt, lg_ge, lg_eq, j_lit, j_add, j_sub, j_mul, j_neg, j_eq, i64_id, ij, ji, z_rt, Nat.reduceEqDiff, Nat.reduceAdd, Int.reduceAdd, Int.reduceSub, Int.reduceMul, Int.reduceNeg, Int.reduceLT, Int.reduceLE, Int.reduceEq, gI_sI]
            · simp (disch := first | omega | assumption | exact b01_rng _ | exact st_5 | exact st_12 | exact st_19 | (simp only [isSt_sI, isSt_sJ, isSt_sF, isSt_sG, isSt_sA]; assumption)) only [i_lit, i_add, i_sub, i_mul, i_neg, i_lt, i_le, i_eq, i32_gI, i64_gJ, i32_id, i32_to, i64_to, sI_i32, sJ_i64, b01_t, b01_f, i32_b01, b01_0, ↓a_s0, ↓n_s0, ↓a_s1, ↓n_s1, Int.add_zero, t_lt, f_lt, t_le, f_le, t_eq, f_eq, true_and, and_true, false_and, and_false, and_self, ↓reduceIte, z_bool_of, or_true, true_or, or_false, false_or, Int.neg_neg, not_true_eq_false, not_false_eq_true, lg_lt, lg_le, lg_gt, lg_ge, lg_eq, j_lit, j_add, j_sub, j_mul, j_neg, j_eq, i64_id, ij, ji, z_rt, Nat.reduceEqDiff, Nat.reduceAdd, Int.reduceAdd, Int.reduceSub, Int.reduceMul, Int.reduceNeg, Int.reduceLT, Int.reduceLE, Int.reduceEq, gI_sI]
        · simp (disch := first | omega | assumption | exact b01_rng _ | exact st_5 | exact st_12 | exact st_19 | (simp only [isSt_sI, isSt_sJ, isSt_sF, isSt_sG, isSt_sA]; assumption)) only [gI_sI, i_lit, i_add, i_sub, i_mul, i_neg, i_lt, i_le, i_eq, i32_gI, i64_gJ, i32_id, i32_to, i64_to, sI_i32, sJ_i64, b01_t, b01_f, i32_b01, b01_0, ↓a_s0, ↓n_s0, ↓a_s1, ↓n_s1, Int.add_zero, t_lt, f_lt, t_le, f_le, t_eq, f_eq, true_and, and_true, false_and, and_false, and_self, ↓reduceIte, z_bool_of, or_true, true_or, or_false, false_or, Int.neg_neg, not_true_eq_false, not_false_eq_true, lg_lt, lg_le, lg_gt, lg_ge, lg_eq, j_lit, j_add, j_sub, j_mul, j_neg, j_eq, i64_id, ij, ji, z_rt, Nat.reduceEqDiff, Nat.reduceAdd, Int.reduceAdd, Int.reduceSub, Int.reduceMul, Int.reduceNeg, Int.reduceLT, Int.reduceLE, Int.reduceEq]
        · simp (disch := first | omega | assumption | exact b01_rng _ | exact st_5 | exact st_12 | exact st_19 | (simp only [isSt_sI, isSt_sJ, isSt_sF, isSt_sG, isSt_sA]; assumption)) only [gI_sI, gI_sF, i_lit, i_add, i_sub, i_mul, i_neg, i_lt, i_le, i_eq, i32_gI, i64_gJ, i32_id, i32_to, i64_to, sI_i32, sJ_i64, b01_t, b01_f, i32_b01, b01_0, ↓a_s0, ↓n_s0, ↓a_s1, ↓n_s1, Int.add_zero, t_lt, f_lt, t_le, f_le, t_eq, f_eq, true_and, and_true, false_and, and_false, and_self, ↓reduceIte, z_bool_of, or_true, true_or, or_false, false_or, Int.neg_neg, not_true_eq_false, not_false_eq_true, lg_lt, lg_le, lg_gt, lg_ge, lg_eq, j_lit, j_add, j_sub, j_mul, j_neg, j_eq, i64_id, ij, ji, z_rt, Nat.reduceEqDiff, Nat.reduceAdd, Int.reduceAdd, Int.reduceSub, Int.reduceMul, Int.reduceNeg, Int.reduceLT, Int.reduceLE, Int.reduceEq]
        · (repeat (first | rw [gI_sI, if_neg (by omega)] | rw [gI_sF, if_neg (by omega)] | rw [gI_sJ] | rw [gI_sG] | rw [gI_sQ])); rw [unS_o (by omega)]
        · (repeat (first | rw [gI_sI, if_neg (by omega)] | rw [gI_sF, if_neg (by omega)] | rw [gI_sJ] | rw [gI_sG] | rw [gI_sQ]))
        · rw [gI_sF, if_pos (by omega), i32_gI, show 5 + i - 5 = i by omega]
      refine hI.turned hG hl ⟨Dyn.sI (by decide) unS_J.1, fun a i q1 q2 q3 => ?_, fun a i => unS_J.2.1 a i, fun a i => unS_J.2.2 a i⟩ ⟨by (repeat (first | exact Dyn.rf | refine Dyn.sI (by decide) ?_ | refine Dyn.sF (by decide) ?_ | refine Dyn.sJ ?_ | refine Dyn.sG ?_ | refine Dyn.sQ (by decide) ?_)), fun a i q1 q2 q3 q4 => ?_, fun a i => rfl, fun a i => rfl⟩ hD (fun a i q1 q2 => ?_) (fun a i q => ?_) ?_ (fun a i q1 q2 q3 q4 q5 => ?_) (fun i q => ?_) ⟨?_, ?_⟩ (fun a i => unS_J.2.1 a i) (fun a i => unS_J.2.2 a i)
      · (repeat (first | rw [gI_sI, if_neg (by omega)] | rw [gI_sF, if_neg (by omega)] | rw [gI_sJ] | rw [gI_sG] | rw [gI_sQ])); rw [unS_o (by omega)]
      · (repeat (first | rw [gI_sI, if_neg (by omega)] | rw [gI_sF, if_neg (by omega)] | rw [gI_sJ] | rw [gI_sG] | rw [gI_sQ]))
      · (repeat (first | rw [gI_sI, if_neg (by omega)] | rw [gI_sF, if_neg (by omega)] | rw [gI_sJ] | rw [gI_sG] | rw [gI_sQ]))
      · by_cases w : a = 74 ∧ 5 ≤ i ∧ i < 68
        · rw [gI_sI, if_neg (by omega), gI_sF, if_pos w, gI_sF, if_pos w]
        · rw [gI_sI, if_neg (by omega), gI_sF, if_neg w, gI_sF, if_neg w, gI_sI, if_neg (by omega), gI_sI, if_neg (by omega), gI_sI, if_neg (by omega), gI_sI, if_neg (by omega), unS_o (by omega), gI_sI, if_neg (by omega)]
      · simp (disch := first | omega | assumption | exact b01_rng _ | exact st_5 | exact st_12 | exact st_19 | (simp only [isSt_sI, isSt_sJ, isSt_sF, isSt_sG, isSt_sA]; assumption)) only [gI_sI, gI_sF, i_lit, i_add, i_sub, i_mul, i_neg, i_lt, i_le, i_eq, i32_gI, i64_gJ, i32_id, i32_to, i64_to, sI_i32, sJ_i64, b01_t, b01_f, i32_b01, b01_0, ↓a_s0, ↓n_s0, ↓a_s1, ↓n_s1, Int.add_zero, t_lt, f_lt, t_le, f_le, t_eq, f_eq, true_and, and_true, false_and, and_false, and_self, ↓reduceIte, z_bool_of, or_true, true_or, or_false, false_or, Int.neg_neg, not_true_eq_false, not_false_eq_true, lg_lt, lg_le, lg_gt, lg_ge, lg_eq, j_lit, j_add, j_sub, j_mul, j_neg, j_eq, i64_id, ij, ji, z_rt, Nat.reduceEqDiff, Nat.reduceAdd, Int.reduceAdd, Int.reduceSub, Int.reduceMul, Int.reduceNeg, Int.reduceLT, Int.reduceLE, Int.reduceEq]
      · (repeat (first | rw [gI_sI, if_neg (by omega)] | rw [gI_sF, if_neg (by omega)] | rw [gI_sJ] | rw [gI_sG] | rw [gI_sQ])); rw [unS_o (by omega)]
      · (repeat (first | rw [gI_sI, if_neg (by omega)] | rw [gI_sF, if_neg (by omega)] | rw [gI_sJ] | rw [gI_sG] | rw [gI_sQ])); rw [unS_o (by omega)]
      · simp (disch := first | omega | assumption | exact b01_rng _ | exact st_5 | exact st_12 | exact st_19 | (simp only [isSt_sI, isSt_sJ, isSt_sF, isSt_sG, isSt_sA]; assumption)) only [gI_sI, gI_sF, i_lit, i_add, i_sub, i_mul, i_neg, i_lt, i_le, i_eq, i32_gI, i64_gJ, i32_id, i32_to, i64_to, sI_i32, sJ_i64, b01_t, b01_f, i32_b01, b01_0, ↓a_s0, ↓n_s0, ↓a_s1, ↓n_s1, Int.add_zero, t_lt, f_lt, t_le, f_le, t_eq, f_eq, true_and, and_true, false_and, and_false, and_self, ↓reduceIte, z_bool_of, or_true, true_or, or_false, false_or, Int.neg_neg, not_true_eq_false, not_false_eq_true, lg_lt, lg_le, lg_gt, lg_ge, lg_eq, j_lit, j_add, j_sub, j_mul, j_neg, j_eq, i64_id, ij, ji, z_rt, Nat.reduceEqDiff, Nat.reduceAdd, Int.reduceAdd, Int.reduceSub, Int.reduceMul, Int.reduceNeg, Int.reduceLT, Int.reduceLE, Int.reduceEq]
      · simp (disch := first | omega | assumption | exact b01_rng _ | exact st_5 | exact st_12 | exact st_19 | (simp only [isSt_sI, isSt_sJ, isSt_sF, isSt_sG, isSt_sA]; assumption)) only [gI_sI, gI_sF, i_lit, i_add, i_sub, i_mul, i_neg, i_lt, i_le, i_eq, i32_gI, i64_gJ, i32_id, i32_to, i64_to, sI_i32, sJ_i64, b01_t, b01_f, i32_b01, b01_0, ↓a_s0, ↓n_s0, ↓a_s1, ↓n_s1, Int.add_zero, t_lt, f_lt, t_le, f_le, t_eq, f_eq, true_and, and_true, false_and, and_false, and_self, ↓reduceIte, z_bool_of, or_true, true_or, or_false, false_or, Int.neg_neg, not_true_eq_false, not_false_eq_true, lg_lt, lg_le, lg_gt, lg_ge, lg_eq, j_lit, j_add, j_sub, j_mul, j_neg, j_eq, i64_id, ij, ji, z_rt, Nat.reduceEqDiff, Nat.reduceAdd, Int.reduceAdd, Int.reduceSub, Int.reduceMul, Int.reduceNeg, Int.reduceLT, Int.reduceLE, Int.reduceEq]
