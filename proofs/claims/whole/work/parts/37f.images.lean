/-! image in pairs -/
theorem isSt.mono {S T : zS} {s : Nat} (h : isSt S s) (hH : ∀ b x, 114 ≤ b → gH S b = some x → gH T b = some x) (hQ : 114 ≤ s → ∀ i, gQ T s i = gQ S s i) : isSt T s := by
  rcases h with q | ⟨w1, w2, w3, w4, w5, w6, w7, w8, w9⟩
  · exact Or.inl q
  · exact Or.inr ⟨w1, hH _ _ w1 w2, fun j hj => by rw [hQ w1]; exact w3 j hj, hH _ _ (by omega) w4, hH _ _ (by omega) w5, hH _ _ (by omega) w6, hH _ _ (by omega) w7, hH _ _ (by omega) w8, hH _ _ (by omega) w9⟩
theorem Inv.img {P Q : zP} {S T : zS} {k : Int} {s : Nat} (hI : Inv P Q S) (hk : 0 ≤ k ∧ k ≤ 1) (hK : Keep P Q S T) (c1 : ∀ b i, b < 114 → ¬ (b = 4 ∧ i = 16) → ¬ (b = 72 ∧ (i = 0 ∨ i = 1)) → b ≠ 75 → b ≠ 76 → gI T b i = gI S b i) (c2 : gI T 4 16 = 0 ∧ gI T 72 1 = 0) (c3 : ∀ i, 0 ≤ i → i < 7892 → gI T 75 (7892 * k + i) = gI S 74 i) (c4 : ∀ k' i, 0 ≤ k' → k' < 2 → k' ≠ k → 0 ≤ i → i < 7892 → gI T 75 (7892 * k' + i) = gI S 75 (7892 * k' + i)) (c5 : gI T 76 k = 1 ∧ ∀ k', k' ≠ k → gI T 76 k' = gI S 76 k') (c6 : ∀ b i, b < 114 → ¬ (b = 26 ∧ i = k) → gQ T b i = gQ S b i) (c7 : gQ T 26 k = some s) (c8 : 114 ≤ s ∧ s + 6 < gN T ∧ isSt T s ∧ RefOK T s ∧ StRel P Q T s (gI S 74)) (c9 : ∀ k' s', 0 ≤ k' → k' < 2 → k' ≠ k → gQ S 26 k' = some s' → s' ≠ s) (c9' : ∀ k' s', 0 ≤ k' → k' < 2 → k' ≠ k → gQ S 26 k' = some s' → 114 ≤ s' → isSt S s' → s' + 6 < gN S → ∀ j : Nat, j < 7 → (∀ i, gI T (s' + j) i = gI S (s' + j) i) ∧ (∀ i, gQ T (s' + j) i = gQ S (s' + j) i)) (c10 : ∀ b, 114 ≤ b → gN T ≤ b → gH T b = none) (c11 : gN S ≤ gN T) (c12 : ∀ b x, 114 ≤ b → gH S b = some x → gH T b = some x) (c13 : ∀ b i, gJ T b i = gJ S b i) : Inv P Q T := by
  obtain ⟨a1, a2, a3, a4, a5, a6, a7⟩ := hI
  obtain ⟨m1, m2, m3, m4, m5, m6, m7, m8, m9⟩ := a4
  have d1 : ∀ b i, b < 114 → b ≠ 4 → b ≠ 72 → b ≠ 75 → b ≠ 76 → gI T b i = gI S b i := fun b i q1 q2 q3 q4 q5 => c1 b i q1 (fun h => q2 h.1) (fun h => q3 h.1) q4 q5
  refine ⟨a1.kp hK (fun j i q => d1 _ _ (by omega) (by omega) (by omega) (by omega) (by omega)) (fun j i q => c6 _ _ (by omega) (by omega)) (fun i _ _ => d1 _ _ (by omega) (by omega) (by omega) (by omega) (by omega)), a2.fr (d1 _ _ (by omega) (by omega) (by omega) (by omega) (by omega)) (c1 _ _ (by omega) (by omega) (by omega) (by omega) (by omega)) (fun i => d1 _ _ (by omega) (by omega) (by omega) (by omega) (by omega)) (fun i => d1 _ _ (by omega) (by omega) (by omega) (by omega) (by omega)) (fun i => d1 _ _ (by omega) (by omega) (by omega) (by omega) (by omega)) (fun i => d1 _ _ (by omega) (by omega) (by omega) (by omega) (by omega)) (fun i => d1 _ _ (by omega) (by omega) (by omega) (by omega) (by omega)) (fun i _ _ => d1 _ _ (by omega) (by omega) (by omega) (by omega) (by omega)), a3.fr (d1 _ _ (by omega) (by omega) (by omega) (by omega) (by omega)) (c1 _ _ (by omega) (by omega) (by omega) (by omega) (by omega)) (fun i => d1 _ _ (by omega) (by omega) (by omega) (by omega) (by omega)) (fun i => d1 _ _ (by omega) (by omega) (by omega) (by omega) (by omega)), ?_, a5.fr (c1 _ _ (by omega) (by omega) (by omega) (by omega) (by omega)) (d1 _ _ (by omega) (by omega) (by omega) (by omega) (by omega)) (fun i => d1 _ _ (by omega) (by omega) (by omega) (by omega) (by omega)) (fun i => d1 _ _ (by omega) (by omega) (by omega) (by omega) (by omega)), ?_, ?_⟩
  · unfold MsRel
    have k1 : ∀ i, gI T 71 i = gI S 71 i := fun i => d1 71 i (by omega) (by omega) (by omega) (by omega) (by omega)
    have k3 : ∀ i, gI T 73 i = gI S 73 i := fun i => d1 73 i (by omega) (by omega) (by omega) (by omega) (by omega)
    rw [c1 4 17 (by omega) (by omega) (by omega) (by omega) (by omega), c1 4 18 (by omega) (by omega) (by omega) (by omega) (by omega), c1 4 19 (by omega) (by omega) (by omega) (by omega) (by omega), c1 72 18 (by omega) (by omega) (by omega) (by omega) (by omega), c1 72 11 (by omega) (by omega) (by omega) (by omega) (by omega), c1 72 67 (by omega) (by omega) (by omega) (by omega) (by omega), c2.1, c2.2]
    simp only [k1, k3]
    exact ⟨m1, m2, m3, trivial, m5, m6, m7, m8, m9⟩
  · refine ⟨a6.1.lt (fun j i q => c6 _ _ (by omega) (by omega)) c12, ⟨c10, fun s0 q1 q2 => ?_⟩, fun k' q1 q2 => ?_⟩
    · rcases (show k = 0 ∨ k = 1 by omega) with rfl | rfl
      · rw [c7] at q1; cases q1
        rw [c6 26 1 (by omega) (by omega)] at q2
        exact c9 1 s (by omega) (by omega) (by omega) q2 rfl
      · rw [c7] at q2; cases q2
        rw [c6 26 0 (by omega) (by omega)] at q1
        exact c9 0 s (by omega) (by omega) (by omega) q1 rfl
    · by_cases e : k' = k
      · subst e
        obtain ⟨w1, w2, w3, w4, w5⟩ := c8
        exact Or.inr ⟨c5.1, s, c7, w1, w2, w3, w4, w5.kp ⟨fun _ _ h => h, fun _ _ h => h⟩ (fun _ _ _ => rfl) (fun _ _ _ => rfl) (fun i q3 q4 => c3 i q3 q4)⟩
      · rw [c5.2 k' e, c6 26 k' (by omega) (by omega)]
        rcases a6.2.2 k' q1 q2 with w | ⟨w1, s', w2, w3, w4, w5, w6, w7⟩
        · exact Or.inl w
        · have hc := c9' k' s' q1 q2 e w2 w3 w5 w4
          refine Or.inr ⟨w1, s', w2, w3, by omega, w5.mono c12 (fun _ i => (hc 0 (by omega)).2 i), w6.lt (fun j i q => (hc j (by omega)).2 i) c12, w7.kp hK (fun j i q => (hc j (by omega)).1 i) (fun j i q => (hc j (by omega)).2 i) (fun i q3 q4 => c4 k' i q1 q2 e q3 q4)⟩
  · obtain ⟨f1, f2, f3, f4, f5, f6, f7, f8⟩ := a7
    unfold FxRel Rows
    simp only [c13, c6 58 6 (by omega) (by omega), c6 58 7 (by omega) (by omega), c1 72 20 (by omega) (by omega) (by omega) (by omega) (by omega)]
    exact ⟨by omega, f2, f3, f4, f5, f6, f7, f8⟩
/-- the reference's part, over a store that the class has left -/
theorem imgM {S1 : zS} {k : Int} (hk : 0 ≤ k ∧ k ≤ 1) : (∀ b i, b < 114 → ¬ (b = 72 ∧ (i = 0 ∨ i = 1)) → b ≠ 75 → b ≠ 76 → gI (sI (sI (sF (sI S1 72 0 0) 75 (7892 * k) (7892 * k + 7892) (fun j => gI S1 74 (j - 7892 * k))) 76 k 1) 72 1 0) b i = gI S1 b i) ∧ (∀ i, 0 ≤ i → i < 7892 → gI (sI (sI (sF (sI S1 72 0 0) 75 (7892 * k) (7892 * k + 7892) (fun j => gI S1 74 (j - 7892 * k))) 76 k 1) 72 1 0) 75 (7892 * k + i) = gI S1 74 i) ∧ (∀ k' i, 0 ≤ k' → k' < 2 → k' ≠ k → 0 ≤ i → i < 7892 → gI (sI (sI (sF (sI S1 72 0 0) 75 (7892 * k) (7892 * k + 7892) (fun j => gI S1 74 (j - 7892 * k))) 76 k 1) 72 1 0) 75 (7892 * k' + i) = gI S1 75 (7892 * k' + i)) ∧ (gI (sI (sI (sF (sI S1 72 0 0) 75 (7892 * k) (7892 * k + 7892) (fun j => gI S1 74 (j - 7892 * k))) 76 k 1) 72 1 0) 76 k = 1 ∧ ∀ k', k' ≠ k → gI (sI (sI (sF (sI S1 72 0 0) 75 (7892 * k) (7892 * k + 7892) (fun j => gI S1 74 (j - 7892 * k))) 76 k 1) 72 1 0) 76 k' = gI S1 76 k') ∧ gI (sI (sI (sF (sI S1 72 0 0) 75 (7892 * k) (7892 * k + 7892) (fun j => gI S1 74 (j - 7892 * k))) 76 k 1) 72 1 0) 72 1 = 0 ∧ Dyn S1 (sI (sI (sF (sI S1 72 0 0) 75 (7892 * k) (7892 * k + 7892) (fun j => gI S1 74 (j - 7892 * k))) 76 k 1) 72 1 0) := by
  refine ⟨fun b i q1 q2 q3 q4 => by (repeat (first | rw [gI_sI, if_neg (by omega)] | rw [gI_sF, if_neg (by omega)] | rw [gI_sJ] | rw [gI_sG] | rw [gI_sQ])), fun i q1 q2 => ?_, fun k' i q1 q2 q3 q4 q5 => by (repeat (first | rw [gI_sI, if_neg (by omega)] | rw [gI_sF, if_neg (by omega)] | rw [gI_sJ] | rw [gI_sG] | rw [gI_sQ])), ⟨?_, fun k' q => by (repeat (first | rw [gI_sI, if_neg (by omega)] | rw [gI_sF, if_neg (by omega)] | rw [gI_sJ] | rw [gI_sG] | rw [gI_sQ]))⟩, ?_, by (repeat (first | exact Dyn.rf | refine Dyn.sI (by decide) ?_ | refine Dyn.sF (by decide) ?_ | refine Dyn.sJ ?_ | refine Dyn.sG ?_ | refine Dyn.sQ (by decide) ?_))⟩
  · rw [gI_sI, if_neg (by omega), gI_sI, if_neg (by omega), gI_sF, if_pos (by omega), i32_gI]; congr 1; omega
  · simp (disch := first | omega | assumption | exact b01_rng _ | exact st_5 | exact st_12 | exact st_19 | (simp only [isSt_sI, isSt_sJ, isSt_sF, isSt_sG, isSt_sA]; assumption)) only [gI_sI, i_lit, i_add, i_sub, i_mul, i_neg, i_lt, i_le, i_eq, i32_gI, i64_gJ, i32_id, i32_to, i64_to, sI_i32, sJ_i64, b01_t, b01_f, i32_b01, b01_0, ↓a_s0, ↓n_s0, ↓a_s1, ↓n_s1, Int.add_zero, t_lt, f_lt, t_le, f_le, t_eq, f_eq, true_and, and_true, false_and, and_false, and_self, ↓reduceIte, z_bool_of, or_true, true_or, or_false, false_or, Int.neg_neg, not_true_eq_false, not_false_eq_true, lg_lt, lg_le, lg_gt, lg_ge, lg_eq, j_lit, j_add, j_sub, j_mul, j_neg, j_eq, i64_id, ij, ji, z_rt, Nat.reduceEqDiff, Nat.reduceAdd, Int.reduceAdd, Int.reduceSub, Int.reduceMul, Int.reduceNeg, Int.reduceLT, Int.reduceLE, Int.reduceEq]
  · simp (disch := first | omega | assumption | exact b01_rng _ | exact st_5 | exact st_12 | exact st_19 | (simp only [isSt_sI, isSt_sJ, isSt_sF, isSt_sG, isSt_sA]; assumption)) only [gI_sI, i_lit, i_add, i_sub, i_mul, i_neg, i_lt, i_le, i_eq, i32_gI, i64_gJ, i32_id, i32_to, i64_to, sI_i32, sJ_i64, b01_t, b01_f, i32_b01, b01_0, ↓a_s0, ↓n_s0, ↓a_s1, ↓n_s1, Int.add_zero, t_lt, f_lt, t_le, f_le, t_eq, f_eq, true_and, and_true, false_and, and_false, and_self, ↓reduceIte, z_bool_of, or_true, true_or, or_false, false_or, Int.neg_neg, not_true_eq_false, not_false_eq_true, lg_lt, lg_le, lg_gt, lg_ge, lg_eq, j_lit, j_add, j_sub, j_mul, j_neg, j_eq, i64_id, ij, ji, z_rt, Nat.reduceEqDiff, Nat.reduceAdd, Int.reduceAdd, Int.reduceSub, Int.reduceMul, Int.reduceNeg, Int.reduceLT, Int.reduceLE, Int.reduceEq]
theorem p_image {P Q : zP} (h2 : Good2 P Q) {X : zX} {k : Int} (h1 : r32 k) {S : zS} {d : Nat} (hd : 200 ≤ d) (hI : Inv P Q S) : PairAt P Q X 130 160 [.int (Int32.ofInt k)] S d := by
  have hG := h2.g
  obtain ⟨i1, ⟨i2, i3⟩, i4⟩ := id hI.2.2.2.2.2.1
  have f1 := hI.2.2.2.2.2.2.1
  by_cases q : 0 ≤ k ∧ k ≤ 1
  · rcases i4 k q.1 (by omega) with ⟨w1, w2⟩ | ⟨w1, s, w2, w3, w4, w5, w6, w7⟩
    · -- a new one
      have hr5 : RefOK (sQ (newSt S) 26 k (some (gN S))) 5 := i1.lt (fun j i q => by rw [gQ_sQ, if_neg (by omega), newSt_Q (by omega)]) (fun b x q1 q2 => by
        have hb : b < gN S := by
          apply Classical.byContradiction; intro hq; rw [i2 b q1 (by omega)] at q2; cases q2
        rw [gH_sQ, newSt_H (Or.inl hb)]; exact q2)
      obtain ⟨hst, hro⟩ := newSt_st f1
      have hst2 : isSt (sQ (newSt S) 26 k (some (gN S))) (gN S) := isSt_sQ hst (by omega)
      have hmono : ∀ b x, 114 ≤ b → gH S b = some x → gH (sI (cpS (sQ (newSt S) 26 k (some (gN S))) (gN S) 5) 4 16 0) b = some x := fun b x q1 q2 => by
        have hb : b < gN S := by
          apply Classical.byContradiction; intro hq; rw [i2 b q1 (by omega)] at q2; cases q2
        rw [gH_sI, cpS_h, gH_sQ, newSt_H (Or.inl hb)]; exact q2
      have hKp : Keep P Q S (sI (cpS (sQ (newSt S) 26 k (some (gN S))) (gN S) 5) 4 16 0) := (((Keep.new h2 i2).tr (Keep.dyn hG (Dyn.sQ (by decide) Dyn.rf))).tr (Keep.cp h2 hst2)).tr (Keep.dyn hG (Dyn.sI (by decide) Dyn.rf))
      have hC : ∀ b i, b < gN S → ¬ (b = 4 ∧ i = 16) → gI (sI (cpS (sQ (newSt S) 26 k (some (gN S))) (gN S) 5) 4 16 0) b i = gI S b i := fun b i q1 q2 => by
        rw [gI_sI, if_neg q2, cpS_o (by omega), gI_sQ, newSt_I q1]
      have hCQ : ∀ b i, b < gN S → ¬ (b = 26 ∧ i = k) → gQ (sI (cpS (sQ (newSt S) 26 k (some (gN S))) (gN S) 5) 4 16 0) b i = gQ S b i := fun b i q1 q2 => by
        rw [gQ_sI, cpS_q (by omega), gQ_sQ, if_neg q2, newSt_Q q1]
      have hs5 : StRel P Q (cpS (sQ (newSt S) 26 k (some (gN S))) (gN S) 5) (gN S) (gI S 74) := by
        refine StRel.cp h2 (g := gI S 74) ?_ hst2 (fun _ _ _ => rfl)
        exact hI.1.kp ((Keep.new h2 i2).tr (Keep.dyn hG (Dyn.sQ (by decide) Dyn.rf))) (fun j i q => by rw [gI_sQ, newSt_I (by omega)]) (fun j i q => by rw [gQ_sQ, if_neg (by omega), newSt_Q (by omega)]) (fun _ _ _ => rfl)
      have hcl := e130b (X := X) (d := d) (by omega) k q w2 f1 hr5
      obtain ⟨g1, g2, g3, g4, g5, g6⟩ := imgM (S1 := sI (cpS (sQ (newSt S) 26 k (some (gN S))) (gN S) 5) 4 16 0) q
      have hgN : gN (sI (cpS (sQ (newSt S) 26 k (some (gN S))) (gN S) 5) 4 16 0) = gN S + 7 := by rw [gN_sI, cpS_n.1, gN_sQ]; exact newSt_N.1
      have hgW : gW (sI (cpS (sQ (newSt S) 26 k (some (gN S))) (gN S) 5) 4 16 0) = gW S + 98 := by rw [gW_sI, cpS_n.2, gW_sQ]; exact newSt_N.2
      have hq26 : gQ (sI (cpS (sQ (newSt S) 26 k (some (gN S))) (gN S) 5) 4 16 0) 26 k = some (gN S) := by rw [gQ_sI, cpS_q (by omega), gQ_sQ, if_pos ⟨rfl, rfl⟩]
      have h416 : gI (sI (cpS (sQ (newSt S) 26 k (some (gN S))) (gN S) 5) 4 16 0) 4 16 = 0 := by simp (disch := first | omega | assumption | exact b01_rng _ | exact st_5 | exact st_12 | exact st_19 | (simp only [isSt_sI, isSt_sJ, isSt_sF, isSt_sG, isSt_sA]; assumption)) only [gI_sI, i_lit, i_add, i_sub, i_mul, i_neg, i_lt, i_le, i_eq, i32_gI, i64_gJ, i32_id, i32_to, i64_to, sI_i32, sJ_i64, b01_t, b01_f, i32_b01, b01_0, ↓a_s0, ↓n_s0, ↓a_s1, ↓n_s1, Int.add_zero, t_lt, f_lt, t_le, f_le, t_eq, f_eq, true_and, and_true, false_and, and_false, and_self, ↓reduceIte, z_bool_of, or_true, true_or, or_false, false_or, Int.neg_neg, not_true_eq_false, not_false_eq_true, lg_lt, lg_le, lg_gt, lg_ge, lg_eq, j_lit, j_add, j_sub, j_mul, j_neg, j_eq, i64_id, ij, ji, z_rt, Nat.reduceEqDiff, Nat.reduceAdd, Int.reduceAdd, Int.reduceSub, Int.reduceMul, Int.reduceNeg, Int.reduceLT, Int.reduceLE, Int.reduceEq]
      have hst3 : isSt (sI (cpS (sQ (newSt S) 26 k (some (gN S))) (gN S) 5) 4 16 0) (gN S) := hst2.mono (fun b x _ q => q) (fun _ i => by rw [gQ_sI, cpS_q (by omega)])
      have hro3 : RefOK (cpS (sQ (newSt S) 26 k (some (gN S))) (gN S) 5) (gN S) := hr5.cp
      have hfr : ∀ b, 114 ≤ b → gN S + 7 ≤ b → gH (sI (cpS (sQ (newSt S) 26 k (some (gN S))) (gN S) 5) 4 16 0) b = none := fun b q1 q2 => by
        rw [gH_sI, cpS_h, gH_sQ, newSt_H (by omega)]; exact i2 b q1 (by omega)
      have hJ : ∀ b i, gJ (sI (cpS (sQ (newSt S) 26 k (some (gN S))) (gN S) 5) 4 16 0) b i = gJ S b i := fun _ _ => rfl
      have hs6 : StRel P Q (sI (cpS (sQ (newSt S) 26 k (some (gN S))) (gN S) 5) 4 16 0) (gN S) (gI S 74) := hs5.fr hG (Dyn.sI (by decide) Dyn.rf) (fun i => by (repeat (first | rw [gI_sI, if_neg (by omega)] | rw [gI_sF, if_neg (by omega)] | rw [gI_sJ] | rw [gI_sG] | rw [gI_sQ]))) (fun i => by (repeat (first | rw [gI_sI, if_neg (by omega)] | rw [gI_sF, if_neg (by omega)] | rw [gI_sJ] | rw [gI_sG] | rw [gI_sQ]))) (fun i => by (repeat (first | rw [gI_sI, if_neg (by omega)] | rw [gI_sF, if_neg (by omega)] | rw [gI_sJ] | rw [gI_sG] | rw [gI_sQ]))) (fun i => by (repeat (first | rw [gI_sI, if_neg (by omega)] | rw [gI_sF, if_neg (by omega)] | rw [gI_sJ] | rw [gI_sG] | rw [gI_sQ]))) (fun i => by (repeat (first | rw [gI_sI, if_neg (by omega)] | rw [gI_sF, if_neg (by omega)] | rw [gI_sJ] | rw [gI_sG] | rw [gI_sQ]))) (fun i => rfl) (fun i => rfl) (fun i => rfl)
      have hro4 : RefOK (sI (cpS (sQ (newSt S) 26 k (some (gN S))) (gN S) 5) 4 16 0) (gN S) := hro3
      generalize sI (cpS (sQ (newSt S) 26 k (some (gN S))) (gN S) 5) 4 16 0 = S1 at *
      have hmo := e160b (X := X) (d := d) (S := S1) (by omega) k q
      generalize hF : sI (sI (sF (sI S1 72 0 0) 75 (7892 * k) (7892 * k + 7892) (fun j => gI S1 74 (j - 7892 * k))) 76 k 1) 72 1 0 = F at *
      have hQF : ∀ b i, gQ F b i = gQ S1 b i := by rw [← hF]; exact fun _ _ => rfl
      have hHF : ∀ b, gH F b = gH S1 b := by rw [← hF]; exact fun _ => rfl
      have hJF : ∀ b i, gJ F b i = gJ S1 b i := by rw [← hF]; exact fun _ _ => rfl
      refine ⟨_, _, _, hcl, hmo, ?_, by rw [g6.2.1, hgN]; omega, by rw [g6.2.2, hgW]; omega, Or.inl ⟨_, rfl⟩⟩
      refine hI.img (k := k) (s := gN S) q (hKp.tr (Keep.dyn hG g6)) (fun b i z1 z2 z3 z4 z5 => by rw [g1 b i z1 z3 z4 z5, hC b i (by omega) z2]) ⟨by rw [g1 4 16 (by omega) (by omega) (by omega) (by omega)]; exact h416, g5⟩ (fun i z1 z2 => by rw [g2 i z1 z2, hC 74 i (by omega) (by omega)]) (fun k' i z1 z2 z3 z4 z5 => by rw [g3 k' i z1 z2 z3 z4 z5, hC 75 _ (by omega) (by omega)]) ⟨g4.1, fun k' z => by rw [g4.2 k' z, hC 76 k' (by omega) (by omega)]⟩ (fun b i z1 z2 => by rw [hQF, hCQ b i (by omega) z2]) (by rw [hQF]; exact hq26) ⟨f1, by rw [g6.2.1, hgN]; omega, hst3.fr g6 f1, hro4.fr g6 (fun i => hQF _ _) (fun i => hQF _ _), hs6.fr hG g6 (g6.1 _ (by omega)).1 (g6.1 _ (by omega)).1 (g6.1 _ (by omega)).1 (g6.1 _ (by omega)).1 (g6.1 _ (by omega)).1 (fun i => hQF _ _) (fun i => hQF _ _) (fun i => rfl)⟩ (fun k' s' z1 z2 z3 z4 => ?_) (fun k' s' z1 z2 z3 z4 z5 z6 z7 j z8 => ?_) (fun b z1 z2 => ?_) (by rw [g6.2.1, hgN]; omega) (fun b x z1 z2 => by rw [hHF]; exact hmono b x z1 z2) (fun b i => by rw [hJF, hJ])
      · rcases i4 k' z1 z2 with ⟨-, e⟩ | ⟨-, s0, e1, e2, e3, -⟩
        · rw [e] at z4; cases z4
        · rw [e1] at z4; cases z4; omega
      · exact ⟨fun i => by rw [(g6.1 (s' + j) (by omega)).1 i, hC _ _ (by omega) (by omega)], fun i => by rw [hQF, hCQ _ _ (by omega) (by omega)]⟩
      · rw [hHF]; rw [g6.2.1, hgN] at z2; exact hfr b z1 z2
    · have hKp : Keep P Q S (sI (cpS S s 5) 4 16 0) := (Keep.cp h2 w5).tr (Keep.dyn hG (Dyn.sI (by decide) Dyn.rf))
      have hC : ∀ b i, b < s ∨ s + 6 < b → ¬ (b = 4 ∧ i = 16) → gI (sI (cpS S s 5) 4 16 0) b i = gI S b i := fun b i q1 q2 => by
        rw [gI_sI, if_neg q2, cpS_o q1]
      have hCQ : ∀ b i, b < s ∨ s + 6 < b → gQ (sI (cpS S s 5) 4 16 0) b i = gQ S b i := fun b i q1 => by
        rw [gQ_sI, cpS_q (by omega)]
      have hcl := e130c (X := X) (d := d) (by omega) k s q w2 w5 w3 i1
      obtain ⟨g1, g2, g3, g4, g5, g6⟩ := imgM (S1 := sI (cpS S s 5) 4 16 0) q
      have hgN : gN (sI (cpS S s 5) 4 16 0) = gN S := by rw [gN_sI, cpS_n.1]
      have hgW : gW (sI (cpS S s 5) 4 16 0) = gW S := by rw [gW_sI, cpS_n.2]
      have h416 : gI (sI (cpS S s 5) 4 16 0) 4 16 = 0 := by simp (disch := first | omega | assumption | exact b01_rng _ | exact st_5 | exact st_12 | exact st_19 | (simp only [isSt_sI, isSt_sJ, isSt_sF, isSt_sG, isSt_sA]; assumption)) only [gI_sI, i_lit, i_add, i_sub, i_mul, i_neg, i_lt, i_le, i_eq, i32_gI, i64_gJ, i32_id, i32_to, i64_to, sI_i32, sJ_i64, b01_t, b01_f, i32_b01, b01_0, ↓a_s0, ↓n_s0, ↓a_s1, ↓n_s1, Int.add_zero, t_lt, f_lt, t_le, f_le, t_eq, f_eq, true_and, and_true, false_and, and_false, and_self, ↓reduceIte, z_bool_of, or_true, true_or, or_false, false_or, Int.neg_neg, not_true_eq_false, not_false_eq_true, lg_lt, lg_le, lg_gt, lg_ge, lg_eq, j_lit, j_add, j_sub, j_mul, j_neg, j_eq, i64_id, ij, ji, z_rt, Nat.reduceEqDiff, Nat.reduceAdd, Int.reduceAdd, Int.reduceSub, Int.reduceMul, Int.reduceNeg, Int.reduceLT, Int.reduceLE, Int.reduceEq]
      have hst3 : isSt (sI (cpS S s 5) 4 16 0) s := w5.mono (fun b x _ q => q) (fun _ i => by rw [gQ_sI, cpS_q (by omega)])
      have hro4 : RefOK (sI (cpS S s 5) 4 16 0) s := i1.cp
      have hJ : ∀ b i, gJ (sI (cpS S s 5) 4 16 0) b i = gJ S b i := fun _ _ => rfl
      have hH : ∀ b, gH (sI (cpS S s 5) 4 16 0) b = gH S b := fun _ => rfl
      have hs6 : StRel P Q (sI (cpS S s 5) 4 16 0) s (gI S 74) := (StRel.cp h2 hI.1 w5 (fun _ _ _ => rfl)).fr hG (Dyn.sI (by decide) Dyn.rf) (fun i => by (repeat (first | rw [gI_sI, if_neg (by omega)] | rw [gI_sF, if_neg (by omega)] | rw [gI_sJ] | rw [gI_sG] | rw [gI_sQ]))) (fun i => by (repeat (first | rw [gI_sI, if_neg (by omega)] | rw [gI_sF, if_neg (by omega)] | rw [gI_sJ] | rw [gI_sG] | rw [gI_sQ]))) (fun i => by (repeat (first | rw [gI_sI, if_neg (by omega)] | rw [gI_sF, if_neg (by omega)] | rw [gI_sJ] | rw [gI_sG] | rw [gI_sQ]))) (fun i => by (repeat (first | rw [gI_sI, if_neg (by omega)] | rw [gI_sF, if_neg (by omega)] | rw [gI_sJ] | rw [gI_sG] | rw [gI_sQ]))) (fun i => by (repeat (first | rw [gI_sI, if_neg (by omega)] | rw [gI_sF, if_neg (by omega)] | rw [gI_sJ] | rw [gI_sG] | rw [gI_sQ]))) (fun i => rfl) (fun i => rfl) (fun i => rfl)
      generalize sI (cpS S s 5) 4 16 0 = S1 at *
      have hmo := e160b (X := X) (d := d) (S := S1) (by omega) k q
      generalize hF : sI (sI (sF (sI S1 72 0 0) 75 (7892 * k) (7892 * k + 7892) (fun j => gI S1 74 (j - 7892 * k))) 76 k 1) 72 1 0 = F at *
      have hQF : ∀ b i, gQ F b i = gQ S1 b i := by rw [← hF]; exact fun _ _ => rfl
      have hHF : ∀ b, gH F b = gH S1 b := by rw [← hF]; exact fun _ => rfl
      have hJF : ∀ b i, gJ F b i = gJ S1 b i := by rw [← hF]; exact fun _ _ => rfl
      refine ⟨_, _, _, hcl, hmo, ?_, by rw [g6.2.1, hgN]; omega, by rw [g6.2.2, hgW]; omega, Or.inl ⟨_, rfl⟩⟩
      refine hI.img (k := k) (s := s) q (hKp.tr (Keep.dyn hG g6)) (fun b i z1 z2 z3 z4 z5 => by rw [g1 b i z1 z3 z4 z5, hC b i (by omega) z2]) ⟨by rw [g1 4 16 (by omega) (by omega) (by omega) (by omega)]; exact h416, g5⟩ (fun i z1 z2 => by rw [g2 i z1 z2, hC 74 i (by omega) (by omega)]) (fun k' i z1 z2 z3 z4 z5 => by rw [g3 k' i z1 z2 z3 z4 z5, hC 75 _ (by omega) (by omega)]) ⟨g4.1, fun k' z => by rw [g4.2 k' z, hC 76 k' (by omega) (by omega)]⟩ (fun b i z1 z2 => by rw [hQF, hCQ b i (by omega)]) (by rw [hQF, hCQ 26 k (by omega)]; exact w2) ⟨w3, by rw [g6.2.1, hgN]; exact w4, hst3.fr g6 w3, hro4.fr g6 (fun i => hQF _ _) (fun i => hQF _ _), hs6.fr hG g6 (g6.1 _ (by omega)).1 (g6.1 _ (by omega)).1 (g6.1 _ (by omega)).1 (g6.1 _ (by omega)).1 (g6.1 _ (by omega)).1 (fun i => hQF _ _) (fun i => hQF _ _) (fun i => rfl)⟩ (fun k' s' z1 z2 z3 z4 => ?_) (fun k' s' z1 z2 z3 z4 z5 z6 z7 j z8 => ?_) (fun b z1 z2 => ?_) (by rw [g6.2.1, hgN]; omega) (fun b x z1 z2 => by rw [hHF, hH]; exact z2) (fun b i => by rw [hJF, hJ])
      · intro e; subst e
        rcases (show (k = 0 ∧ k' = 1) ∨ (k = 1 ∧ k' = 0) by omega) with ⟨rfl, rfl⟩ | ⟨rfl, rfl⟩
        · exact i3 s' w2 z4
        · exact i3 s' z4 w2
      · have hne : s' ≠ s := by
          intro e; subst e
          rcases (show (k = 0 ∧ k' = 1) ∨ (k = 1 ∧ k' = 0) by omega) with ⟨rfl, rfl⟩ | ⟨rfl, rfl⟩
          · exact i3 s' w2 z4
          · exact i3 s' z4 w2
        have := z6.apart w5 z5 w3 hne
        exact ⟨fun i => by rw [(g6.1 (s' + j) (by omega)).1 i, hC _ _ (by omega) (by omega)], fun i => by rw [hQF, hCQ _ _ (by omega)]⟩
      · rw [hHF, hH]; rw [g6.2.1, hgN] at z2; exact i2 b z1 z2
  · exact pair_rf hG hI (v := -1) (by omega) (e130a (by omega) k h1 q) (e160a (by omega) k h1 q)
