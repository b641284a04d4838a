/-! a law is taken, in pairs -/
theorem ClsC.fr {S T : zS} {a m nc : Nat} {g h : Int → Int} (hM : ClsC S a m nc g h) (hc : ∀ j : Nat, j < 3 → (∀ i, gI T (a + j) i = gI S (a + j) i) ∧ (∀ i, gQ T (a + j) i = gQ S (a + j) i) ∧ gH T (a + j) = gH S (a + j)) : ClsC T a m nc g h := by
  obtain ⟨h1, h2, ⟨h3, h4⟩, ⟨h5, h6⟩, ⟨h7, h8⟩, h9, h10⟩ := hM
  have e0 := hc 0 (by omega)
  rw [Nat.add_zero] at e0
  obtain ⟨q0, r0, s0⟩ := e0
  obtain ⟨q1, r1, s1⟩ := hc 1 (by omega)
  obtain ⟨q2, r2, s2⟩ := hc 2 (by omega)
  exact ⟨h1, by rw [s0]; exact h2, ⟨by rw [s1]; exact h3, by rw [s2]; exact h4⟩, ⟨by rw [r0]; exact h5, by rw [r0]; exact h6⟩, ⟨by rw [q0]; exact h7, by rw [q0]; exact h8⟩, fun i w1 w2 => by rw [q1]; exact h9 i w1 w2, fun i w1 w2 => by rw [q2]; exact h10 i w1 w2⟩
theorem RSg.cg' {I I' : Ins} {x : Option Ev} {f g : Int} (h : RSg I x f g) (h0 : 0 ≤ f) (hI : ∀ i, 0 ≤ i → i < g → I' i = I i) : RSg I' x f g := by
  cases x with
  | none => exact h
  | some e => obtain ⟨m, h1, h2⟩ := h; exact ⟨m, h1, h2.cg (fun i w q => hI i (by omega) q)⟩
theorem RCl0.cg' {I I' : Ins} {k : Int} {r r' : Int → Int} {q : Int} {cl : Cl} (h : RCl0 I k r q cl) (hI : ∀ i, 0 ≤ i → i < k → I' i = I i) (hr : ∀ i, 8 * q ≤ i → i < 8 * q + 8 → r' i = r i) : RCl0 I' k r' q cl := by
  obtain ⟨h1, h2, h3, h4, h5, h6⟩ := h
  exact ⟨by rw [hr _ (by omega) (by omega)]; exact h1, by rw [hr _ (by omega) (by omega), hr _ (by omega) (by omega), hr _ (by omega) (by omega), hr _ (by omega) (by omega)]; omega, by rw [hr _ (by omega) (by omega), hr _ (by omega) (by omega)]; exact h3.cg' (by omega) (fun i w q => hI i w (by omega)), h4, h5, by rw [hr _ (by omega) (by omega), hr _ (by omega) (by omega)]; exact h6.cg' (by omega) (fun i w q => hI i w (by omega))⟩
theorem law_ok {P : zP} (h2 : Good2 P QL) {S S' Z : zS} {k : Int} {cls : List Cl} {m : Nat} {g h : Int → Int} {z kc : Int} (hI : Inv P QL S) (hk : gI S 74 3 = k) (hk2 : 0 ≤ k ∧ k < 6) (hC : FrC5N (sI (sI S 35 1 0) 4 17 (-1)) S' 3 501) (hM : ClsC S' (gN S) m cls.length g h) (hm : m ≤ 436) (hT : CTx (insC g) m h cls) (hO : AllOK cls z ∧ ∀ cl ∈ cls, LwK cl) (hl : 1 ≤ cls.length ∧ cls.length ≤ 12) (hZ : FrTx (sI (sI (sI (sQ S' 11 k (some (gN S))) 5 9 (k + 1)) 4 16 0) 72 0 0) Z) (h18 : gI Z 72 18 = -1) (hE : EndT Z) (hkc : 0 ≤ kc ∧ kc ≤ 400) (hR : RTx Z kc cls) : Inv P QL (lawM Z k cls.length kc) ∧ gN (lawM Z k cls.length kc) = gN S + 3 ∧ gW (lawM Z k cls.length kc) ≤ gW S + 501 := by
  have hG := h2.g
  have hfx := hI.2.2.2.2.2.2
  have hN := hfx.1
  obtain ⟨f1, f2, f3, f4, f5, f6⟩ := hC
  have eN : gN (sI (sI S 35 1 0) 4 17 (-1)) = gN S := rfl
  rw [eN] at f1 f3 f4 f6
  obtain ⟨m1, m2, m3, m4, m5, m6, m7, m8, m9⟩ := id hI.2.2.2.1
  have fresh := hI.2.2.2.2.2.1.2.1.1
  -- what the class has left
  have c1 : ∀ b i, b < gN S → ¬ (37 ≤ b ∧ b ≤ 55) → ¬ (b = 35 ∧ i = 1) → b ≠ 4 → ¬ (b = 5 ∧ i = 9) → gI (sI (sI (sQ S' 11 k (some (gN S))) 5 9 (k + 1)) 4 16 0) b i = gI S b i := fun b i q0 q1 q2 q3 q4 => by
    (repeat (first | rw [gI_sI, if_neg (by omega)] | rw [gI_sF, if_neg (by omega)] | rw [gI_sJ] | rw [gI_sG] | rw [gI_sQ])); rw [f3 b q0 q1 i, gI_sI, if_neg (by omega), gI_sI, if_neg q2]
  have c35 : gI (sI (sI (sQ S' 11 k (some (gN S))) 5 9 (k + 1)) 4 16 0) 35 1 = 0 := by (repeat (first | rw [gI_sI, if_neg (by omega)] | rw [gI_sF, if_neg (by omega)] | rw [gI_sJ] | rw [gI_sG] | rw [gI_sQ])); rw [f3 35 (by omega) (by omega)]; simp (disch := first | omega | assumption | exact b01_rng _ | exact st_5 | exact st_12 | exact st_19 | (simp only [isSt_sI, isSt_sJ, isSt_sF, isSt_sG, isSt_sA]; assumption)) only [gI_sI, i_lit, i_add, i_sub, i_mul, i_neg, i_lt, i_le, i_eq, i32_gI, i64_gJ, i32_id, i32_to, i64_to, sI_i32, sJ_i64, b01_t, b01_f, i32_b01, b01_0, ↓a_s0, ↓n_s0, ↓a_s1, ↓n_s1, Int.add_zero, t_lt, f_lt, t_le, f_le, t_eq, f_eq, true_and, and_true, false_and, and_false, and_self, ↓reduceIte, z_bool_of, or_true, true_or, or_false, false_or, Int.neg_neg, not_true_eq_false, not_false_eq_true, lg_lt, lg_le, lg_gt, lg_ge, lg_eq, j_lit, j_add, j_sub, j_mul, j_neg, j_eq, i64_id, ij, ji, z_rt, Nat.reduceEqDiff, Nat.reduceAdd, Int.reduceAdd, Int.reduceSub, Int.reduceMul, Int.reduceNeg, Int.reduceLT, Int.reduceLE, Int.reduceEq]
  have c4 : ∀ i, i ≠ 16 → i ≠ 17 → gI (sI (sI (sQ S' 11 k (some (gN S))) 5 9 (k + 1)) 4 16 0) 4 i = gI S 4 i := fun i q1 q2 => by
    (repeat (first | rw [gI_sI, if_neg (by omega)] | rw [gI_sF, if_neg (by omega)] | rw [gI_sJ] | rw [gI_sG] | rw [gI_sQ])); rw [f3 4 (by omega) (by omega)]; (repeat (first | rw [gI_sI, if_neg (by omega)] | rw [gI_sF, if_neg (by omega)] | rw [gI_sJ] | rw [gI_sG] | rw [gI_sQ]))
  have c417 : gI (sI (sI (sQ S' 11 k (some (gN S))) 5 9 (k + 1)) 4 16 0) 4 17 = -1 := by (repeat (first | rw [gI_sI, if_neg (by omega)] | rw [gI_sF, if_neg (by omega)] | rw [gI_sJ] | rw [gI_sG] | rw [gI_sQ])); rw [f3 4 (by omega) (by omega)]; simp (disch := first | omega | assumption | exact b01_rng _ | exact st_5 | exact st_12 | exact st_19 | (simp only [isSt_sI, isSt_sJ, isSt_sF, isSt_sG, isSt_sA]; assumption)) only [gI_sI, i_lit, i_add, i_sub, i_mul, i_neg, i_lt, i_le, i_eq, i32_gI, i64_gJ, i32_id, i32_to, i64_to, sI_i32, sJ_i64, b01_t, b01_f, i32_b01, b01_0, ↓a_s0, ↓n_s0, ↓a_s1, ↓n_s1, Int.add_zero, t_lt, f_lt, t_le, f_le, t_eq, f_eq, true_and, and_true, false_and, and_false, and_self, ↓reduceIte, z_bool_of, or_true, true_or, or_false, false_or, Int.neg_neg, not_true_eq_false, not_false_eq_true, lg_lt, lg_le, lg_gt, lg_ge, lg_eq, j_lit, j_add, j_sub, j_mul, j_neg, j_eq, i64_id, ij, ji, z_rt, Nat.reduceEqDiff, Nat.reduceAdd, Int.reduceAdd, Int.reduceSub, Int.reduceMul, Int.reduceNeg, Int.reduceLT, Int.reduceLE, Int.reduceEq]
  have c416 : gI (sI (sI (sQ S' 11 k (some (gN S))) 5 9 (k + 1)) 4 16 0) 4 16 = 0 := by simp (disch := first | omega | assumption | exact b01_rng _ | exact st_5 | exact st_12 | exact st_19 | (simp only [isSt_sI, isSt_sJ, isSt_sF, isSt_sG, isSt_sA]; assumption)) only [gI_sI, i_lit, i_add, i_sub, i_mul, i_neg, i_lt, i_le, i_eq, i32_gI, i64_gJ, i32_id, i32_to, i64_to, sI_i32, sJ_i64, b01_t, b01_f, i32_b01, b01_0, ↓a_s0, ↓n_s0, ↓a_s1, ↓n_s1, Int.add_zero, t_lt, f_lt, t_le, f_le, t_eq, f_eq, true_and, and_true, false_and, and_false, and_self, ↓reduceIte, z_bool_of, or_true, true_or, or_false, false_or, Int.neg_neg, not_true_eq_false, not_false_eq_true, lg_lt, lg_le, lg_gt, lg_ge, lg_eq, j_lit, j_add, j_sub, j_mul, j_neg, j_eq, i64_id, ij, ji, z_rt, Nat.reduceEqDiff, Nat.reduceAdd, Int.reduceAdd, Int.reduceSub, Int.reduceMul, Int.reduceNeg, Int.reduceLT, Int.reduceLE, Int.reduceEq]
  have c59 : gI (sI (sI (sQ S' 11 k (some (gN S))) 5 9 (k + 1)) 4 16 0) 5 9 = k + 1 := by simp (disch := first | omega | assumption | exact b01_rng _ | exact st_5 | exact st_12 | exact st_19 | (simp only [isSt_sI, isSt_sJ, isSt_sF, isSt_sG, isSt_sA]; assumption)) only [gI_sI, i_lit, i_add, i_sub, i_mul, i_neg, i_lt, i_le, i_eq, i32_gI, i64_gJ, i32_id, i32_to, i64_to, sI_i32, sJ_i64, b01_t, b01_f, i32_b01, b01_0, ↓a_s0, ↓n_s0, ↓a_s1, ↓n_s1, Int.add_zero, t_lt, f_lt, t_le, f_le, t_eq, f_eq, true_and, and_true, false_and, and_false, and_self, ↓reduceIte, z_bool_of, or_true, true_or, or_false, false_or, Int.neg_neg, not_true_eq_false, not_false_eq_true, lg_lt, lg_le, lg_gt, lg_ge, lg_eq, j_lit, j_add, j_sub, j_mul, j_neg, j_eq, i64_id, ij, ji, z_rt, Nat.reduceEqDiff, Nat.reduceAdd, Int.reduceAdd, Int.reduceSub, Int.reduceMul, Int.reduceNeg, Int.reduceLT, Int.reduceLE, Int.reduceEq]
  have cn : ∀ b i, gN S ≤ b → gI (sI (sI (sQ S' 11 k (some (gN S))) 5 9 (k + 1)) 4 16 0) b i = gI S' b i := fun b i q => by (repeat (first | rw [gI_sI, if_neg (by omega)] | rw [gI_sF, if_neg (by omega)] | rw [gI_sJ] | rw [gI_sG] | rw [gI_sQ]))
  have cJ : ∀ a i, gJ (sI (sI (sQ S' 11 k (some (gN S))) 5 9 (k + 1)) 4 16 0) a i = gJ S a i := fun a i => f5 a i
  have cQ : ∀ b i, b < gN S → ¬ (b = 11 ∧ i = k) → gQ (sI (sI (sQ S' 11 k (some (gN S))) 5 9 (k + 1)) 4 16 0) b i = gQ S b i := fun b i q1 q2 => by
    rw [gQ_sI, gQ_sI, gQ_sQ, if_neg q2]; exact (f4 b q1).1 i
  have cQn : ∀ b i, gN S ≤ b → gQ (sI (sI (sQ S' 11 k (some (gN S))) 5 9 (k + 1)) 4 16 0) b i = gQ S' b i := fun b i q => by
    rw [gQ_sI, gQ_sI, gQ_sQ, if_neg (by omega)]
  have cQk : gQ (sI (sI (sQ S' 11 k (some (gN S))) 5 9 (k + 1)) 4 16 0) 11 k = some (gN S) := by rw [gQ_sI, gQ_sI, gQ_sQ, if_pos ⟨rfl, rfl⟩]
  have cH : ∀ b, gH (sI (sI (sQ S' 11 k (some (gN S))) 5 9 (k + 1)) 4 16 0) b = gH S' b := fun _ => rfl
  have cN : gN (sI (sI (sQ S' 11 k (some (gN S))) 5 9 (k + 1)) 4 16 0) = gN S + 3 := f1
  have cW : gW (sI (sI (sQ S' 11 k (some (gN S))) 5 9 (k + 1)) 4 16 0) ≤ gW S + 501 := f2
  generalize sI (sI (sQ S' 11 k (some (gN S))) 5 9 (k + 1)) 4 16 0 = C at *
  -- what the reference has
  have hD : Dyn C (lawM Z k cls.length kc) := ((by (repeat (first | exact Dyn.rf | refine Dyn.sI (by decide) ?_ | refine Dyn.sF (by decide) ?_ | refine Dyn.sJ ?_ | refine Dyn.sG ?_ | refine Dyn.sQ (by decide) ?_)) : Dyn C (sI C 72 0 0)).tr hZ.1).tr (by unfold lawM; (repeat (first | exact Dyn.rf | refine Dyn.sI (by decide) ?_ | refine Dyn.sF (by decide) ?_ | refine Dyn.sJ ?_ | refine Dyn.sG ?_ | refine Dyn.sQ (by decide) ?_)))
  have t1 : ∀ a i, a ≠ 72 → a ≠ 74 → ¬ (82 ≤ a ∧ a ≤ 86) → gI (lawM Z k cls.length kc) a i = gI C a i := fun a i q1 q2 q3 => by
    unfold lawM; (repeat (first | rw [gI_sI, if_neg (by omega)] | rw [gI_sF, if_neg (by omega)] | rw [gI_sJ] | rw [gI_sG] | rw [gI_sQ])); rw [hZ.2.1 a i (by omega) q3]; (repeat (first | rw [gI_sI, if_neg (by omega)] | rw [gI_sF, if_neg (by omega)] | rw [gI_sJ] | rw [gI_sG] | rw [gI_sQ]))
  have t72 : ∀ i, i = 8 ∨ i = 11 ∨ i = 67 ∨ i = 71 → gI (lawM Z k cls.length kc) 72 i = gI C 72 i := fun i q => by
    unfold lawM; (repeat (first | rw [gI_sI, if_neg (by omega)] | rw [gI_sF, if_neg (by omega)] | rw [gI_sJ] | rw [gI_sG] | rw [gI_sQ])); rw [hZ.2.1 72 i (by omega) (by omega)]; (repeat (first | rw [gI_sI, if_neg (by omega)] | rw [gI_sF, if_neg (by omega)] | rw [gI_sJ] | rw [gI_sG] | rw [gI_sQ]))
  have t13 : gI (lawM Z k cls.length kc) 72 13 = 0 := by unfold lawM; (repeat (first | rw [gI_sI, if_neg (by omega)] | rw [gI_sF, if_neg (by omega)] | rw [gI_sJ] | rw [gI_sG] | rw [gI_sQ])); exact hE.1
  have t20 : gI (lawM Z k cls.length kc) 72 20 = 0 := by unfold lawM; (repeat (first | rw [gI_sI, if_neg (by omega)] | rw [gI_sF, if_neg (by omega)] | rw [gI_sJ] | rw [gI_sG] | rw [gI_sQ])); exact hE.2
  have t18 : gI (lawM Z k cls.length kc) 72 18 = -1 := by unfold lawM; (repeat (first | rw [gI_sI, if_neg (by omega)] | rw [gI_sF, if_neg (by omega)] | rw [gI_sJ] | rw [gI_sG] | rw [gI_sQ])); exact h18
  have t01 : gI (lawM Z k cls.length kc) 72 1 = 0 := by unfold lawM; simp (disch := first | omega | assumption | exact b01_rng _ | exact st_5 | exact st_12 | exact st_19 | (simp only [isSt_sI, isSt_sJ, isSt_sF, isSt_sG, isSt_sA]; assumption)) only [gI_sI, i_lit, i_add, i_sub, i_mul, i_neg, i_lt, i_le, i_eq, i32_gI, i64_gJ, i32_id, i32_to, i64_to, sI_i32, sJ_i64, b01_t, b01_f, i32_b01, b01_0, ↓a_s0, ↓n_s0, ↓a_s1, ↓n_s1, Int.add_zero, t_lt, f_lt, t_le, f_le, t_eq, f_eq, true_and, and_true, false_and, and_false, and_self, ↓reduceIte, z_bool_of, or_true, true_or, or_false, false_or, Int.neg_neg, not_true_eq_false, not_false_eq_true, lg_lt, lg_le, lg_gt, lg_ge, lg_eq, j_lit, j_add, j_sub, j_mul, j_neg, j_eq, i64_id, ij, ji, z_rt, Nat.reduceEqDiff, Nat.reduceAdd, Int.reduceAdd, Int.reduceSub, Int.reduceMul, Int.reduceNeg, Int.reduceLT, Int.reduceLE, Int.reduceEq]
  have e74 : ∀ i, gI Z 74 i = gI C 74 i := fun i => by rw [hZ.2.1 _ _ (by omega) (by omega)]; (repeat (first | rw [gI_sI, if_neg (by omega)] | rw [gI_sF, if_neg (by omega)] | rw [gI_sJ] | rw [gI_sG] | rw [gI_sQ]))
  have t74 : ∀ i, i ≠ 3 → ¬ (2492 + 900 * k ≤ i ∧ i < 2492 + 900 * k + 900) → gI (lawM Z k cls.length kc) 74 i = gI C 74 i := fun i q1 q2 => by
    unfold lawM
    rw [gI_sI, if_neg (by omega), gI_sI, if_neg (by omega), gI_sF, if_neg (by omega), gI_sF, if_neg (by omega), gI_sI, if_neg (by omega)]; exact e74 i
  have t743 : gI (lawM Z k cls.length kc) 74 3 = k + 1 := by
    unfold lawM; rw [gI_sI, if_neg (by omega), gI_sI, if_pos ⟨rfl, rfl⟩, i32_id (by omega) (by omega)]
  have t74a : gI (lawM Z k cls.length kc) 74 (2492 + 900 * k + 1) = cls.length := by
    unfold lawM; rw [gI_sI, if_neg (by omega), gI_sI, if_neg (by omega), gI_sF, if_neg (by omega), gI_sF, if_neg (by omega), gI_sI, if_pos ⟨rfl, rfl⟩, i32_id (by omega) (by omega)]
  have t74b : ∀ i : Int, 0 ≤ i → i < 8 * cls.length → gI (lawM Z k cls.length kc) 74 (2492 + 900 * k + (2 + i)) = gI Z 82 i := fun i q1 q2 => by
    unfold lawM
    rw [gI_sI, if_neg (by omega), gI_sI, if_neg (by omega), gI_sF, if_neg (by omega), gI_sF, if_pos (by omega)]
    unfold fA
    rw [i32_gI, show (2492 + 900 * k + (2 + i) - (2492 + 900 * k + 2)) = i by omega]
  have t74c : ∀ i : Int, 0 ≤ i → i < kc → gI (lawM Z k cls.length kc) 74 (2492 + 900 * k + (98 + 2 * i)) = gI Z 83 i := fun i q1 q2 => by
    unfold lawM
    rw [gI_sI, if_neg (by omega), gI_sI, if_neg (by omega), gI_sF, if_pos (by omega)]
    unfold fB
    rw [if_pos (by omega), i32_gI, show (2492 + 900 * k + (98 + 2 * i) - (2492 + 900 * k + 98)) / 2 = i by omega]
  have t74d : ∀ i : Int, 0 ≤ i → i < kc → gI (lawM Z k cls.length kc) 74 (2492 + 900 * k + (99 + 2 * i)) = gI Z 84 i := fun i q1 q2 => by
    unfold lawM
    rw [gI_sI, if_neg (by omega), gI_sI, if_neg (by omega), gI_sF, if_pos (by omega)]
    unfold fB
    rw [if_neg (by omega), i32_gI, show (2492 + 900 * k + (99 + 2 * i) - (2492 + 900 * k + 98)) / 2 = i by omega]
  have tJ : ∀ a i, ¬ (a = 72 ∧ i = 17) → gJ (lawM Z k cls.length kc) a i = gJ C a i := fun a i q => hZ.2.2.1 a i q
  have tQ : ∀ a i, gQ (lawM Z k cls.length kc) a i = gQ C a i := fun a i => hZ.2.2.2 a i
  generalize lawM Z k cls.length kc = F at *
  have kI : ∀ a i, a < gN S → ¬ (37 ≤ a ∧ a ≤ 55) → ¬ (a = 35 ∧ i = 1) → a ≠ 4 → ¬ (a = 5 ∧ i = 9) → a ≠ 72 → a ≠ 74 → ¬ (82 ≤ a ∧ a ≤ 86) → gI F a i = gI S a i := fun a i q0 q1 q2 q3 q4 q5 q6 q7 => by rw [t1 a i q5 q6 q7, c1 a i q0 q1 q2 q3 q4]
  have kQ : ∀ a i, a < gN S → ¬ (a = 11 ∧ i = k) → gQ F a i = gQ S a i := fun a i q1 q2 => (tQ a i).trans (cQ a i q1 q2)
  have k72 : ∀ i, i = 8 ∨ i = 11 ∨ i = 67 ∨ i = 71 → gI F 72 i = gI S 72 i := fun i q => by rw [t72 i q, c1 72 i (by omega) (by omega) (by omega) (by omega) (by omega)]
  have k74 : ∀ i, i ≠ 3 → ¬ (2492 + 900 * k ≤ i ∧ i < 2492 + 900 * k + 900) → gI F 74 i = gI S 74 i := fun i q1 q2 => by rw [t74 i q1 q2, c1 74 i (by omega) (by omega) (by omega) (by omega) (by omega)]
  have kD : ∀ b, 114 ≤ b → b < gN S → (∀ i, gI F b i = gI S b i) ∧ (∀ i, gQ F b i = gQ S b i) ∧ gH F b = gH S b := fun b q1 q2 => ⟨fun i => by rw [(hD.1 b q1).1 i, c1 b i q2 (by omega) (by omega) (by omega) (by omega)], fun i => kQ b i q2 (by omega), by rw [(hD.1 b q1).2.2, cH]; exact (f4 b q2).2 q1⟩
  have hFN : gN F = gN S + 3 := by rw [hD.2.1, cN]
  have hFW : gW F ≤ gW S + 501 := by rw [hD.2.2]; exact cW
  refine ⟨?_, hFN, hFW⟩
  have hK : Keep P QL S F := Keep.of h2 fresh kD
  have hMF : ClsC F (gN S) m cls.length g h := hM.fr (fun j hj => ⟨fun i => by rw [(hD.1 (gN S + j) (by omega)).1 i, cn _ _ (by omega)], fun i => by rw [(hD.1 (gN S + j) (by omega)).2.1 i, cQn _ _ (by omega)], by rw [(hD.1 (gN S + j) (by omega)).2.2, cH]⟩)
  have hH : ∀ b y, 114 ≤ b → gH S b = some y → gH F b = some y := fun b y q1 q2 => by
    have hb : b < gN S := by
      apply Classical.byContradiction; intro hq; rw [fresh b q1 (by omega)] at q2; cases q2
    rw [(kD b q1 hb).2.2]; exact q2
  refine hI.gen hK ?_ ?_ ?_ ?_ ?_ ?_ (fun i => kI _ _ (by omega) (by omega) (by omega) (by omega) (by omega) (by omega) (by omega) (by omega)) (fun i => kI _ _ (by omega) (by omega) (by omega) (by omega) (by omega) (by omega) (by omega) (by omega)) (fun i => kQ _ _ (by omega) (by omega)) kD (by omega) (fun b q1 q2 => ?_) (fun b i q => by rw [tJ b i (by omega)]; exact cJ b i) (by rw [kQ _ _ (by omega) (by omega), kQ _ _ (by omega) (by omega)]; exact hfx.2.1) t20
  · obtain ⟨a1, a2, a3, a4, a5, a6, a7, a8, a9, a10⟩ := id hI.1
    have k5 : ∀ i, i ≠ 9 → gI F 5 i = gI S 5 i := fun i q => kI _ _ (by omega) (by omega) (by omega) (by omega) (by omega) (by omega) (by omega) (by omega)
    have kk : ∀ j i, 6 ≤ j → j ≤ 9 → gI F j i = gI S j i := fun j i q1 q2 => kI _ _ (by omega) (by omega) (by omega) (by omega) (by omega) (by omega) (by omega) (by omega)
    refine ⟨by rw [k5 _ (by omega), k74 0 (by omega) (by omega)]; exact a1, by rw [k5 _ (by omega), k74 1 (by omega) (by omega)]; exact a2, by rw [k5 _ (by omega), k74 2 (by omega) (by omega)]; exact a3, ?_, ?_, ?_, fun p q1 q2 => ?_, fun j q1 q2 => ?_, fun j q1 q2 => ?_, fun j q1 q2 => ?_⟩
    · rw [t743, t1 5 9 (by omega) (by omega) (by omega), c59]; omega
    · rw [k5 _ (by omega), k74 4 (by omega) (by omega), t743]
      rw [hk] at a5
      omega
    · rw [kk 7 0 (by omega) (by omega), kk 7 1 (by omega) (by omega), kk 7 2 (by omega) (by omega), k74 5 (by omega) (by omega), k74 6 (by omega) (by omega), k74 7 (by omega) (by omega)]; exact a6
    · rw [kk 6 _ (by omega) (by omega), kk 6 _ (by omega) (by omega), kk 6 _ (by omega) (by omega), k74 _ (by omega) (by omega), k74 _ (by omega) (by omega), k74 _ (by omega) (by omega)]; exact a7 p q1 q2
    · rw [k74 2 (by omega) (by omega)] at q2
      rw [kk 8 _ (by omega) (by omega), kk 9 _ (by omega) (by omega), k74 _ (by omega) (by omega), k74 _ (by omega) (by omega)]; exact a8 j q1 q2
    · rw [k74 1 (by omega) (by omega)] at q2
      obtain ⟨a, w1, w2⟩ := a9 j q1 q2
      refine ⟨a, by rw [kQ 10 j (by omega) (by omega)]; exact w1, ?_⟩
      rw [blk_eq (g := gI S 74) (b := 80 + 402 * j) (fun i z1 z2 => k74 _ (by omega) (by omega))]
      exact hK.1 a _ w2
    · rw [t743] at q2
      by_cases e : j = k
      · subst e
        refine ⟨gN S, by rw [tQ]; exact cQk, QL.mk (k := kc) hMF hm hT hO hl hkc ?_ (fun i cl q => ?_)⟩
        · unfold blk; rw [if_pos (by omega)]; exact t74a
        · have hi := (List.getElem?_eq_some_iff.mp q).1
          refine (hR i cl q).cg' (fun w q1 q2 => ?_) (fun w q1 q2 => ?_)
          · show dM 0 (blk (gI F 74) (2492 + 900 * j) 900 (98 + 2 * w)) (blk (gI F 74) (2492 + 900 * j) 900 (99 + 2 * w)) = dM 0 (gI Z 83 w) (gI Z 84 w)
            unfold blk; rw [if_pos (by omega), if_pos (by omega), t74c w q1 q2, t74d w q1 q2]
          · show blk (gI F 74) (2492 + 900 * j) 900 (2 + w) = gI Z 82 w
            unfold blk; rw [if_pos (by omega)]; exact t74b w (by omega) (by omega)
      · obtain ⟨a, w1, w2⟩ := a10 j q1 (by omega)
        refine ⟨a, by rw [kQ 11 j (by omega) (by omega)]; exact w1, ?_⟩
        rw [blk_eq (g := gI S 74) (b := 2492 + 900 * j) (fun i z1 z2 => k74 _ (by omega) (by omega))]
        exact hK.2 a _ w2
  · exact hI.2.1.fr (kI _ _ (by omega) (by omega) (by omega) (by omega) (by omega) (by omega) (by omega) (by omega)) (k72 8 (by omega)) (fun i => kI _ _ (by omega) (by omega) (by omega) (by omega) (by omega) (by omega) (by omega) (by omega)) (fun i => kI _ _ (by omega) (by omega) (by omega) (by omega) (by omega) (by omega) (by omega) (by omega)) (fun i => kI _ _ (by omega) (by omega) (by omega) (by omega) (by omega) (by omega) (by omega) (by omega)) (fun i => kI _ _ (by omega) (by omega) (by omega) (by omega) (by omega) (by omega) (by omega) (by omega)) (fun i => kI _ _ (by omega) (by omega) (by omega) (by omega) (by omega) (by omega) (by omega) (by omega)) (fun i q1 q2 => k74 _ (by omega) (by omega))
  · refine ⟨⟨?_, ?_, ?_⟩, fun i q1 q2 => ?_⟩
    · rw [t13, t1 35 1 (by omega) (by omega) (by omega), c35]
    · rw [t13]; omega
    · rw [t13]; omega
    · rw [t13] at q2; omega
  · unfold MsRel
    rw [t1 4 17 (by omega) (by omega) (by omega), t1 4 18 (by omega) (by omega) (by omega), t1 4 19 (by omega) (by omega) (by omega), t1 4 16 (by omega) (by omega) (by omega), c417, c416, c4 18 (by omega) (by omega), c4 19 (by omega) (by omega), t18, t01, k72 11 (by omega), k72 67 (by omega)]
    have e : ∀ i, gI F 71 i = gI S 71 i := fun i => kI _ _ (by omega) (by omega) (by omega) (by omega) (by omega) (by omega) (by omega) (by omega)
    have e2 : ∀ i, gI F 73 i = gI S 73 i := fun i => kI _ _ (by omega) (by omega) (by omega) (by omega) (by omega) (by omega) (by omega) (by omega)
    simp only [e, e2]
    exact ⟨trivial, m2, m3, trivial, m5, m6, m7, m8, m9⟩
  · exact hI.2.2.2.2.1.fr (k72 71 (by omega)) (kI _ _ (by omega) (by omega) (by omega) (by omega) (by omega) (by omega) (by omega) (by omega)) (fun i => kI _ _ (by omega) (by omega) (by omega) (by omega) (by omega) (by omega) (by omega) (by omega)) (fun i => kI _ _ (by omega) (by omega) (by omega) (by omega) (by omega) (by omega) (by omega) (by omega))
  · obtain ⟨r1, r2⟩ := hI.2.2.2.2.2.1.1
    refine ⟨fun j a q1 q2 q3 => ?_, fun j a q1 q2 q3 => ?_⟩
    · rw [kQ (5 + 5) j (by omega) (by omega)] at q3
      obtain ⟨w1, w2⟩ := r1 j a q1 q2 q3
      exact ⟨w1, hH a _ w1 w2⟩
    · by_cases e : j = k
      · subst e
        have : gQ F (5 + 6) j = some (gN S) := by rw [tQ]; exact cQk
        rw [this] at q3
        cases q3
        exact ⟨hN, hMF.2.1⟩
      · rw [kQ (5 + 6) j (by omega) (by omega)] at q3
        obtain ⟨w1, w2⟩ := r2 j a q1 q2 q3
        exact ⟨w1, hH a _ w1 w2⟩
  · rw [(hD.1 b q1).2.2, cH, f6 b (by omega)]; exact fresh b q1 (by omega)
