/-! the reference's law(): it begins, reads, copies -/
theorem z197 {X : zX} {d : Nat} (hd : 4 < d) {b : Int → Int} {n : Int} {T : Nat} (hT : RTape b n T) {S : zS} {ord : Int} (ho : ord = 0 ∨ ord = 1) (h1 : gI S 72 13 = n) (h2 : gI S 81 = b) : ∃ S' : zS, (∀ {cm cp : Nat} {L : zL} {st : List Value}, z_evc X d 197 [.ref 72, .int (Int32.ofInt ord)] (cm, cp, L, st, mk S) = z_ev X d (cm, cp, L, st, mk S')) ∧ RE S' b n T 0 ord (0, 0) 0 ∧ gI S' 72 21 = 0 ∧ FrTx S S' := by
  obtain ⟨S2, a1, a2, a3, a4⟩ := z175 (X := X) (d := 4) (by omega) hT.1 (S := sI S 72 20 ord) (by rw [gI_sI, if_neg (by omega)]; exact h1) (by rw [← h2]; funext i; rw [gI_sI, if_neg (by omega)])
  have e : ∀ (a : Nat) (i : Int), ¬ (a = 72 ∧ (i = 21 ∨ i = 23 ∨ i = 26)) → gI (sI (sI (sI S2 72 21 0) 72 23 0) 72 26 0) a i = gI S2 a i := fun a i q => by rw [gI_sI, if_neg (by omega), gI_sI, if_neg (by omega), gI_sI, if_neg (by omega)]
  have e2 : ∀ (a : Nat) (i : Int), ¬ (a = 72 ∧ ((14 ≤ i ∧ i ≤ 16) ∨ i = 18 ∨ i = 19)) → gI S2 a i = gI (sI S 72 20 ord) a i := fun a i q => by rw [a4.2.1 _ _ (by omega), gI_sI, if_neg (by omega), gI_sI, if_neg (by omega), gI_sI, if_neg (by omega)]
  refine ⟨sI (sI (sI S2 72 21 0) 72 23 0) 72 26 0, fun {cm cp L st} => z_evc_of (r := (none, mk (sI (sI (sI S2 72 21 0) 72 23 0) 72 26 0))) (ck := (cm, cp, L, st, mk S)) hd ?_, ⟨a2.fr (fun i q => e _ _ (by omega)) (fun i => e _ _ (by omega)) rfl, ⟨Nat.zero_le _, by rw [e _ _ (by omega)]; exact a3⟩, ⟨?_, ho⟩, ⟨?_, by show (0 : Nat) ≤ 50; omega⟩, ⟨?_, by omega, by omega⟩⟩, ?_, ⟨?_, fun a i q1 q2 => ?_, fun a i q => ?_, fun a i => ?_⟩⟩
  · show z_ev X 4 (197, 0, [some (.ref 72), some (.int (Int32.ofInt ord))], [], mk S) = _
    rcases ho with rfl | rfl
    · simp (disch := first | omega | assumption | exact b01_rng _ | exact st_5 | exact st_12 | exact st_19 | (simp only [isSt_sI, isSt_sJ, isSt_sF, isSt_sG, isSt_sA]; assumption)) only [↓B197_0, ↓B197_9, ↓o_72, ↓w_72_20, ↓w_72_21, ↓w_72_23, ↓w_72_26, a1, i_lit, i_add, i_sub, i_mul, i_neg, i_lt, i_le, i_eq, i32_gI, i64_gJ, i32_id, i32_to, i64_to, sI_i32, sJ_i64, b01_t, b01_f, i32_b01, b01_0, ↓a_s0, ↓n_s0, ↓a_s1, ↓n_s1, Int.add_zero, t_lt, f_lt, t_le, f_le, t_eq, f_eq, true_and, and_true, false_and, and_false, and_self, ↓reduceIte, z_bool_of, or_true, true_or, or_false, false_or, Int.neg_neg, not_true_eq_false, not_false_eq_true, lg_lt, lg_le, lg_gt, lg_ge, lg_eq, j_lit, j_add, j_sub, j_mul, j_neg, j_eq, i64_id, ij, ji, z_rt, Nat.reduceEqDiff, Nat.reduceAdd, Int.reduceAdd, Int.reduceSub, Int.reduceMul, Int.reduceNeg, Int.reduceLT, Int.reduceLE, Int.reduceEq]
    · simp (disch := first | omega | assumption | exact b01_rng _ | exact st_5 | exact st_12 | exact st_19 | (simp only [isSt_sI, isSt_sJ, isSt_sF, isSt_sG, isSt_sA]; assumption)) only [↓B197_0, ↓B197_9, ↓o_72, ↓w_72_20, ↓w_72_21, ↓w_72_23, ↓w_72_26, a1, i_lit, i_add, i_sub, i_mul, i_neg, i_lt, i_le, i_eq, i32_gI, i64_gJ, i32_id, i32_to, i64_to, sI_i32, sJ_i64, b01_t, b01_f, i32_b01, b01_0, ↓a_s0, ↓n_s0, ↓a_s1, ↓n_s1, Int.add_zero, t_lt, f_lt, t_le, f_le, t_eq, f_eq, true_and, and_true, false_and, and_false, and_self, ↓reduceIte, z_bool_of, or_true, true_or, or_false, false_or, Int.neg_neg, not_true_eq_false, not_false_eq_true, lg_lt, lg_le, lg_gt, lg_ge, lg_eq, j_lit, j_add, j_sub, j_mul, j_neg, j_eq, i64_id, ij, ji, z_rt, Nat.reduceEqDiff, Nat.reduceAdd, Int.reduceAdd, Int.reduceSub, Int.reduceMul, Int.reduceNeg, Int.reduceLT, Int.reduceLE, Int.reduceEq]
  · rw [e _ _ (by omega), e2 _ _ (by omega), gI_sI, if_pos ⟨rfl, rfl⟩, i32_id (by omega) (by omega)]
  · rw [gI_sI, if_pos ⟨rfl, rfl⟩]; rfl
  · rw [gI_sI, if_neg (by omega), gI_sI, if_pos ⟨rfl, rfl⟩]; rfl
  · rw [gI_sI, if_neg (by omega), gI_sI, if_neg (by omega), gI_sI, if_pos ⟨rfl, rfl⟩]; rfl
  · exact ((by (repeat (first | exact Dyn.rf | refine Dyn.sI (by decide) ?_ | refine Dyn.sF (by decide) ?_ | refine Dyn.sJ ?_ | refine Dyn.sG ?_ | refine Dyn.sQ (by decide) ?_)) : Dyn S (sI (sI (sI (sI S 72 20 ord) 72 15 0) 72 19 0) 72 18 (-1))).tr a4.1).tr (by (repeat (first | exact Dyn.rf | refine Dyn.sI (by decide) ?_ | refine Dyn.sF (by decide) ?_ | refine Dyn.sJ ?_ | refine Dyn.sG ?_ | refine Dyn.sQ (by decide) ?_)))
  · rw [e _ _ (by omega), e2 _ _ (by omega), gI_sI, if_neg (by omega)]
  · show gJ S2 a i = gJ S a i
    rw [a4.2.2.1 a i q]; rfl
  · show gQ S2 a i = gQ S a i
    rw [a4.2.2.2]; rfl
def fA (S : zS) (at_ j : Int) : Int := gI S 82 (j - (at_ + 2))
def fB (S : zS) (at_ j : Int) : Int := if (j - (at_ + 98)) % 2 = 0 then gI S 83 ((j - (at_ + 98)) / 2) else gI S 84 ((j - (at_ + 98)) / 2)
theorem fB_fr {S S' : zS} {at_ j : Int} (h : ∀ a i, a = 83 ∨ a = 84 → gI S' a i = gI S a i) : fB S' at_ j = fB S at_ j := by
  unfold fB; rw [h 83 _ (by omega), h 84 _ (by omega)]
abbrev L200i (at_ i : Int) : zL := [some (.ref 72), some (.int (Int32.ofInt at_)), some (.int (Int32.ofInt i))]
theorem l200a {X : zX} {d : Nat} {at_ nc : Int} {f : Int → Int} (hat : 2492 ≤ at_ ∧ at_ ≤ 6992) (hnc : 0 ≤ nc ∧ nc ≤ 12) : ∀ (m : Nat) (i : Int) (S : zS), 0 ≤ i → i + m = 8 * nc → gI S 72 21 = nc → (∀ j, f j = fA S at_ j) → z_ev X d (200, 111, L200i at_ i, [], mk S) = z_ev X d (200, 146, L200i at_ 0, [], mk (sF S 74 (at_ + 2 + i) (at_ + 2 + 8 * nc) f)) := by
  intro m
  induction m with
  | zero =>
    intro i S h0 h1 h21 hf
    have : i = 8 * nc := by omega
    subst this
    rw [sF_nil (by omega), B200_111]
    simp (disch := first | omega | assumption | exact b01_rng _ | exact st_5 | exact st_12 | exact st_19 | (simp only [isSt_sI, isSt_sJ, isSt_sF, isSt_sG, isSt_sA]; assumption)) only [↓B200_144, ↓a_74, ↓a_82, ↓a_83, ↓a_84, ↓n_74, ↓n_82, ↓n_83, ↓n_84, ↓o_72, ↓r_72_19, ↓r_72_21, ↓r_72_22, ↓r_72_23, ↓r_72_24, ↓r_72_25, ↓r_72_3, ↓s_74, ↓s_82, ↓s_83, ↓s_84, ↓w_72_0, ↓w_72_13, i_lit, i_add, i_sub, i_mul, i_neg, i_lt, i_le, i_eq, i32_gI, i64_gJ, i32_id, i32_to, i64_to, sI_i32, sJ_i64, b01_t, b01_f, i32_b01, b01_0, ↓a_s0, ↓n_s0, ↓a_s1, ↓n_s1, Int.add_zero, t_lt, f_lt, t_le, f_le, t_eq, f_eq, true_and, and_true, false_and, and_false, and_self, ↓reduceIte, z_bool_of, or_true, true_or, or_false, false_or, Int.neg_neg, not_true_eq_false, not_false_eq_true, lg_lt, lg_le, lg_gt, lg_ge, lg_eq, j_lit, j_add, j_sub, j_mul, j_neg, j_eq, i64_id, ij, ji, z_rt, Nat.reduceEqDiff, Nat.reduceAdd, Int.reduceAdd, Int.reduceSub, Int.reduceMul, Int.reduceNeg, Int.reduceLT, Int.reduceLE, Int.reduceEq, h21]
  | succ m ih =>
    intro i S h0 h1 h21 hf
    rw [B200_111]
    simp (disch := first | omega | assumption | exact b01_rng _ | exact st_5 | exact st_12 | exact st_19 | (simp only [isSt_sI, isSt_sJ, isSt_sF, isSt_sG, isSt_sA]; assumption)) only [↓B200_122, ↓a_74, ↓a_82, ↓a_83, ↓a_84, ↓n_74, ↓n_82, ↓n_83, ↓n_84, ↓o_72, ↓r_72_19, ↓r_72_21, ↓r_72_22, ↓r_72_23, ↓r_72_24, ↓r_72_25, ↓r_72_3, ↓s_74, ↓s_82, ↓s_83, ↓s_84, ↓w_72_0, ↓w_72_13, i_lit, i_add, i_sub, i_mul, i_neg, i_lt, i_le, i_eq, i32_gI, i64_gJ, i32_id, i32_to, i64_to, sI_i32, sJ_i64, b01_t, b01_f, i32_b01, b01_0, ↓a_s0, ↓n_s0, ↓a_s1, ↓n_s1, Int.add_zero, t_lt, f_lt, t_le, f_le, t_eq, f_eq, true_and, and_true, false_and, and_false, and_self, ↓reduceIte, z_bool_of, or_true, true_or, or_false, false_or, Int.neg_neg, not_true_eq_false, not_false_eq_true, lg_lt, lg_le, lg_gt, lg_ge, lg_eq, j_lit, j_add, j_sub, j_mul, j_neg, j_eq, i64_id, ij, ji, z_rt, Nat.reduceEqDiff, Nat.reduceAdd, Int.reduceAdd, Int.reduceSub, Int.reduceMul, Int.reduceNeg, Int.reduceLT, Int.reduceLE, Int.reduceEq, h21]
    rw [ih (i + 1) _ (by omega) (by omega) (by rw [gI_sI, if_neg (by omega)]; exact h21) (fun j => by rw [hf]; unfold fA; rw [gI_sI, if_neg (by omega)])]
    rw [show at_ + 2 + (i + 1) = at_ + 2 + i + 1 by omega, sF_step (by omega) (by rw [hf]; unfold fA; congr 1; omega)]
theorem l200b {X : zX} {d : Nat} {at_ k : Int} {f : Int → Int} (hat : 2492 ≤ at_ ∧ at_ ≤ 6992) (hk : 0 ≤ k ∧ k ≤ 400) : ∀ (m : Nat) (i : Int) (S : zS), 0 ≤ i → i + m = k → gI S 72 23 = k → (∀ j, f j = fB S at_ j) → z_ev X d (200, 146, L200i at_ i, [], mk S) = z_ev X d (200, 200, L200i at_ k, [], mk (sF S 74 (at_ + 98 + 2 * i) (at_ + 98 + 2 * k) f)) := by
  intro m
  induction m with
  | zero =>
    intro i S h0 h1 h23 hf
    have : i = k := by omega
    subst this
    rw [sF_nil (by omega), B200_146]
    simp (disch := first | omega | assumption | exact b01_rng _ | exact st_5 | exact st_12 | exact st_19 | (simp only [isSt_sI, isSt_sJ, isSt_sF, isSt_sG, isSt_sA]; assumption)) only [↓a_74, ↓a_82, ↓a_83, ↓a_84, ↓n_74, ↓n_82, ↓n_83, ↓n_84, ↓o_72, ↓r_72_19, ↓r_72_21, ↓r_72_22, ↓r_72_23, ↓r_72_24, ↓r_72_25, ↓r_72_3, ↓s_74, ↓s_82, ↓s_83, ↓s_84, ↓w_72_0, ↓w_72_13, i_lit, i_add, i_sub, i_mul, i_neg, i_lt, i_le, i_eq, i32_gI, i64_gJ, i32_id, i32_to, i64_to, sI_i32, sJ_i64, b01_t, b01_f, i32_b01, b01_0, ↓a_s0, ↓n_s0, ↓a_s1, ↓n_s1, Int.add_zero, t_lt, f_lt, t_le, f_le, t_eq, f_eq, true_and, and_true, false_and, and_false, and_self, ↓reduceIte, z_bool_of, or_true, true_or, or_false, false_or, Int.neg_neg, not_true_eq_false, not_false_eq_true, lg_lt, lg_le, lg_gt, lg_ge, lg_eq, j_lit, j_add, j_sub, j_mul, j_neg, j_eq, i64_id, ij, ji, z_rt, Nat.reduceEqDiff, Nat.reduceAdd, Int.reduceAdd, Int.reduceSub, Int.reduceMul, Int.reduceNeg, Int.reduceLT, Int.reduceLE, Int.reduceEq, h23]
  | succ m ih =>
    intro i S h0 h1 h23 hf
    have g84 : gI (sI S 74 (at_ + 98 + 2 * i) (gI S 83 i)) 84 i = gI S 84 i := by rw [gI_sI, if_neg (by omega)]
    rw [B200_146]
    simp (disch := first | omega | assumption | exact b01_rng _ | exact st_5 | exact st_12 | exact st_19 | (simp only [isSt_sI, isSt_sJ, isSt_sF, isSt_sG, isSt_sA]; assumption)) only [↓B200_154, ↓a_74, ↓a_82, ↓a_83, ↓a_84, ↓n_74, ↓n_82, ↓n_83, ↓n_84, ↓o_72, ↓r_72_19, ↓r_72_21, ↓r_72_22, ↓r_72_23, ↓r_72_24, ↓r_72_25, ↓r_72_3, ↓s_74, ↓s_82, ↓s_83, ↓s_84, ↓w_72_0, ↓w_72_13, i_lit, i_add, i_sub, i_mul, i_neg, i_lt, i_le, i_eq, i32_gI, i64_gJ, i32_id, i32_to, i64_to, sI_i32, sJ_i64, b01_t, b01_f, i32_b01, b01_0, ↓a_s0, ↓n_s0, ↓a_s1, ↓n_s1, Int.add_zero, t_lt, f_lt, t_le, f_le, t_eq, f_eq, true_and, and_true, false_and, and_false, and_self, ↓reduceIte, z_bool_of, or_true, true_or, or_false, false_or, Int.neg_neg, not_true_eq_false, not_false_eq_true, lg_lt, lg_le, lg_gt, lg_ge, lg_eq, j_lit, j_add, j_sub, j_mul, j_neg, j_eq, i64_id, ij, ji, z_rt, Nat.reduceEqDiff, Nat.reduceAdd, Int.reduceAdd, Int.reduceSub, Int.reduceMul, Int.reduceNeg, Int.reduceLT, Int.reduceLE, Int.reduceEq, h23, g84]
    rw [ih (i + 1) _ (by omega) (by omega) (by rw [gI_sI, if_neg (by omega), gI_sI, if_neg (by omega)]; exact h23) (fun j => by rw [hf]; exact (fB_fr (fun a i q => by rw [gI_sI, if_neg (by omega), gI_sI, if_neg (by omega)])).symm)]
    have v1 : f (at_ + 98 + 2 * i + 1) = gI S 84 i := by rw [hf]; unfold fB; rw [if_neg (by omega)]; congr 1; omega
    have v0 : f (at_ + 98 + 2 * i) = gI S 83 i := by rw [hf]; unfold fB; rw [if_pos (by omega)]; congr 1; omega
    rw [show at_ + 98 + 2 * (i + 1) = at_ + 98 + 2 * i + 1 + 1 by omega, sF_step (by omega) v1.symm, sF_step (by omega) v0.symm]
