/-! image and back in pairs -/
def Keep (P Q : zP) (S T : zS) : Prop := (∀ a r, P S a r → P T a r) ∧ (∀ a r, Q S a r → Q T a r)
theorem Keep.tr {P Q : zP} {A B C : zS} (h1 : Keep P Q A B) (h2 : Keep P Q B C) : Keep P Q A C := ⟨fun a r h => h2.1 a r (h1.1 a r h), fun a r h => h2.2 a r (h1.2 a r h)⟩
theorem Keep.dyn {P Q : zP} (hG : Good P Q) {S T : zS} (hD : Dyn S T) : Keep P Q S T := ⟨fun a r h => hG.1 S T a r h hD, fun a r h => hG.2 S T a r h hD⟩
theorem Keep.cp {P Q : zP} (h2 : Good2 P Q) {S : zS} {s o : Nat} (hs : isSt S s) : Keep P Q S (cpS S s o) := ⟨fun a r h => h2.cpP h hs, fun a r h => h2.cpQ h hs⟩
theorem Keep.new {P Q : zP} (h2 : Good2 P Q) {S : zS} (hf : ∀ b : Nat, 114 ≤ b → gN S ≤ b → gH S b = none) : Keep P Q S (newSt S) := by
  refine ⟨fun a r h => ?_, fun a r h => ?_⟩
  · obtain ⟨p1, p2, p3⟩ := h2.2.2.1 S a r h
    refine h2.1 S _ a r h (fun j hj => ?_)
    have hlt : a + j < gN S := by
      apply Classical.byContradiction
      intro q
      have hn := hf (a + j) (by omega) (by omega)
      by_cases q2 : j = 0
      · subst q2; rw [Nat.add_zero, p2] at hn; cases hn
      · obtain ⟨n, e⟩ := p3 j (by omega) hj; rw [e] at hn; cases hn
    exact ⟨fun i => newSt_I hlt, fun i => newSt_Q hlt, newSt_H (Or.inl hlt)⟩
  · obtain ⟨p1, p2, p3⟩ := h2.2.2.2 S a r h
    refine h2.2.1 S _ a r h (fun j hj => ?_)
    have hlt : a + j < gN S := by
      apply Classical.byContradiction
      intro q
      have hn := hf (a + j) (by omega) (by omega)
      by_cases q2 : j = 0
      · subst q2; rw [Nat.add_zero, p2] at hn; cases hn
      · obtain ⟨n, e⟩ := p3 j (by omega) hj; rw [e] at hn; cases hn
    exact ⟨fun i => newSt_I hlt, fun i => newSt_Q hlt, newSt_H (Or.inl hlt)⟩
theorem StRel.kp {P Q : zP} {S T : zS} (hK : Keep P Q S T) {s : Nat} {g g' : Int → Int} (h : StRel P Q S s g) (hI : ∀ j i, j ≤ 4 → gI T (s + j) i = gI S (s + j) i) (hQ : ∀ j i, j = 5 ∨ j = 6 → gQ T (s + j) i = gQ S (s + j) i) (hg : ∀ i, 0 ≤ i → i < 7892 → g' i = g i) : StRel P Q T s g' := by
  obtain ⟨b1, b2, b3, b4, b5, b6, b7, b8, b9, b10⟩ := h
  have e0 := hg 0 (by omega) (by omega)
  have e1 := hg 1 (by omega) (by omega)
  have e2 := hg 2 (by omega) (by omega)
  have e3 := hg 3 (by omega) (by omega)
  have e4 := hg 4 (by omega) (by omega)
  have h0 : ∀ i, gI T s i = gI S s i := fun i => hI 0 i (by omega)
  refine ⟨by rw [h0, e0]; exact b1, by rw [h0, e1]; exact b2, by rw [h0, e2]; exact b3, by rw [h0, e3]; exact b4, by rw [h0, e3, e4]; exact b5, ?_, fun p q1 q2 => ?_, fun k q1 q2 => ?_, fun k q1 q2 => ?_, fun k q1 q2 => ?_⟩
  · rw [hI 2 _ (by omega), hI 2 _ (by omega), hI 2 _ (by omega), hg 5 (by omega) (by omega), hg 6 (by omega) (by omega), hg 7 (by omega) (by omega)]; exact b6
  · rw [hI 1 _ (by omega), hI 1 _ (by omega), hI 1 _ (by omega), hg _ (by omega) (by omega), hg _ (by omega) (by omega), hg _ (by omega) (by omega)]; exact b7 p q1 q2
  · rw [e2] at q2
    rw [hI 3 _ (by omega), hI 4 _ (by omega), hg _ (by omega) (by omega), hg _ (by omega) (by omega)]; exact b8 k q1 q2
  · rw [e1] at q2
    obtain ⟨a, w1, w2⟩ := b9 k q1 q2
    refine ⟨a, by rw [hQ 5 _ (by omega)]; exact w1, ?_⟩
    rw [blk_eq (g := g) (b := 80 + 402 * k) (fun i _ _ => hg _ (by omega) (by omega))]
    exact hK.1 _ _ w2
  · rw [e3] at q2
    obtain ⟨a, w1, w2⟩ := b10 k q1 q2
    refine ⟨a, by rw [hQ 6 _ (by omega)]; exact w1, ?_⟩
    rw [blk_eq (g := g) (b := 2492 + 900 * k) (fun i _ _ => hg _ (by omega) (by omega))]
    exact hK.2 _ _ w2
/-- two states, one not the other, lie apart -/
theorem isSt.apart {S : zS} {s t : Nat} (hs : isSt S s) (ht : isSt S t) (h1 : 114 ≤ s) (h2 : 114 ≤ t) (hne : s ≠ t) : s + 6 < t ∨ t + 6 < s := by
  have key : ∀ {s t : Nat}, isSt S s → isSt S t → 114 ≤ s → 114 ≤ t → s < t → s + 6 < t := by
    intro s t hs ht h1 h2 h
    rcases hs with q | ⟨w1, w2, w3, w4, w5, w6, w7, w8, w9⟩
    · omega
    · rcases ht with q | ⟨v1, v2, -⟩
      · omega
      · apply Classical.byContradiction
        intro q
        rcases (show t = s + 1 ∨ t = s + 2 ∨ t = s + 3 ∨ t = s + 4 ∨ t = s + 5 ∨ t = s + 6 by omega) with e | e | e | e | e | e <;> subst e
        · rw [w4] at v2; cases v2
        · rw [w5] at v2; cases v2
        · rw [w6] at v2; cases v2
        · rw [w7] at v2; cases v2
        · rw [w8] at v2; cases v2
        · rw [w9] at v2; cases v2
  by_cases q : s < t
  · exact Or.inl (key hs ht h1 h2 q)
  · exact Or.inr (key ht hs h2 h1 (by omega))
theorem l160 {X : zX} {d : Nat} {k : Int} (hk : 0 ≤ k ∧ k < 2) {f : Int → Int} : ∀ (n : Nat) (i : Int) (S : zS), 0 ≤ i → i + n = 7892 → (∀ j : Int, f j = gI S 74 (j - 7892 * k)) → z_ev X d (160, 23, [some (.ref 72), some (.int (Int32.ofInt k)), some (.int (Int32.ofInt i))], [], mk S) = z_ev X d (160, 54, [some (.ref 72), some (.int (Int32.ofInt k)), some (.int (Int32.ofInt 7892))], [], mk (sF S 75 (7892 * k + i) (7892 * k + 7892) f)) := by
  intro n
  induction n with
  | zero =>
    intro i S h0 hi hf
    have : i = 7892 := by omega
    subst this
    rw [sF_nil (by omega), B160_23]
    simp (disch := first | omega | assumption | exact b01_rng _ | exact st_5 | exact st_12 | exact st_19 | (simp only [isSt_sI, isSt_sJ, isSt_sF, isSt_sG, isSt_sA]; assumption)) only [i_lit, i_add, i_sub, i_mul, i_neg, i_lt, i_le, i_eq, i32_gI, i64_gJ, i32_id, i32_to, i64_to, sI_i32, sJ_i64, b01_t, b01_f, i32_b01, b01_0, ↓a_s0, ↓n_s0, ↓a_s1, ↓n_s1, Int.add_zero, t_lt, f_lt, t_le, f_le, t_eq, f_eq, true_and, and_true, false_and, and_false, and_self, ↓reduceIte, z_bool_of, or_true, true_or, or_false, false_or, Int.neg_neg, not_true_eq_false, not_false_eq_true, lg_lt, lg_le, lg_gt, lg_ge, lg_eq, j_lit, j_add, j_sub, j_mul, j_neg, j_eq, i64_id, ij, ji, z_rt, Nat.reduceEqDiff, Nat.reduceAdd, Int.reduceAdd, Int.reduceSub, Int.reduceMul, Int.reduceNeg, Int.reduceLT, Int.reduceLE, Int.reduceEq]
  | succ n ih =>
    intro i S h0 hi hf
    rw [B160_23]
    simp (disch := first | omega | assumption | exact b01_rng _ | exact st_5 | exact st_12 | exact st_19 | (simp only [isSt_sI, isSt_sJ, isSt_sF, isSt_sG, isSt_sA]; assumption)) only [↓B160_30, ↓a_74, ↓a_75, ↓a_76, ↓n_74, ↓n_75, ↓n_76, ↓o_72, ↓r_72_3, ↓r_72_4, ↓r_72_5, ↓s_74, ↓s_75, ↓s_76, ↓w_72_0, i_lit, i_add, i_sub, i_mul, i_neg, i_lt, i_le, i_eq, i32_gI, i64_gJ, i32_id, i32_to, i64_to, sI_i32, sJ_i64, b01_t, b01_f, i32_b01, b01_0, ↓a_s0, ↓n_s0, ↓a_s1, ↓n_s1, Int.add_zero, t_lt, f_lt, t_le, f_le, t_eq, f_eq, true_and, and_true, false_and, and_false, and_self, ↓reduceIte, z_bool_of, or_true, true_or, or_false, false_or, Int.neg_neg, not_true_eq_false, not_false_eq_true, lg_lt, lg_le, lg_gt, lg_ge, lg_eq, j_lit, j_add, j_sub, j_mul, j_neg, j_eq, i64_id, ij, ji, z_rt, Nat.reduceEqDiff, Nat.reduceAdd, Int.reduceAdd, Int.reduceSub, Int.reduceMul, Int.reduceNeg, Int.reduceLT, Int.reduceLE, Int.reduceEq]
    rw [ih (i + 1) _ (by omega) (by omega) (fun j => by rw [hf, gI_sI, if_neg (by omega)])]
    rw [show 7892 * k + (i + 1) = 7892 * k + i + 1 by omega, sF_step (by omega) (by rw [hf]; congr 1; omega)]
theorem l161 {X : zX} {d : Nat} {k : Int} (hk : 0 ≤ k ∧ k < 2) {f : Int → Int} : ∀ (n : Nat) (i : Int) (S : zS), 0 ≤ i → i + n = 7892 → (∀ j : Int, f j = gI S 75 (7892 * k + j)) → z_ev X d (161, 39, [some (.ref 72), some (.int (Int32.ofInt k)), some (.int (Int32.ofInt i))], [], mk S) = z_ev X d (161, 70, [some (.ref 72), some (.int (Int32.ofInt k)), some (.int (Int32.ofInt 7892))], [], mk (sF S 74 i 7892 f)) := by
  intro n
  induction n with
  | zero =>
    intro i S h0 hi hf
    have : i = 7892 := by omega
    subst this
    rw [sF_nil (by omega), B161_39]
    simp (disch := first | omega | assumption | exact b01_rng _ | exact st_5 | exact st_12 | exact st_19 | (simp only [isSt_sI, isSt_sJ, isSt_sF, isSt_sG, isSt_sA]; assumption)) only [i_lit, i_add, i_sub, i_mul, i_neg, i_lt, i_le, i_eq, i32_gI, i64_gJ, i32_id, i32_to, i64_to, sI_i32, sJ_i64, b01_t, b01_f, i32_b01, b01_0, ↓a_s0, ↓n_s0, ↓a_s1, ↓n_s1, Int.add_zero, t_lt, f_lt, t_le, f_le, t_eq, f_eq, true_and, and_true, false_and, and_false, and_self, ↓reduceIte, z_bool_of, or_true, true_or, or_false, false_or, Int.neg_neg, not_true_eq_false, not_false_eq_true, lg_lt, lg_le, lg_gt, lg_ge, lg_eq, j_lit, j_add, j_sub, j_mul, j_neg, j_eq, i64_id, ij, ji, z_rt, Nat.reduceEqDiff, Nat.reduceAdd, Int.reduceAdd, Int.reduceSub, Int.reduceMul, Int.reduceNeg, Int.reduceLT, Int.reduceLE, Int.reduceEq]
  | succ n ih =>
    intro i S h0 hi hf
    rw [B161_39]
    simp (disch := first | omega | assumption | exact b01_rng _ | exact st_5 | exact st_12 | exact st_19 | (simp only [isSt_sI, isSt_sJ, isSt_sF, isSt_sG, isSt_sA]; assumption)) only [↓B161_46, ↓a_74, ↓a_75, ↓a_76, ↓n_74, ↓n_75, ↓n_76, ↓o_72, ↓r_72_3, ↓r_72_4, ↓r_72_5, ↓s_74, ↓s_75, ↓s_76, ↓w_72_0, i_lit, i_add, i_sub, i_mul, i_neg, i_lt, i_le, i_eq, i32_gI, i64_gJ, i32_id, i32_to, i64_to, sI_i32, sJ_i64, b01_t, b01_f, i32_b01, b01_0, ↓a_s0, ↓n_s0, ↓a_s1, ↓n_s1, Int.add_zero, t_lt, f_lt, t_le, f_le, t_eq, f_eq, true_and, and_true, false_and, and_false, and_self, ↓reduceIte, z_bool_of, or_true, true_or, or_false, false_or, Int.neg_neg, not_true_eq_false, not_false_eq_true, lg_lt, lg_le, lg_gt, lg_ge, lg_eq, j_lit, j_add, j_sub, j_mul, j_neg, j_eq, i64_id, ij, ji, z_rt, Nat.reduceEqDiff, Nat.reduceAdd, Int.reduceAdd, Int.reduceSub, Int.reduceMul, Int.reduceNeg, Int.reduceLT, Int.reduceLE, Int.reduceEq]
    rw [ih (i + 1) _ (by omega) (by omega) (fun j => by rw [hf, gI_sI, if_neg (by omega)])]
    rw [sF_step (by omega) (by rw [hf])]
theorem e160a {X : zX} {d : Nat} (hd : 1 ≤ d) {S : zS} (k : Int) (h1 : r32 k) (h : ¬ (0 ≤ k ∧ k ≤ 1)) : z_ev X d (z_entry 160 [.ref 72, .int (Int32.ofInt k)] (mk S)) = some (some (.int (Int32.ofInt (-1))), mk (tellS (sI S 72 0 0) (-1))) := by
  show z_ev X d (160, 0, [some (.ref 72), some (.int (Int32.ofInt k)), none], [], mk S) = _
  simp (disch := first | omega | assumption | exact b01_rng _ | exact st_5 | exact st_12 | exact st_19 | (simp only [isSt_sI, isSt_sJ, isSt_sF, isSt_sG, isSt_sA]; assumption)) only [↓B160_0, ↓B160_12, ↓B160_15, ↓B160_20, ↓a_74, ↓a_75, ↓a_76, ↓n_74, ↓n_75, ↓n_76, ↓o_72, ↓r_72_3, ↓r_72_4, ↓r_72_5, ↓s_74, ↓s_75, ↓s_76, ↓w_72_0, c150, c153, i_lit, i_add, i_sub, i_mul, i_neg, i_lt, i_le, i_eq, i32_gI, i64_gJ, i32_id, i32_to, i64_to, sI_i32, sJ_i64, b01_t, b01_f, i32_b01, b01_0, ↓a_s0, ↓n_s0, ↓a_s1, ↓n_s1, Int.add_zero, t_lt, f_lt, t_le, f_le, t_eq, f_eq, true_and, and_true, false_and, and_false, and_self, ↓reduceIte, z_bool_of, or_true, true_or, or_false, false_or, Int.neg_neg, not_true_eq_false, not_false_eq_true, lg_lt, lg_le, lg_gt, lg_ge, lg_eq, j_lit, j_add, j_sub, j_mul, j_neg, j_eq, i64_id, ij, ji, z_rt, Nat.reduceEqDiff, Nat.reduceAdd, Int.reduceAdd, Int.reduceSub, Int.reduceMul, Int.reduceNeg, Int.reduceLT, Int.reduceLE, Int.reduceEq, h, tellS]
theorem c160a {X : zX} {d : Nat} (hd : 1 < d) {S : zS} (k : Int) (h1 : r32 k) (h : ¬ (0 ≤ k ∧ k ≤ 1)) {cm cp : Nat} {L : zL} {st : List Value} : z_evc X d 160 [.ref 72, .int (Int32.ofInt k)] (cm, cp, L, st, mk S) = z_ev X d (cm, cp, L, .int (Int32.ofInt (-1)) :: st, mk (tellS (sI S 72 0 0) (-1))) := z_evc_of (r := (some (.int (Int32.ofInt (-1))), mk (tellS (sI S 72 0 0) (-1)))) (ck := (cm, cp, L, st, mk S)) hd (e160a (X := X) (Nat.le_refl _) k h1 h)
theorem e160b {X : zX} {d : Nat} (hd : 1 ≤ d) {S : zS} (k : Int) (h : 0 ≤ k ∧ k ≤ 1) : z_ev X d (z_entry 160 [.ref 72, .int (Int32.ofInt k)] (mk S)) = some (some (.int (Int32.ofInt 0)), mk (sI (sI (sF (sI S 72 0 0) 75 (7892 * k) (7892 * k + 7892) (fun j => gI S 74 (j - 7892 * k))) 76 k 1) 72 1 0)) := by
  show z_ev X d (160, 0, [some (.ref 72), some (.int (Int32.ofInt k)), none], [], mk S) = _
  simp (disch := first | omega | assumption | exact b01_rng _ | exact st_5 | exact st_12 | exact st_19 | (simp only [isSt_sI, isSt_sJ, isSt_sF, isSt_sG, isSt_sA]; assumption)) only [↓B160_0, ↓B160_12, ↓B160_21, ↓a_74, ↓a_75, ↓a_76, ↓n_74, ↓n_75, ↓n_76, ↓o_72, ↓r_72_3, ↓r_72_4, ↓r_72_5, ↓s_74, ↓s_75, ↓s_76, ↓w_72_0, c150, i_lit, i_add, i_sub, i_mul, i_neg, i_lt, i_le, i_eq, i32_gI, i64_gJ, i32_id, i32_to, i64_to, sI_i32, sJ_i64, b01_t, b01_f, i32_b01, b01_0, ↓a_s0, ↓n_s0, ↓a_s1, ↓n_s1, Int.add_zero, t_lt, f_lt, t_le, f_le, t_eq, f_eq, true_and, and_true, false_and, and_false, and_self, ↓reduceIte, z_bool_of, or_true, true_or, or_false, false_or, Int.neg_neg, not_true_eq_false, not_false_eq_true, lg_lt, lg_le, lg_gt, lg_ge, lg_eq, j_lit, j_add, j_sub, j_mul, j_neg, j_eq, i64_id, ij, ji, z_rt, Nat.reduceEqDiff, Nat.reduceAdd, Int.reduceAdd, Int.reduceSub, Int.reduceMul, Int.reduceNeg, Int.reduceLT, Int.reduceLE, Int.reduceEq]
  rw [l160 (f := fun j => gI S 74 (j - 7892 * k)) (by omega) 7892 0 _ (by omega) (by omega) (fun j => by rw [gI_sI, if_neg (by omega)]), Int.add_zero]
  simp (disch := first | omega | assumption | exact b01_rng _ | exact st_5 | exact st_12 | exact st_19 | (simp only [isSt_sI, isSt_sJ, isSt_sF, isSt_sG, isSt_sA]; assumption)) only [↓B160_54, ↓B160_66, ↓a_74, ↓a_75, ↓a_76, ↓n_74, ↓n_75, ↓n_76, ↓o_72, ↓r_72_3, ↓r_72_4, ↓r_72_5, ↓s_74, ↓s_75, ↓s_76, ↓w_72_0, c153, i_lit, i_add, i_sub, i_mul, i_neg, i_lt, i_le, i_eq, i32_gI, i64_gJ, i32_id, i32_to, i64_to, sI_i32, sJ_i64, b01_t, b01_f, i32_b01, b01_0, ↓a_s0, ↓n_s0, ↓a_s1, ↓n_s1, Int.add_zero, t_lt, f_lt, t_le, f_le, t_eq, f_eq, true_and, and_true, false_and, and_false, and_self, ↓reduceIte, z_bool_of, or_true, true_or, or_false, false_or, Int.neg_neg, not_true_eq_false, not_false_eq_true, lg_lt, lg_le, lg_gt, lg_ge, lg_eq, j_lit, j_add, j_sub, j_mul, j_neg, j_eq, i64_id, ij, ji, z_rt, Nat.reduceEqDiff, Nat.reduceAdd, Int.reduceAdd, Int.reduceSub, Int.reduceMul, Int.reduceNeg, Int.reduceLT, Int.reduceLE, Int.reduceEq, tellS]
theorem c160b {X : zX} {d : Nat} (hd : 1 < d) {S : zS} (k : Int) (h : 0 ≤ k ∧ k ≤ 1) {cm cp : Nat} {L : zL} {st : List Value} : z_evc X d 160 [.ref 72, .int (Int32.ofInt k)] (cm, cp, L, st, mk S) = z_ev X d (cm, cp, L, .int (Int32.ofInt 0) :: st, mk (sI (sI (sF (sI S 72 0 0) 75 (7892 * k) (7892 * k + 7892) (fun j => gI S 74 (j - 7892 * k))) 76 k 1) 72 1 0)) := z_evc_of (r := (some (.int (Int32.ofInt 0)), mk (sI (sI (sF (sI S 72 0 0) 75 (7892 * k) (7892 * k + 7892) (fun j => gI S 74 (j - 7892 * k))) 76 k 1) 72 1 0))) (ck := (cm, cp, L, st, mk S)) hd (e160b (X := X) (Nat.le_refl _) k h)
theorem e161a {X : zX} {d : Nat} (hd : 2 ≤ d) {S : zS} (k : Int) (h1 : r32 k) (h : ¬ (0 ≤ k ∧ k ≤ 1)) : z_ev X d (z_entry 161 [.ref 72, .int (Int32.ofInt k)] (mk S)) = some (some (.int (Int32.ofInt (-1))), mk (tellS (sI S 72 0 0) (-1))) := by
  show z_ev X d (161, 0, [some (.ref 72), some (.int (Int32.ofInt k)), none], [], mk S) = _
  simp (disch := first | omega | assumption | exact b01_rng _ | exact st_5 | exact st_12 | exact st_19 | (simp only [isSt_sI, isSt_sJ, isSt_sF, isSt_sG, isSt_sA]; assumption)) only [↓B161_0, ↓B161_12, ↓B161_15, ↓B161_20, ↓a_74, ↓a_75, ↓a_76, ↓n_74, ↓n_75, ↓n_76, ↓o_72, ↓r_72_3, ↓r_72_4, ↓r_72_5, ↓s_74, ↓s_75, ↓s_76, ↓w_72_0, c150, c153, i_lit, i_add, i_sub, i_mul, i_neg, i_lt, i_le, i_eq, i32_gI, i64_gJ, i32_id, i32_to, i64_to, sI_i32, sJ_i64, b01_t, b01_f, i32_b01, b01_0, ↓a_s0, ↓n_s0, ↓a_s1, ↓n_s1, Int.add_zero, t_lt, f_lt, t_le, f_le, t_eq, f_eq, true_and, and_true, false_and, and_false, and_self, ↓reduceIte, z_bool_of, or_true, true_or, or_false, false_or, Int.neg_neg, not_true_eq_false, not_false_eq_true, lg_lt, lg_le, lg_gt, lg_ge, lg_eq, j_lit, j_add, j_sub, j_mul, j_neg, j_eq, i64_id, ij, ji, z_rt, Nat.reduceEqDiff, Nat.reduceAdd, Int.reduceAdd, Int.reduceSub, Int.reduceMul, Int.reduceNeg, Int.reduceLT, Int.reduceLE, Int.reduceEq, h, tellS]
theorem c161a {X : zX} {d : Nat} (hd : 2 < d) {S : zS} (k : Int) (h1 : r32 k) (h : ¬ (0 ≤ k ∧ k ≤ 1)) {cm cp : Nat} {L : zL} {st : List Value} : z_evc X d 161 [.ref 72, .int (Int32.ofInt k)] (cm, cp, L, st, mk S) = z_ev X d (cm, cp, L, .int (Int32.ofInt (-1)) :: st, mk (tellS (sI S 72 0 0) (-1))) := z_evc_of (r := (some (.int (Int32.ofInt (-1))), mk (tellS (sI S 72 0 0) (-1)))) (ck := (cm, cp, L, st, mk S)) hd (e161a (X := X) (Nat.le_refl _) k h1 h)
theorem e161b {X : zX} {d : Nat} (hd : 2 ≤ d) {S : zS} (k : Int) (h : 0 ≤ k ∧ k ≤ 1) (h2 : gI S 76 k = 0) : z_ev X d (z_entry 161 [.ref 72, .int (Int32.ofInt k)] (mk S)) = some (some (.int (Int32.ofInt (-2))), mk (tellS (sI S 72 0 0) (-2))) := by
  show z_ev X d (161, 0, [some (.ref 72), some (.int (Int32.ofInt k)), none], [], mk S) = _
  simp (disch := first | omega | assumption | exact b01_rng _ | exact st_5 | exact st_12 | exact st_19 | (simp only [isSt_sI, isSt_sJ, isSt_sF, isSt_sG, isSt_sA]; assumption)) only [↓B161_0, ↓B161_12, ↓B161_21, ↓B161_30, ↓B161_36, ↓a_74, ↓a_75, ↓a_76, ↓n_74, ↓n_75, ↓n_76, ↓o_72, ↓r_72_3, ↓r_72_4, ↓r_72_5, ↓s_74, ↓s_75, ↓s_76, ↓w_72_0, c150, c153, i_lit, i_add, i_sub, i_mul, i_neg, i_lt, i_le, i_eq, i32_gI, i64_gJ, i32_id, i32_to, i64_to, sI_i32, sJ_i64, b01_t, b01_f, i32_b01, b01_0, ↓a_s0, ↓n_s0, ↓a_s1, ↓n_s1, Int.add_zero, t_lt, f_lt, t_le, f_le, t_eq, f_eq, true_and, and_true, false_and, and_false, and_self, ↓reduceIte, z_bool_of, or_true, true_or, or_false, false_or, Int.neg_neg, not_true_eq_false, not_false_eq_true, lg_lt, lg_le, lg_gt, lg_ge, lg_eq, j_lit, j_add, j_sub, j_mul, j_neg, j_eq, i64_id, ij, ji, z_rt, Nat.reduceEqDiff, Nat.reduceAdd, Int.reduceAdd, Int.reduceSub, Int.reduceMul, Int.reduceNeg, Int.reduceLT, Int.reduceLE, Int.reduceEq, gI_sI, gI_sJ, gI_sF, gI_sG, gI_sQ, gI_sA, gJ_sI, gJ_sJ, gJ_sF, gJ_sG, gJ_sQ, gJ_sA, gQ_sI, gQ_sJ, gQ_sF, gQ_sG, gQ_sQ, gQ_sA, gH_sI, gH_sJ, gH_sF, gH_sG, gH_sQ, gH_sA, gN_sI, gN_sJ, gN_sF, gN_sG, gN_sQ, gN_sA, gW_sI, gW_sJ, gW_sF, gW_sG, gW_sQ, gW_sA, h2, tellS]
theorem c161b {X : zX} {d : Nat} (hd : 2 < d) {S : zS} (k : Int) (h : 0 ≤ k ∧ k ≤ 1) (h2 : gI S 76 k = 0) {cm cp : Nat} {L : zL} {st : List Value} : z_evc X d 161 [.ref 72, .int (Int32.ofInt k)] (cm, cp, L, st, mk S) = z_ev X d (cm, cp, L, .int (Int32.ofInt (-2)) :: st, mk (tellS (sI S 72 0 0) (-2))) := z_evc_of (r := (some (.int (Int32.ofInt (-2))), mk (tellS (sI S 72 0 0) (-2)))) (ck := (cm, cp, L, st, mk S)) hd (e161b (X := X) (Nat.le_refl _) k h h2)
theorem e161c {X : zX} {d : Nat} (hd : 2 ≤ d) {S : zS} (k : Int) (h : 0 ≤ k ∧ k ≤ 1) (h2 : gI S 76 k = 1) : z_ev X d (z_entry 161 [.ref 72, .int (Int32.ofInt k)] (mk S)) = some (some (.int (Int32.ofInt 0)), mk (sI (sI (sF (sI S 72 0 0) 74 0 7892 (fun j => gI S 75 (7892 * k + j))) 72 8 0) 72 1 0)) := by
  show z_ev X d (161, 0, [some (.ref 72), some (.int (Int32.ofInt k)), none], [], mk S) = _
  simp (disch := first | omega | assumption | exact b01_rng _ | exact st_5 | exact st_12 | exact st_19 | (simp only [isSt_sI, isSt_sJ, isSt_sF, isSt_sG, isSt_sA]; assumption)) only [↓B161_0, ↓B161_12, ↓B161_21, ↓B161_37, ↓a_74, ↓a_75, ↓a_76, ↓n_74, ↓n_75, ↓n_76, ↓o_72, ↓r_72_3, ↓r_72_4, ↓r_72_5, ↓s_74, ↓s_75, ↓s_76, ↓w_72_0, c150, i_lit, i_add, i_sub, i_mul, i_neg, i_lt, i_le, i_eq, i32_gI, i64_gJ, i32_id, i32_to, i64_to, sI_i32, sJ_i64, b01_t, b01_f, i32_b01, b01_0, ↓a_s0, ↓n_s0, ↓a_s1, ↓n_s1, Int.add_zero, t_lt, f_lt, t_le, f_le, t_eq, f_eq, true_and, and_true, false_and, and_false, and_self, ↓reduceIte, z_bool_of, or_true, true_or, or_false, false_or, Int.neg_neg, not_true_eq_false, not_false_eq_true, lg_lt, lg_le, lg_gt, lg_ge, lg_eq, j_lit, j_add, j_sub, j_mul, j_neg, j_eq, i64_id, ij, ji, z_rt, Nat.reduceEqDiff, Nat.reduceAdd, Int.reduceAdd, Int.reduceSub, Int.reduceMul, Int.reduceNeg, Int.reduceLT, Int.reduceLE, Int.reduceEq, gI_sI, gI_sJ, gI_sF, gI_sG, gI_sQ, gI_sA, gJ_sI, gJ_sJ, gJ_sF, gJ_sG, gJ_sQ, gJ_sA, gQ_sI, gQ_sJ, gQ_sF, gQ_sG, gQ_sQ, gQ_sA, gH_sI, gH_sJ, gH_sF, gH_sG, gH_sQ, gH_sA, gN_sI, gN_sJ, gN_sF, gN_sG, gN_sQ, gN_sA, gW_sI, gW_sJ, gW_sF, gW_sG, gW_sQ, gW_sA, h2]
  rw [l161 (f := fun j => gI S 75 (7892 * k + j)) (by omega) 7892 0 _ (by omega) (by omega) (fun j => by rw [gI_sI, if_neg (by omega)])]
  simp (disch := first | omega | assumption | exact b01_rng _ | exact st_5 | exact st_12 | exact st_19 | (simp only [isSt_sI, isSt_sJ, isSt_sF, isSt_sG, isSt_sA]; assumption)) only [↓B161_70, ↓B161_75, ↓a_74, ↓a_75, ↓a_76, ↓n_74, ↓n_75, ↓n_76, ↓o_72, ↓r_72_3, ↓r_72_4, ↓r_72_5, ↓s_74, ↓s_75, ↓s_76, ↓w_72_0, c155, i_lit, i_add, i_sub, i_mul, i_neg, i_lt, i_le, i_eq, i32_gI, i64_gJ, i32_id, i32_to, i64_to, sI_i32, sJ_i64, b01_t, b01_f, i32_b01, b01_0, ↓a_s0, ↓n_s0, ↓a_s1, ↓n_s1, Int.add_zero, t_lt, f_lt, t_le, f_le, t_eq, f_eq, true_and, and_true, false_and, and_false, and_self, ↓reduceIte, z_bool_of, or_true, true_or, or_false, false_or, Int.neg_neg, not_true_eq_false, not_false_eq_true, lg_lt, lg_le, lg_gt, lg_ge, lg_eq, j_lit, j_add, j_sub, j_mul, j_neg, j_eq, i64_id, ij, ji, z_rt, Nat.reduceEqDiff, Nat.reduceAdd, Int.reduceAdd, Int.reduceSub, Int.reduceMul, Int.reduceNeg, Int.reduceLT, Int.reduceLE, Int.reduceEq, tellS]

theorem c161c {X : zX} {d : Nat} (hd : 2 < d) {S : zS} (k : Int) (h : 0 ≤ k ∧ k ≤ 1) (h2 : gI S 76 k = 1) {cm cp : Nat} {L : zL} {st : List Value} : z_evc X d 161 [.ref 72, .int (Int32.ofInt k)] (cm, cp, L, st, mk S) = z_ev X d (cm, cp, L, .int (Int32.ofInt 0) :: st, mk (sI (sI (sF (sI S 72 0 0) 74 0 7892 (fun j => gI S 75 (7892 * k + j))) 72 8 0) 72 1 0)) := z_evc_of (r := (some (.int (Int32.ofInt 0)), mk (sI (sI (sF (sI S 72 0 0) 74 0 7892 (fun j => gI S 75 (7892 * k + j))) 72 8 0) 72 1 0))) (ck := (cm, cp, L, st, mk S)) hd (e161c (X := X) (Nat.le_refl _) k h h2)