/-! readOrder of the reference: behind its sums -/
abbrev L260f (x1 x2 : Int) : zL := [some (.ref 72), some (.int (Int32.ofInt x1)), some (.int (Int32.ofInt x2)), some (.int (Int32.ofInt 8))]
theorem RBad.o {S : zS} {f : Int} (h : RBad S f) {i x : Int} : RBad (sI S 112 i x) f := ⟨by rw [gI_sI, if_neg (by omega)]; exact h.1, by rw [gI_sI, if_neg (by omega)]; exact h.2⟩
theorem b202 {X : zX} {d : Nat} {S : zS} {lk x f : Int} (hx : 0 ≤ x ∧ x ≤ 88) (h : RBad S f) : ∃ S' : zS, z_ev X d (260, 202, L260f lk x, [], mk S) = some (none, mk S') ∧ RBad S' f ∧ FrOw S S' := by
  refine ⟨sI (sI S 112 (x + 5) (gI S 72 23)) 112 (x + 6) (gI S 72 23), ?_, h.o.o, (FrOw.I (by omega)).tr (FrOw.I (by omega))⟩
  have g1 : gI (sI S 112 (x + 5) (gI S 72 23)) 72 23 = gI S 72 23 := by rw [gI_sI, if_neg (by omega)]
  have g3 : gI (sI S 112 (x + 5) (gI S 72 23)) 72 19 = 1 := by rw [gI_sI, if_neg (by omega)]; exact h.1
  simp (disch := first | omega | assumption | exact b01_rng _ | exact st_5 | exact st_12 | exact st_19 | (simp only [isSt_sI, isSt_sJ, isSt_sF, isSt_sG, isSt_sA]; assumption)) only [↓B260_0, ↓B260_4, ↓B260_9, ↓B260_19, ↓B260_22, ↓B260_26, ↓B260_27, ↓B260_34, ↓B260_40, ↓B260_49, ↓B260_53, ↓B260_54, ↓B260_57, ↓B260_64, ↓B260_65, ↓B260_85, ↓B260_91, ↓B260_106, ↓B260_118, ↓B260_125, ↓B260_129, ↓B260_136, ↓B260_144, ↓B260_147, ↓B260_154, ↓B260_171, ↓B260_178, ↓B260_181, ↓B260_185, ↓B260_201, ↓B260_202, ↓B260_221, ↓B260_228, ↓B260_231, ↓B260_235, ↓B260_240, ↓a_111, ↓a_112, ↓n_111, ↓n_112, ↓o_72, ↓r_72_19, ↓r_72_21, ↓r_72_23, ↓r_72_63, ↓r_72_64, ↓s_111, ↓s_112, ↓w_72_21, i_lit, i_add, i_sub, i_mul, i_neg, i_lt, i_le, i_eq, i32_gI, i64_gJ, i32_id, i32_to, i64_to, sI_i32, sJ_i64, b01_t, b01_f, i32_b01, b01_0, ↓a_s0, ↓n_s0, ↓a_s1, ↓n_s1, Int.add_zero, t_lt, f_lt, t_le, f_le, t_eq, f_eq, true_and, and_true, false_and, and_false, and_self, ↓reduceIte, z_bool_of, or_true, true_or, or_false, false_or, Int.neg_neg, not_true_eq_false, not_false_eq_true, lg_lt, lg_le, lg_gt, lg_ge, lg_eq, j_lit, j_add, j_sub, j_mul, j_neg, j_eq, i64_id, ij, ji, z_rt, Nat.reduceEqDiff, Nat.reduceAdd, Int.reduceAdd, Int.reduceSub, Int.reduceMul, Int.reduceNeg, Int.reduceLT, Int.reduceLE, Int.reduceEq, g1, g3]
theorem b154 {X : zX} {d : Nat} {S : zS} {lk x f : Int} (hx : 0 ≤ x ∧ x ≤ 88) (h : RBad S f) : ∃ S' : zS, z_ev X d (260, 154, L260f lk x, [], mk S) = some (none, mk S') ∧ RBad S' f ∧ FrOw S S' := by
  obtain ⟨S', a1, a2, a3⟩ := b202 (X := X) (d := d) (S := sI S 112 (x + 7) 1) (lk := lk) hx h.o
  refine ⟨S', ?_, a2, (FrOw.I (by omega)).tr a3⟩
  have g3 : gI (sI S 112 (x + 7) 1) 72 19 = 1 := h.o.1
  rw [← a1]
  simp (disch := first | omega | assumption | exact b01_rng _ | exact st_5 | exact st_12 | exact st_19 | (simp only [isSt_sI, isSt_sJ, isSt_sF, isSt_sG, isSt_sA]; assumption)) only [↓B260_154, ↓a_111, ↓a_112, ↓n_111, ↓n_112, ↓o_72, ↓r_72_19, ↓r_72_21, ↓r_72_23, ↓r_72_63, ↓r_72_64, ↓s_111, ↓s_112, ↓w_72_21, i_lit, i_add, i_sub, i_mul, i_neg, i_lt, i_le, i_eq, i32_gI, i64_gJ, i32_id, i32_to, i64_to, sI_i32, sJ_i64, b01_t, b01_f, i32_b01, b01_0, ↓a_s0, ↓n_s0, ↓a_s1, ↓n_s1, Int.add_zero, t_lt, f_lt, t_le, f_le, t_eq, f_eq, true_and, and_true, false_and, and_false, and_self, ↓reduceIte, z_bool_of, or_true, true_or, or_false, false_or, Int.neg_neg, not_true_eq_false, not_false_eq_true, lg_lt, lg_le, lg_gt, lg_ge, lg_eq, j_lit, j_add, j_sub, j_mul, j_neg, j_eq, i64_id, ij, ji, z_rt, Nat.reduceEqDiff, Nat.reduceAdd, Int.reduceAdd, Int.reduceSub, Int.reduceMul, Int.reduceNeg, Int.reduceLT, Int.reduceLE, Int.reduceEq, g3]
theorem b147 {X : zX} {d : Nat} (hd : 0 < d) {S : zS} {lk x f : Int} (hx : 0 ≤ x ∧ x ≤ 88) (h : RBad S f) : ∃ S' : zS, z_ev X d (260, 147, L260f lk x, [], mk S) = some (none, mk S') ∧ RBad S' f ∧ FrOw S S' := by
  obtain ⟨S1, a1, a2, a3⟩ := y259 (X := X) (d := d) hd (S := S) (x := x + 3) (by omega) h
  obtain ⟨S', b1, b2, b3⟩ := b154 (X := X) (d := d) (S := S1) (lk := lk) hx a2
  refine ⟨S', ?_, b2, a3.tr b3⟩
  rw [← b1]
  simp (disch := first | omega | assumption | exact b01_rng _ | exact st_5 | exact st_12 | exact st_19 | (simp only [isSt_sI, isSt_sJ, isSt_sF, isSt_sG, isSt_sA]; assumption)) only [↓B260_147, ↓a_111, ↓a_112, ↓n_111, ↓n_112, ↓o_72, ↓r_72_19, ↓r_72_21, ↓r_72_23, ↓r_72_63, ↓r_72_64, ↓s_111, ↓s_112, ↓w_72_21, a1, i_lit, i_add, i_sub, i_mul, i_neg, i_lt, i_le, i_eq, i32_gI, i64_gJ, i32_id, i32_to, i64_to, sI_i32, sJ_i64, b01_t, b01_f, i32_b01, b01_0, ↓a_s0, ↓n_s0, ↓a_s1, ↓n_s1, Int.add_zero, t_lt, f_lt, t_le, f_le, t_eq, f_eq, true_and, and_true, false_and, and_false, and_self, ↓reduceIte, z_bool_of, or_true, true_or, or_false, false_or, Int.neg_neg, not_true_eq_false, not_false_eq_true, lg_lt, lg_le, lg_gt, lg_ge, lg_eq, j_lit, j_add, j_sub, j_mul, j_neg, j_eq, i64_id, ij, ji, z_rt, Nat.reduceEqDiff, Nat.reduceAdd, Int.reduceAdd, Int.reduceSub, Int.reduceMul, Int.reduceNeg, Int.reduceLT, Int.reduceLE, Int.reduceEq]
theorem b125 {X : zX} {d : Nat} (hd : 0 < d) {S : zS} {lk x f : Int} (hlk : 0 ≤ lk ∧ lk ≤ 3) (hx : 0 ≤ x ∧ x ≤ 88) (h : RBad S f) : ∃ S' : zS, z_ev X d (260, 125, L260f lk x, [], mk S) = some (none, mk S') ∧ RBad S' f ∧ FrOw S S' := by
  by_cases q : lk = 0
  · obtain ⟨S', b1, b2, b3⟩ := b147 (X := X) (d := d) hd (S := S) (lk := lk) hx h
    refine ⟨S', ?_, b2, b3⟩
    have h19 := h.1
    rw [← b1]
    simp (disch := first | omega | assumption | exact b01_rng _ | exact st_5 | exact st_12 | exact st_19 | (simp only [isSt_sI, isSt_sJ, isSt_sF, isSt_sG, isSt_sA]; assumption)) only [↓B260_125, ↓B260_129, ↓a_111, ↓a_112, ↓n_111, ↓n_112, ↓o_72, ↓r_72_19, ↓r_72_21, ↓r_72_23, ↓r_72_63, ↓r_72_64, ↓s_111, ↓s_112, ↓w_72_21, i_lit, i_add, i_sub, i_mul, i_neg, i_lt, i_le, i_eq, i32_gI, i64_gJ, i32_id, i32_to, i64_to, sI_i32, sJ_i64, b01_t, b01_f, i32_b01, b01_0, ↓a_s0, ↓n_s0, ↓a_s1, ↓n_s1, Int.add_zero, t_lt, f_lt, t_le, f_le, t_eq, f_eq, true_and, and_true, false_and, and_false, and_self, ↓reduceIte, z_bool_of, or_true, true_or, or_false, false_or, Int.neg_neg, not_true_eq_false, not_false_eq_true, lg_lt, lg_le, lg_gt, lg_ge, lg_eq, j_lit, j_add, j_sub, j_mul, j_neg, j_eq, i64_id, ij, ji, z_rt, Nat.reduceEqDiff, Nat.reduceAdd, Int.reduceAdd, Int.reduceSub, Int.reduceMul, Int.reduceNeg, Int.reduceLT, Int.reduceLE, Int.reduceEq, q, h19]
  · obtain ⟨S', b1, b2, b3⟩ := b154 (X := X) (d := d) (S := S) (lk := lk) hx h
    refine ⟨S', ?_, b2, b3⟩
    rw [← b1]
    simp (disch := first | omega | assumption | exact b01_rng _ | exact st_5 | exact st_12 | exact st_19 | (simp only [isSt_sI, isSt_sJ, isSt_sF, isSt_sG, isSt_sA]; assumption)) only [↓B260_125, ↓a_111, ↓a_112, ↓n_111, ↓n_112, ↓o_72, ↓r_72_19, ↓r_72_21, ↓r_72_23, ↓r_72_63, ↓r_72_64, ↓s_111, ↓s_112, ↓w_72_21, i_lit, i_add, i_sub, i_mul, i_neg, i_lt, i_le, i_eq, i32_gI, i64_gJ, i32_id, i32_to, i64_to, sI_i32, sJ_i64, b01_t, b01_f, i32_b01, b01_0, ↓a_s0, ↓n_s0, ↓a_s1, ↓n_s1, Int.add_zero, t_lt, f_lt, t_le, f_le, t_eq, f_eq, true_and, and_true, false_and, and_false, and_self, ↓reduceIte, z_bool_of, or_true, true_or, or_false, false_or, Int.neg_neg, not_true_eq_false, not_false_eq_true, lg_lt, lg_le, lg_gt, lg_ge, lg_eq, j_lit, j_add, j_sub, j_mul, j_neg, j_eq, i64_id, ij, ji, z_rt, Nat.reduceEqDiff, Nat.reduceAdd, Int.reduceAdd, Int.reduceSub, Int.reduceMul, Int.reduceNeg, Int.reduceLT, Int.reduceLE, Int.reduceEq, q]
/-- the test -/
theorem t202 {X : zX} {d : Nat} (hd : 7 < d) {b : Int → Int} {n : Int} {T t : Nat} (hT : RTape b n T) {S : zS} (hK : KW S) {lk x k : Int} (hx : 0 ≤ x ∧ x ≤ 88) {p : Nat × Int} (h : RE S b n T t 1 p k) : match pSt4 (tc b n) (pTest (tc b n) (tv b n) 1 8) p t with
  | .inl e => ∃ S' : zS, z_ev X d (260, 202, L260f lk x, [], mk S) = some (none, mk S') ∧ RBad S' (tpos b n e) ∧ FrOw S S'
  | .inr (q, p4, t4) => ∃ (S' : zS) (k4 : Int), z_ev X d (260, 202, L260f lk x, [], mk S) = some (none, mk S') ∧ RE S' b n T t4 1 p4 k4 ∧ gI S' 112 (x + 5) = k ∧ gI S' 112 (x + 6) = k4 ∧ RSg (IM 1 S') q k k4 ∧ (∀ i, i < k → IM 1 S' i = IM 1 S i) ∧ (∀ i, ¬ (x + 5 ≤ i ∧ i ≤ x + 6) → gI S' 112 i = gI S 112 i) ∧ t ≤ t4 ∧ k ≤ k4 ∧ gI S' 72 21 = gI S 72 21 ∧ FrOw S S' := by
  have ht3 := hT.2.2
  have h1 := h.2.1.1
  obtain ⟨k23, k0, kt⟩ := h.2.2.2.2
  have h19 := h.1.2.2.2
  have e3 : ∀ (a : Nat) (i : Int), ¬ (a = 112 ∧ i = x + 5) → gI (sI S 112 (x + 5) k) a i = gI S a i := fun a i q => by rw [gI_sI, if_neg (by omega)]
  have hS3 : RE (sI S 112 (x + 5) k) b n T t 1 p k := h.f2 (fun i _ => e3 _ _ (by omega)) (fun i => e3 _ _ (by omega)) rfl
  have hF3 : FrOw S (sI S 112 (x + 5) k) := FrOw.I (by omega)
  have hI3 : IM 1 (sI S 112 (x + 5) k) = IM 1 S := IM_fr (fun a i q => e3 _ _ (by omega))
  have g5 : gI (sI S 112 (x + 5) k) 112 (x + 5) = k := by rw [gI_sI, if_pos ⟨rfl, rfl⟩, i32_id (by omega) (by omega)]
  have f2 := hS3.2.2.2.2.1
  have f3 := hS3.1.2.2.2
  generalize hS3e : sI S 112 (x + 5) k = S3 at *
  have wi : (gI S3 72 16 = 1 ∧ gJ S3 72 17 = 294) = (tc b n t = 265) := hS3.1.w hT.1 (k := 9) rfl
  unfold pSt4
  by_cases q : tc b n t = 265
  · rw [if_pos q]
    have htT := tc_lt hT.2.1 (t := t) (by omega)
    obtain ⟨S4, b1, b2, b3⟩ := z176 (X := X) (d := d) (by omega) hT.1 hS3.1
    have hS4 := hS3.nx b2 b3 (by omega) (by omega)
    have hK4 : KW S4 := (hK.fr (fun a i q => hF3.2.2.1 a i (by omega))).e b3.e
    have hI4 : IM 1 S4 = IM 1 S := by rw [IM_fr (S := S3) (fun a i q => b3.2.1 _ _ (by omega)), hI3]
    have := z196 (X := X) (d := d) (by omega) hT hK4 (ts := 1) (Or.inr rfl) hS4
    have hpe : pEx b n 1 1 = pTest (tc b n) (tv b n) 1 8 := if_neg (by omega)
    rw [hpe] at this
    cases hr : pTest (tc b n) (tv b n) 1 8 p (t + 1) with
    | inl e =>
      rw [hr] at this
      obtain ⟨S5, c1, c2, c3⟩ := this
      refine ⟨sI S5 112 (x + 6) (gI S5 72 23), ?_, c2.o, ((hF3.tr b3.e.o).tr c3.o).tr (FrOw.I (by omega))⟩
      simp (disch := first | omega | assumption | exact b01_rng _ | exact st_5 | exact st_12 | exact st_19 | (simp only [isSt_sI, isSt_sJ, isSt_sF, isSt_sG, isSt_sA]; assumption)) only [↓B260_0, ↓B260_4, ↓B260_9, ↓B260_19, ↓B260_22, ↓B260_26, ↓B260_27, ↓B260_34, ↓B260_40, ↓B260_49, ↓B260_53, ↓B260_54, ↓B260_57, ↓B260_64, ↓B260_65, ↓B260_85, ↓B260_91, ↓B260_106, ↓B260_118, ↓B260_125, ↓B260_129, ↓B260_136, ↓B260_144, ↓B260_147, ↓B260_154, ↓B260_171, ↓B260_178, ↓B260_181, ↓B260_185, ↓B260_201, ↓B260_202, ↓B260_221, ↓B260_228, ↓B260_231, ↓B260_235, ↓B260_240, ↓a_111, ↓a_112, ↓n_111, ↓n_112, ↓o_72, ↓r_72_19, ↓r_72_21, ↓r_72_23, ↓r_72_63, ↓r_72_64, ↓s_111, ↓s_112, ↓w_72_21, c177, b1, c1, i_lit, i_add, i_sub, i_mul, i_neg, i_lt, i_le, i_eq, i32_gI, i64_gJ, i32_id, i32_to, i64_to, sI_i32, sJ_i64, b01_t, b01_f, i32_b01, b01_0, ↓a_s0, ↓n_s0, ↓a_s1, ↓n_s1, Int.add_zero, t_lt, f_lt, t_le, f_le, t_eq, f_eq, true_and, and_true, false_and, and_false, and_self, ↓reduceIte, z_bool_of, or_true, true_or, or_false, false_or, Int.neg_neg, not_true_eq_false, not_false_eq_true, lg_lt, lg_le, lg_gt, lg_ge, lg_eq, j_lit, j_add, j_sub, j_mul, j_neg, j_eq, i64_id, ij, ji, z_rt, Nat.reduceEqDiff, Nat.reduceAdd, Int.reduceAdd, Int.reduceSub, Int.reduceMul, Int.reduceNeg, Int.reduceLT, Int.reduceLE, Int.reduceEq, k23, f2, f3, hS3e, wi, q]
    | inr y =>
      obtain ⟨e, p4, t4⟩ := y
      rw [hr] at this
      obtain ⟨S5, k4, m, c1, c2, c3, c4, c5, c6, c7⟩ := this
      obtain ⟨d23, d0, dt⟩ := c2.2.2.2.2
      have h2 := c2.2.1.1
      have hp50 := c2.2.2.2.1.2
      have e6 : ∀ (a : Nat) (i : Int), ¬ (a = 112 ∧ i = x + 6) → gI (sI S5 112 (x + 6) k4) a i = gI S5 a i := fun a i w => by rw [gI_sI, if_neg (by omega)]
      have e5 : ∀ i, gI S5 112 i = gI S3 112 i := fun i => by rw [c7.2.1 _ _ (by omega) (by omega), b3.2.1 _ _ (by omega)]
      have hkk := c3.1
      refine ⟨sI S5 112 (x + 6) k4, k4, ?_, c2.f2 (fun i _ => e6 _ _ (by omega)) (fun i => e6 _ _ (by omega)) rfl, by rw [e6 _ _ (by omega), e5]; exact g5, by rw [gI_sI, if_pos ⟨rfl, rfl⟩, i32_id (by omega) (by omega)], ⟨m, by omega, by rw [IM_fr (S := S5) (fun a i q => e6 _ _ (by omega))]; exact c3⟩, fun i hi => ?_, fun i hi => ?_, by omega, by omega, ?_, ((hF3.tr b3.e.o).tr c7.o).tr (FrOw.I (by omega))⟩
      · simp (disch := first | omega | assumption | exact b01_rng _ | exact st_5 | exact st_12 | exact st_19 | (simp only [isSt_sI, isSt_sJ, isSt_sF, isSt_sG, isSt_sA]; assumption)) only [↓B260_0, ↓B260_4, ↓B260_9, ↓B260_19, ↓B260_22, ↓B260_26, ↓B260_27, ↓B260_34, ↓B260_40, ↓B260_49, ↓B260_53, ↓B260_54, ↓B260_57, ↓B260_64, ↓B260_65, ↓B260_85, ↓B260_91, ↓B260_106, ↓B260_118, ↓B260_125, ↓B260_129, ↓B260_136, ↓B260_144, ↓B260_147, ↓B260_154, ↓B260_171, ↓B260_178, ↓B260_181, ↓B260_185, ↓B260_201, ↓B260_202, ↓B260_221, ↓B260_228, ↓B260_231, ↓B260_235, ↓B260_240, ↓a_111, ↓a_112, ↓n_111, ↓n_112, ↓o_72, ↓r_72_19, ↓r_72_21, ↓r_72_23, ↓r_72_63, ↓r_72_64, ↓s_111, ↓s_112, ↓w_72_21, c177, b1, c1, i_lit, i_add, i_sub, i_mul, i_neg, i_lt, i_le, i_eq, i32_gI, i64_gJ, i32_id, i32_to, i64_to, sI_i32, sJ_i64, b01_t, b01_f, i32_b01, b01_0, ↓a_s0, ↓n_s0, ↓a_s1, ↓n_s1, Int.add_zero, t_lt, f_lt, t_le, f_le, t_eq, f_eq, true_and, and_true, false_and, and_false, and_self, ↓reduceIte, z_bool_of, or_true, true_or, or_false, false_or, Int.neg_neg, not_true_eq_false, not_false_eq_true, lg_lt, lg_le, lg_gt, lg_ge, lg_eq, j_lit, j_add, j_sub, j_mul, j_neg, j_eq, i64_id, ij, ji, z_rt, Nat.reduceEqDiff, Nat.reduceAdd, Int.reduceAdd, Int.reduceSub, Int.reduceMul, Int.reduceNeg, Int.reduceLT, Int.reduceLE, Int.reduceEq, k23, f2, f3, hS3e, wi, q, d23]
      · rw [IM_fr (S := S5) (fun a i q => e6 _ _ (by omega)), c5 i hi, hI4]
      · rw [e6 _ _ (by omega), e5, e3 _ _ (by omega)]
      · rw [e6 _ _ (by omega), c7.2.1 _ _ (by omega) (by omega), b3.2.1 _ _ (by omega), e3 _ _ (by omega)]
  · rw [if_neg q]
    have e6 : ∀ (a : Nat) (i : Int), ¬ (a = 112 ∧ i = x + 6) → gI (sI S3 112 (x + 6) k) a i = gI S3 a i := fun a i w => by rw [gI_sI, if_neg (by omega)]
    refine ⟨sI S3 112 (x + 6) k, k, ?_, hS3.f2 (fun i _ => e6 _ _ (by omega)) (fun i => e6 _ _ (by omega)) rfl, by rw [e6 _ _ (by omega)]; exact g5, by rw [gI_sI, if_pos ⟨rfl, rfl⟩, i32_id (by omega) (by omega)], rfl, fun i hi => ?_, fun i hi => ?_, Nat.le_refl _, Int.le_refl _, ?_, hF3.tr (FrOw.I (by omega))⟩
    · simp (disch := first | omega | assumption | exact b01_rng _ | exact st_5 | exact st_12 | exact st_19 | (simp only [isSt_sI, isSt_sJ, isSt_sF, isSt_sG, isSt_sA]; assumption)) only [↓B260_0, ↓B260_4, ↓B260_9, ↓B260_19, ↓B260_22, ↓B260_26, ↓B260_27, ↓B260_34, ↓B260_40, ↓B260_49, ↓B260_53, ↓B260_54, ↓B260_57, ↓B260_64, ↓B260_65, ↓B260_85, ↓B260_91, ↓B260_106, ↓B260_118, ↓B260_125, ↓B260_129, ↓B260_136, ↓B260_144, ↓B260_147, ↓B260_154, ↓B260_171, ↓B260_178, ↓B260_181, ↓B260_185, ↓B260_201, ↓B260_202, ↓B260_221, ↓B260_228, ↓B260_231, ↓B260_235, ↓B260_240, ↓a_111, ↓a_112, ↓n_111, ↓n_112, ↓o_72, ↓r_72_19, ↓r_72_21, ↓r_72_23, ↓r_72_63, ↓r_72_64, ↓s_111, ↓s_112, ↓w_72_21, c177, i_lit, i_add, i_sub, i_mul, i_neg, i_lt, i_le, i_eq, i32_gI, i64_gJ, i32_id, i32_to, i64_to, sI_i32, sJ_i64, b01_t, b01_f, i32_b01, b01_0, ↓a_s0, ↓n_s0, ↓a_s1, ↓n_s1, Int.add_zero, t_lt, f_lt, t_le, f_le, t_eq, f_eq, true_and, and_true, false_and, and_false, and_self, ↓reduceIte, z_bool_of, or_true, true_or, or_false, false_or, Int.neg_neg, not_true_eq_false, not_false_eq_true, lg_lt, lg_le, lg_gt, lg_ge, lg_eq, j_lit, j_add, j_sub, j_mul, j_neg, j_eq, i64_id, ij, ji, z_rt, Nat.reduceEqDiff, Nat.reduceAdd, Int.reduceAdd, Int.reduceSub, Int.reduceMul, Int.reduceNeg, Int.reduceLT, Int.reduceLE, Int.reduceEq, k23, f2, f3, hS3e, wi, q]
    · rw [IM_fr (S := S3) (fun a i q => e6 _ _ (by omega)), hI3]
    · rw [e6 _ _ (by omega), e3 _ _ (by omega)]
    · rw [e6 _ _ (by omega), e3 _ _ (by omega)]
