/-! readOrder of the reference: times, the second sum -/
theorem t154 {X : zX} {d : Nat} (hd : 7 < d) {b : Int → Int} {n : Int} {T t : Nat} (hT : RTape b n T) {S : zS} {lk x k : Int} (hx : 0 ≤ x ∧ x ≤ 88) {p : Nat × Int} (h : RE S b n T t 1 p k) : match pSt3 (tc b n) (tv b n) 1 t with
  | .inl e => ∃ S' : zS, z_ev X d (260, 154, L260f lk x, [], mk S) = some (none, mk S') ∧ RBad S' (tpos b n e) ∧ FrOw S S'
  | .inr (ti, t3) => ∃ S' : zS, z_ev X d (260, 154, L260f lk x, [], mk S) = z_ev X d (260, 202, L260f lk x, [], mk S') ∧ RE S' b n T t3 1 p k ∧ gI S' 112 (x + 7) = ti ∧ IM 1 S' = IM 1 S ∧ (∀ i, i ≠ x + 7 → gI S' 112 i = gI S 112 i) ∧ t ≤ t3 ∧ gI S' 72 21 = gI S 72 21 ∧ FrOw S S' := by
  have h19 := h.1.2.2.2
  have e3 : ∀ (a : Nat) (i : Int), ¬ (a = 112 ∧ i = x + 7) → gI (sI S 112 (x + 7) 1) a i = gI S a i := fun a i q => by rw [gI_sI, if_neg (by omega)]
  have hS3 : RE (sI S 112 (x + 7) 1) b n T t 1 p k := h.f2 (fun i _ => e3 _ _ (by omega)) (fun i => e3 _ _ (by omega)) rfl
  have hF3 : FrOw S (sI S 112 (x + 7) 1) := FrOw.I (by omega)
  have hI3 : IM 1 (sI S 112 (x + 7) 1) = IM 1 S := IM_fr (fun a i q => e3 _ _ (by omega))
  have g7 : gI (sI S 112 (x + 7) 1) 112 (x + 7) = 1 := by rw [gI_sI, if_pos ⟨rfl, rfl⟩]; rfl
  have f3 := hS3.1.2.2.2
  generalize hS3e : sI S 112 (x + 7) 1 = S3 at *
  have wi : (gI S3 72 16 = 1 ∧ gJ S3 72 17 = 21279923) = (tc b n t = 261) := hS3.1.w hT.1 (k := 5) rfl
  unfold pSt3
  by_cases q : tc b n t = 261
  · rw [if_pos ⟨rfl, q⟩]
    have htT := tc_lt hT.2.1 (t := t) (by omega)
    obtain ⟨S4, b1, b2, b3⟩ := z176 (X := X) (d := d) (by omega) hT.1 hS3.1
    have hS4 := hS3.nx b2 b3 (by omega) (by omega)
    have s19 := hS4.1.2.2.2
    by_cases q1 : tc b n (t + 1) = 300 ∧ 1 ≤ tv b n (t + 1) ∧ tv b n (t + 1) ≤ 20
    · rw [if_pos q1]
      have hv := mV hT.1 (t + 1) q1.1
      have hv2 : tv b n (t + 1) = tworth b n (tpos b n (t + 1)) := by omega
      have hs2 : tsort b n (tpos b n (t + 1)) = 2 := by rw [mD hT.1]; exact q1.1
      have htT1 := tc_lt hT.2.1 (t := t + 1) (by omega)
      obtain ⟨S5, c1, c2, c3⟩ := z180 (X := X) (d := d) (by omega) hT.1 hS4.1 (lo := 1) (hi := 20) (by omega) (by omega) hs2 (by omega)
      have hS5 := hS4.nx c2 c3 (by omega) (by omega)
      rw [← hv2] at c1
      have e6 : ∀ (a : Nat) (i : Int), ¬ (a = 112 ∧ i = x + 7) → gI (sI S5 112 (x + 7) (tv b n (t + 1))) a i = gI S5 a i := fun a i w => by rw [gI_sI, if_neg (by omega)]
      refine ⟨sI S5 112 (x + 7) (tv b n (t + 1)), ?_, hS5.f2 (fun i _ => e6 _ _ (by omega)) (fun i => e6 _ _ (by omega)) rfl, by rw [gI_sI, if_pos ⟨rfl, rfl⟩, i32_id (by omega) (by omega)], ?_, fun i hi => ?_, by omega, ?_, ((hF3.tr b3.e.o).tr c3.e.o).tr (FrOw.I (by omega))⟩
      · simp (disch := first | omega | assumption | exact b01_rng _ | exact st_5 | exact st_12 | exact st_19 | (simp only [isSt_sI, isSt_sJ, isSt_sF, isSt_sG, isSt_sA]; assumption)) only [↓B260_0, ↓B260_4, ↓B260_9, ↓B260_19, ↓B260_22, ↓B260_26, ↓B260_27, ↓B260_34, ↓B260_40, ↓B260_49, ↓B260_53, ↓B260_54, ↓B260_57, ↓B260_64, ↓B260_65, ↓B260_85, ↓B260_91, ↓B260_106, ↓B260_118, ↓B260_125, ↓B260_129, ↓B260_136, ↓B260_144, ↓B260_147, ↓B260_154, ↓B260_171, ↓B260_178, ↓B260_181, ↓B260_185, ↓B260_201, ↓B260_221, ↓B260_228, ↓B260_231, ↓B260_235, ↓B260_240, ↓a_111, ↓a_112, ↓n_111, ↓n_112, ↓o_72, ↓r_72_19, ↓r_72_21, ↓r_72_23, ↓r_72_63, ↓r_72_64, ↓s_111, ↓s_112, ↓w_72_21, c177, b1, c1, i_lit, i_add, i_sub, i_mul, i_neg, i_lt, i_le, i_eq, i32_gI, i64_gJ, i32_id, i32_to, i64_to, sI_i32, sJ_i64, b01_t, b01_f, i32_b01, b01_0, ↓a_s0, ↓n_s0, ↓a_s1, ↓n_s1, Int.add_zero, t_lt, f_lt, t_le, f_le, t_eq, f_eq, true_and, and_true, false_and, and_false, and_self, ↓reduceIte, z_bool_of, or_true, true_or, or_false, false_or, Int.neg_neg, not_true_eq_false, not_false_eq_true, lg_lt, lg_le, lg_gt, lg_ge, lg_eq, j_lit, j_add, j_sub, j_mul, j_neg, j_eq, i64_id, ij, ji, z_rt, Nat.reduceEqDiff, Nat.reduceAdd, Int.reduceAdd, Int.reduceSub, Int.reduceMul, Int.reduceNeg, Int.reduceLT, Int.reduceLE, Int.reduceEq, f3, hS3e, wi, q]
      · rw [IM_fr (S := S5) (fun a i q => e6 _ _ (by omega)), IM_fr (S := S4) (fun a i q => c3.2.1 _ _ (by omega)), IM_fr (S := S3) (fun a i q => b3.2.1 _ _ (by omega)), hI3]
      · rw [e6 _ _ (by omega), c3.2.1 _ _ (by omega), b3.2.1 _ _ (by omega), e3 _ _ (by omega)]
      · rw [e6 _ _ (by omega), c3.2.1 _ _ (by omega), b3.2.1 _ _ (by omega), e3 _ _ (by omega)]
    · rw [if_neg q1]
      have e16 : (gI S4 72 16 = 2) = (tc b n (t + 1) = 300) := by rw [hS4.1.2.2.1.2.2.1]; exact mD hT.1 (t + 1)
      have e17 := hS4.1.2.2.1.2.2.2
      have hw := mV hT.1 (t + 1)
      have hn' : ¬ (gI S4 72 16 = 2 ∧ 1 ≤ tworth b n (tpos b n (t + 1)) ∧ tworth b n (tpos b n (t + 1)) ≤ 20) := by
        rintro ⟨u1, u2, u3⟩
        rw [e16] at u1
        have := hw u1
        exact q1 ⟨u1, by omega, by omega⟩
      have k180 := fun {cm cp : Nat} {L : zL} {st : List Value} => y180 (X := X) (d := d) (by omega) s19 (lo := 1) (hi := 20) (by omega) (by omega) e17 hn' (cm := cm) (cp := cp) (L := L) (st := st)
      obtain ⟨c1, c2⟩ := hS4.bad hT
      obtain ⟨S', a1, a2, a3⟩ := b202 (X := X) (d := d) (S := sI (badS S4) 112 (x + 7) (tworth b n (tpos b n (t + 1)))) (lk := lk) hx c1.o
      refine ⟨S', ?_, a2, (((hF3.tr b3.e.o).tr c2.o).tr (FrOw.I (by omega))).tr a3⟩
      clear hw hn'
      unfold badS at a1
      rw [← a1]
      simp (disch := first | omega | assumption | exact b01_rng _ | exact st_5 | exact st_12 | exact st_19 | (simp only [isSt_sI, isSt_sJ, isSt_sF, isSt_sG, isSt_sA]; assumption)) only [↓B260_0, ↓B260_4, ↓B260_9, ↓B260_19, ↓B260_22, ↓B260_26, ↓B260_27, ↓B260_34, ↓B260_40, ↓B260_49, ↓B260_53, ↓B260_54, ↓B260_57, ↓B260_64, ↓B260_65, ↓B260_85, ↓B260_91, ↓B260_106, ↓B260_118, ↓B260_125, ↓B260_129, ↓B260_136, ↓B260_144, ↓B260_147, ↓B260_154, ↓B260_171, ↓B260_178, ↓B260_181, ↓B260_185, ↓B260_201, ↓B260_221, ↓B260_228, ↓B260_231, ↓B260_235, ↓B260_240, ↓a_111, ↓a_112, ↓n_111, ↓n_112, ↓o_72, ↓r_72_19, ↓r_72_21, ↓r_72_23, ↓r_72_63, ↓r_72_64, ↓s_111, ↓s_112, ↓w_72_21, c177, b1, k180, i_lit, i_add, i_sub, i_mul, i_neg, i_lt, i_le, i_eq, i32_gI, i64_gJ, i32_id, i32_to, i64_to, sI_i32, sJ_i64, b01_t, b01_f, i32_b01, b01_0, ↓a_s0, ↓n_s0, ↓a_s1, ↓n_s1, Int.add_zero, t_lt, f_lt, t_le, f_le, t_eq, f_eq, true_and, and_true, false_and, and_false, and_self, ↓reduceIte, z_bool_of, or_true, true_or, or_false, false_or, Int.neg_neg, not_true_eq_false, not_false_eq_true, lg_lt, lg_le, lg_gt, lg_ge, lg_eq, j_lit, j_add, j_sub, j_mul, j_neg, j_eq, i64_id, ij, ji, z_rt, Nat.reduceEqDiff, Nat.reduceAdd, Int.reduceAdd, Int.reduceSub, Int.reduceMul, Int.reduceNeg, Int.reduceLT, Int.reduceLE, Int.reduceEq, f3, hS3e, wi, q]
  · rw [if_neg (fun w => q w.2)]
    refine ⟨S3, ?_, hS3, g7, hI3, fun i hi => e3 _ _ (by omega), Nat.le_refl _, e3 _ _ (by omega), hF3⟩
    simp (disch := first | omega | assumption | exact b01_rng _ | exact st_5 | exact st_12 | exact st_19 | (simp only [isSt_sI, isSt_sJ, isSt_sF, isSt_sG, isSt_sA]; assumption)) only [↓B260_0, ↓B260_4, ↓B260_9, ↓B260_19, ↓B260_22, ↓B260_26, ↓B260_27, ↓B260_34, ↓B260_40, ↓B260_49, ↓B260_53, ↓B260_54, ↓B260_57, ↓B260_64, ↓B260_65, ↓B260_85, ↓B260_91, ↓B260_106, ↓B260_118, ↓B260_125, ↓B260_129, ↓B260_136, ↓B260_144, ↓B260_147, ↓B260_154, ↓B260_171, ↓B260_178, ↓B260_181, ↓B260_185, ↓B260_201, ↓B260_221, ↓B260_228, ↓B260_231, ↓B260_235, ↓B260_240, ↓a_111, ↓a_112, ↓n_111, ↓n_112, ↓o_72, ↓r_72_19, ↓r_72_21, ↓r_72_23, ↓r_72_63, ↓r_72_64, ↓s_111, ↓s_112, ↓w_72_21, c177, i_lit, i_add, i_sub, i_mul, i_neg, i_lt, i_le, i_eq, i32_gI, i64_gJ, i32_id, i32_to, i64_to, sI_i32, sJ_i64, b01_t, b01_f, i32_b01, b01_0, ↓a_s0, ↓n_s0, ↓a_s1, ↓n_s1, Int.add_zero, t_lt, f_lt, t_le, f_le, t_eq, f_eq, true_and, and_true, false_and, and_false, and_self, ↓reduceIte, z_bool_of, or_true, true_or, or_false, false_or, Int.neg_neg, not_true_eq_false, not_false_eq_true, lg_lt, lg_le, lg_gt, lg_ge, lg_eq, j_lit, j_add, j_sub, j_mul, j_neg, j_eq, i64_id, ij, ji, z_rt, Nat.reduceEqDiff, Nat.reduceAdd, Int.reduceAdd, Int.reduceSub, Int.reduceMul, Int.reduceNeg, Int.reduceLT, Int.reduceLE, Int.reduceEq, f3, hS3e, wi, q]
/-- the second sum -/
theorem t125 {X : zX} {d : Nat} (hd : 8 < d) {b : Int → Int} {n : Int} {T t : Nat} (hT : RTape b n T) {S : zS} (hK : KW S) {lk x k c : Int} (hx : 0 ≤ x ∧ x ≤ 88) (hlk : 0 ≤ lk ∧ lk ≤ 3) (hc : lk = 0 ↔ c = 276) {p : Nat × Int} (h : RE S b n T t 1 p k) (h3 : gI S 112 (x + 3) = 0) (h4 : gI S 112 (x + 4) = 0) : match pSt2 (tc b n) (pSum (tc b n) (tv b n) 1 8) c p t with
  | .inl e => ∃ S' : zS, z_ev X d (260, 125, L260f lk x, [], mk S) = some (none, mk S') ∧ RBad S' (tpos b n e) ∧ FrOw S S'
  | .inr (u, p1, t1) => ∃ (S' : zS) (k1 : Int), z_ev X d (260, 125, L260f lk x, [], mk S) = z_ev X d (260, 154, L260f lk x, [], mk S') ∧ RE S' b n T t1 1 p1 k1 ∧ (0 ≤ gI S' 112 (x + 3) ∧ gI S' 112 (x + 3) ≤ gI S' 112 (x + 4) ∧ gI S' 112 (x + 4) ≤ k1) ∧ RSg (IM 1 S') u (gI S' 112 (x + 3)) (gI S' 112 (x + 4)) ∧ (∀ i, i < k → IM 1 S' i = IM 1 S i) ∧ (∀ i, i ≠ x + 3 → i ≠ x + 4 → gI S' 112 i = gI S 112 i) ∧ t ≤ t1 ∧ k ≤ k1 ∧ gI S' 72 21 = gI S 72 21 ∧ FrOw S S' := by
  have h19 := h.1.2.2.2
  obtain ⟨k23, k0, kt⟩ := h.2.2.2.2
  unfold pSt2
  by_cases q : c = 276
  · rw [if_pos q]
    have q0 : lk = 0 := hc.mpr q
    have wi : (gI S 72 16 = 1 ∧ gJ S 72 17 = 655) = (tc b n t = 277) := h.1.w hT.1 (k := 21) rfl
    by_cases q1 : tc b n t = 277
    · rw [if_pos q1]
      have htT := tc_lt hT.2.1 (t := t) (by omega)
      obtain ⟨S4, b1, b2, b3⟩ := z179 (X := X) (d := d) (by omega) hT.1 h.1
      have hS4 := h.nx b2 b3 (by omega) (by omega)
      have hK4 : KW S4 := hK.e b3.e
      have ent : z_ev X d (260, 125, L260f lk x, [], mk S) = z_ev X d (260, 147, L260f lk x, [], mk S4) := by
        simp (disch := first | omega | assumption | exact b01_rng _ | exact st_5 | exact st_12 | exact st_19 | (simp only [isSt_sI, isSt_sJ, isSt_sF, isSt_sG, isSt_sA]; assumption)) only [↓B260_125, ↓B260_129, ↓B260_136, ↓B260_144, ↓a_111, ↓a_112, ↓n_111, ↓n_112, ↓o_72, ↓r_72_19, ↓r_72_21, ↓r_72_23, ↓r_72_63, ↓r_72_64, ↓s_111, ↓s_112, ↓w_72_21, c177, b1, i_lit, i_add, i_sub, i_mul, i_neg, i_lt, i_le, i_eq, i32_gI, i64_gJ, i32_id, i32_to, i64_to, sI_i32, sJ_i64, b01_t, b01_f, i32_b01, b01_0, ↓a_s0, ↓n_s0, ↓a_s1, ↓n_s1, Int.add_zero, t_lt, f_lt, t_le, f_le, t_eq, f_eq, true_and, and_true, false_and, and_false, and_self, ↓reduceIte, z_bool_of, or_true, true_or, or_false, false_or, Int.neg_neg, not_true_eq_false, not_false_eq_true, lg_lt, lg_le, lg_gt, lg_ge, lg_eq, j_lit, j_add, j_sub, j_mul, j_neg, j_eq, i64_id, ij, ji, z_rt, Nat.reduceEqDiff, Nat.reduceAdd, Int.reduceAdd, Int.reduceSub, Int.reduceMul, Int.reduceNeg, Int.reduceLT, Int.reduceLE, Int.reduceEq, h19, wi, q1, q0]
      have := z259 (X := X) (d := d) hd hT hK4 (x := x + 3) (by omega) hS4
      have e34 : x + 3 + 1 = x + 4 := by omega
      rw [e34] at this
      cases hr : pSum (tc b n) (tv b n) 1 8 p (t + 1) with
      | inl e =>
        rw [hr] at this
        obtain ⟨S5, c1, c2, c3⟩ := this
        obtain ⟨S', a1, a2, a3⟩ := b154 (X := X) (d := d) (S := S5) (lk := lk) hx c2
        refine ⟨S', ?_, a2, (b3.e.o.tr c3).tr a3⟩
        rw [ent, ← a1]
        simp (disch := first | omega | assumption | exact b01_rng _ | exact st_5 | exact st_12 | exact st_19 | (simp only [isSt_sI, isSt_sJ, isSt_sF, isSt_sG, isSt_sA]; assumption)) only [↓B260_147, ↓a_111, ↓a_112, ↓n_111, ↓n_112, ↓o_72, ↓r_72_19, ↓r_72_21, ↓r_72_23, ↓r_72_63, ↓r_72_64, ↓s_111, ↓s_112, ↓w_72_21, c1, i_lit, i_add, i_sub, i_mul, i_neg, i_lt, i_le, i_eq, i32_gI, i64_gJ, i32_id, i32_to, i64_to, sI_i32, sJ_i64, b01_t, b01_f, i32_b01, b01_0, ↓a_s0, ↓n_s0, ↓a_s1, ↓n_s1, Int.add_zero, t_lt, f_lt, t_le, f_le, t_eq, f_eq, true_and, and_true, false_and, and_false, and_self, ↓reduceIte, z_bool_of, or_true, true_or, or_false, false_or, Int.neg_neg, not_true_eq_false, not_false_eq_true, lg_lt, lg_le, lg_gt, lg_ge, lg_eq, j_lit, j_add, j_sub, j_mul, j_neg, j_eq, i64_id, ij, ji, z_rt, Nat.reduceEqDiff, Nat.reduceAdd, Int.reduceAdd, Int.reduceSub, Int.reduceMul, Int.reduceNeg, Int.reduceLT, Int.reduceLE, Int.reduceEq]
      | inr y =>
        obtain ⟨e, p4, t4⟩ := y
        rw [hr] at this
        obtain ⟨S5, k4, c1, c2, c3, c4, c5, c6, c7, c8, c9, c10, c11⟩ := this
        refine ⟨S5, k4, ?_, c2, by rw [c3, c4]; omega, by rw [c3, c4]; exact c5, fun i hi => ?_, fun i hi1 hi2 => ?_, by omega, by omega, ?_, b3.e.o.tr c11⟩
        · rw [ent]
          simp (disch := first | omega | assumption | exact b01_rng _ | exact st_5 | exact st_12 | exact st_19 | (simp only [isSt_sI, isSt_sJ, isSt_sF, isSt_sG, isSt_sA]; assumption)) only [↓B260_147, ↓a_111, ↓a_112, ↓n_111, ↓n_112, ↓o_72, ↓r_72_19, ↓r_72_21, ↓r_72_23, ↓r_72_63, ↓r_72_64, ↓s_111, ↓s_112, ↓w_72_21, c1, i_lit, i_add, i_sub, i_mul, i_neg, i_lt, i_le, i_eq, i32_gI, i64_gJ, i32_id, i32_to, i64_to, sI_i32, sJ_i64, b01_t, b01_f, i32_b01, b01_0, ↓a_s0, ↓n_s0, ↓a_s1, ↓n_s1, Int.add_zero, t_lt, f_lt, t_le, f_le, t_eq, f_eq, true_and, and_true, false_and, and_false, and_self, ↓reduceIte, z_bool_of, or_true, true_or, or_false, false_or, Int.neg_neg, not_true_eq_false, not_false_eq_true, lg_lt, lg_le, lg_gt, lg_ge, lg_eq, j_lit, j_add, j_sub, j_mul, j_neg, j_eq, i64_id, ij, ji, z_rt, Nat.reduceEqDiff, Nat.reduceAdd, Int.reduceAdd, Int.reduceSub, Int.reduceMul, Int.reduceNeg, Int.reduceLT, Int.reduceLE, Int.reduceEq]
        · rw [c6 i hi, IM_fr (S := S) (fun a i q => b3.2.1 _ _ (by omega))]
        · rw [c7 i hi1 hi2, b3.2.1 _ _ (by omega)]
        · rw [c10, b3.2.1 _ _ (by omega)]
    · rw [if_neg q1]
      have k179 := fun {cm cp : Nat} {L : zL} {st : List Value} => c179b (X := X) (d := d) (S := S) (by omega) h19 (cm := cm) (cp := cp) (L := L) (st := st)
      obtain ⟨c1, c2⟩ := h.bad hT
      obtain ⟨S', a1, a2, a3⟩ := b147 (X := X) (d := d) (by omega) (S := badS S) (lk := lk) hx c1
      refine ⟨S', ?_, a2, c2.o.tr a3⟩
      unfold badS at a1
      rw [← a1]
      simp (disch := first | omega | assumption | exact b01_rng _ | exact st_5 | exact st_12 | exact st_19 | (simp only [isSt_sI, isSt_sJ, isSt_sF, isSt_sG, isSt_sA]; assumption)) only [↓B260_125, ↓B260_129, ↓B260_136, ↓B260_144, ↓a_111, ↓a_112, ↓n_111, ↓n_112, ↓o_72, ↓r_72_19, ↓r_72_21, ↓r_72_23, ↓r_72_63, ↓r_72_64, ↓s_111, ↓s_112, ↓w_72_21, c177, k179, i_lit, i_add, i_sub, i_mul, i_neg, i_lt, i_le, i_eq, i32_gI, i64_gJ, i32_id, i32_to, i64_to, sI_i32, sJ_i64, b01_t, b01_f, i32_b01, b01_0, ↓a_s0, ↓n_s0, ↓a_s1, ↓n_s1, Int.add_zero, t_lt, f_lt, t_le, f_le, t_eq, f_eq, true_and, and_true, false_and, and_false, and_self, ↓reduceIte, z_bool_of, or_true, true_or, or_false, false_or, Int.neg_neg, not_true_eq_false, not_false_eq_true, lg_lt, lg_le, lg_gt, lg_ge, lg_eq, j_lit, j_add, j_sub, j_mul, j_neg, j_eq, i64_id, ij, ji, z_rt, Nat.reduceEqDiff, Nat.reduceAdd, Int.reduceAdd, Int.reduceSub, Int.reduceMul, Int.reduceNeg, Int.reduceLT, Int.reduceLE, Int.reduceEq, h19, wi, q1, q0]
  · rw [if_neg q]
    have q0 : lk ≠ 0 := fun w => q (hc.mp w)
    refine ⟨S, k, ?_, h, by rw [h3, h4]; omega, by rw [h3, h4]; rfl, fun _ _ => rfl, fun _ _ _ => rfl, Nat.le_refl _, Int.le_refl _, rfl, FrOw.rf⟩
    simp (disch := first | omega | assumption | exact b01_rng _ | exact st_5 | exact st_12 | exact st_19 | (simp only [isSt_sI, isSt_sJ, isSt_sF, isSt_sG, isSt_sA]; assumption)) only [↓B260_125, ↓a_111, ↓a_112, ↓n_111, ↓n_112, ↓o_72, ↓r_72_19, ↓r_72_21, ↓r_72_23, ↓r_72_63, ↓r_72_64, ↓s_111, ↓s_112, ↓w_72_21, i_lit, i_add, i_sub, i_mul, i_neg, i_lt, i_le, i_eq, i32_gI, i64_gJ, i32_id, i32_to, i64_to, sI_i32, sJ_i64, b01_t, b01_f, i32_b01, b01_0, ↓a_s0, ↓n_s0, ↓a_s1, ↓n_s1, Int.add_zero, t_lt, f_lt, t_le, f_le, t_eq, f_eq, true_and, and_true, false_and, and_false, and_self, ↓reduceIte, z_bool_of, or_true, true_or, or_false, false_or, Int.neg_neg, not_true_eq_false, not_false_eq_true, lg_lt, lg_le, lg_gt, lg_ge, lg_eq, j_lit, j_add, j_sub, j_mul, j_neg, j_eq, i64_id, ij, ji, z_rt, Nat.reduceEqDiff, Nat.reduceAdd, Int.reduceAdd, Int.reduceSub, Int.reduceMul, Int.reduceNeg, Int.reduceLT, Int.reduceLE, Int.reduceEq, q0]
