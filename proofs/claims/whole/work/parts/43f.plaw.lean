/-! law, in pairs -/
theorem e200a {X : zX} {d : Nat} (hd : 2 ≤ d) {S : zS} (h : gI S 74 3 = 6) : z_ev X d (z_entry 200 [.ref 72] (mk S)) = some (some (.int (Int32.ofInt (-5))), mk (tellS (sI (sI S 72 0 0) 72 13 0) (-5))) := by
  show z_ev X d (200, 0, [some (.ref 72), none, none], [], mk S) = _
  simp (disch := first | omega | assumption | exact b01_rng _ | exact st_5 | exact st_12 | exact st_19 | (simp only [isSt_sI, isSt_sJ, isSt_sF, isSt_sG, isSt_sA]; assumption)) only [↓B200_0, ↓B200_16, ↓B200_27, ↓a_74, ↓a_82, ↓a_83, ↓a_84, ↓n_74, ↓n_82, ↓n_83, ↓n_84, ↓o_72, ↓r_72_19, ↓r_72_21, ↓r_72_22, ↓r_72_23, ↓r_72_24, ↓r_72_25, ↓r_72_3, ↓s_74, ↓s_82, ↓s_83, ↓s_84, ↓w_72_0, ↓w_72_13, c153, i_lit, i_add, i_sub, i_mul, i_neg, i_lt, i_le, i_eq, i32_gI, i64_gJ, i32_id, i32_to, i64_to, sI_i32, sJ_i64, b01_t, b01_f, i32_b01, b01_0, ↓a_s0, ↓n_s0, ↓a_s1, ↓n_s1, Int.add_zero, t_lt, f_lt, t_le, f_le, t_eq, f_eq, true_and, and_true, false_and, and_false, and_self, ↓reduceIte, z_bool_of, or_true, true_or, or_false, false_or, Int.neg_neg, not_true_eq_false, not_false_eq_true, lg_lt, lg_le, lg_gt, lg_ge, lg_eq, j_lit, j_add, j_sub, j_mul, j_neg, j_eq, i64_id, ij, ji, z_rt, Nat.reduceEqDiff, Nat.reduceAdd, Int.reduceAdd, Int.reduceSub, Int.reduceMul, Int.reduceNeg, Int.reduceLT, Int.reduceLE, Int.reduceEq, gI_sI, gI_sJ, gI_sF, gI_sG, gI_sQ, gI_sA, gJ_sI, gJ_sJ, gJ_sF, gJ_sG, gJ_sQ, gJ_sA, gQ_sI, gQ_sJ, gQ_sF, gQ_sG, gQ_sQ, gQ_sA, gH_sI, gH_sJ, gH_sF, gH_sG, gH_sQ, gH_sA, gN_sI, gN_sJ, gN_sF, gN_sG, gN_sQ, gN_sA, gW_sI, gW_sJ, gW_sF, gW_sG, gW_sQ, gW_sA, h, tellS]
theorem c200a {X : zX} {d : Nat} (hd : 2 < d) {S : zS} (h : gI S 74 3 = 6) {cm cp : Nat} {L : zL} {st : List Value} : z_evc X d 200 [.ref 72] (cm, cp, L, st, mk S) = z_ev X d (cm, cp, L, .int (Int32.ofInt (-5)) :: st, mk (tellS (sI (sI S 72 0 0) 72 13 0) (-5))) := z_evc_of (r := (some (.int (Int32.ofInt (-5))), mk (tellS (sI (sI S 72 0 0) 72 13 0) (-5)))) (ck := (cm, cp, L, st, mk S)) hd (e200a (X := X) (Nat.le_refl _) h)
theorem p_law {P : zP} (h2 : Good2 P QL) {X : zX} {S : zS} {d : Nat} (hd : 200 ≤ d) (hI : Inv P QL S) : PairAt P QL X 105 200 [] S d := by
  have hG := h2.g
  obtain ⟨-, -, -, ⟨s1, s2, s3⟩, -⟩ := id hI.1
  have hfx := hI.2.2.2.2.2.2
  obtain ⟨⟨t1, t2, t3⟩, t4⟩ := id hI.2.2.1
  by_cases q : gI S 74 3 = 6
  · have hc := e105a (X := X) (d := d) (S := S) (by omega) (by rw [s1]; exact q)
    have hm := e200a (X := X) (d := d) (S := cR (sI S 35 1 0) (-5)) (by omega) (by rw [cR_I (by omega) (by omega)]; (repeat (first | rw [gI_sI, if_neg (by omega)] | rw [gI_sF, if_neg (by omega)] | rw [gI_sJ] | rw [gI_sG] | rw [gI_sQ])); exact q)
    have hI0 : Inv P QL (sI (sI S 35 1 0) 72 13 0) := by
      refine hI.gen (Keep.dyn hG (by (repeat (first | exact Dyn.rf | refine Dyn.sI (by decide) ?_ | refine Dyn.sF (by decide) ?_ | refine Dyn.sJ ?_ | refine Dyn.sG ?_ | refine Dyn.sQ (by decide) ?_)))) ?_ ?_ ?_ ?_ ?_ ?_ (fun i => by (repeat (first | rw [gI_sI, if_neg (by omega)] | rw [gI_sF, if_neg (by omega)] | rw [gI_sJ] | rw [gI_sG] | rw [gI_sQ]))) (fun i => by (repeat (first | rw [gI_sI, if_neg (by omega)] | rw [gI_sF, if_neg (by omega)] | rw [gI_sJ] | rw [gI_sG] | rw [gI_sQ]))) (fun _ => rfl) (fun b q1 q2 => ⟨fun i => by (repeat (first | rw [gI_sI, if_neg (by omega)] | rw [gI_sF, if_neg (by omega)] | rw [gI_sJ] | rw [gI_sG] | rw [gI_sQ])), fun _ => rfl, rfl⟩) (Nat.le_refl _) (fun b q1 q2 => hI.2.2.2.2.2.1.2.1.1 b q1 q2) (fun _ _ _ => rfl) hfx.2.1 (by (repeat (first | rw [gI_sI, if_neg (by omega)] | rw [gI_sF, if_neg (by omega)] | rw [gI_sJ] | rw [gI_sG] | rw [gI_sQ])); exact hfx.2.2.1)
      · have hD : Dyn S (sI (sI S 35 1 0) 72 13 0) := by (repeat (first | exact Dyn.rf | refine Dyn.sI (by decide) ?_ | refine Dyn.sF (by decide) ?_ | refine Dyn.sJ ?_ | refine Dyn.sG ?_ | refine Dyn.sQ (by decide) ?_))
        exact hI.1.fr hG hD (fun i => by (repeat (first | rw [gI_sI, if_neg (by omega)] | rw [gI_sF, if_neg (by omega)] | rw [gI_sJ] | rw [gI_sG] | rw [gI_sQ]))) (fun i => by (repeat (first | rw [gI_sI, if_neg (by omega)] | rw [gI_sF, if_neg (by omega)] | rw [gI_sJ] | rw [gI_sG] | rw [gI_sQ]))) (fun i => by (repeat (first | rw [gI_sI, if_neg (by omega)] | rw [gI_sF, if_neg (by omega)] | rw [gI_sJ] | rw [gI_sG] | rw [gI_sQ]))) (fun i => by (repeat (first | rw [gI_sI, if_neg (by omega)] | rw [gI_sF, if_neg (by omega)] | rw [gI_sJ] | rw [gI_sG] | rw [gI_sQ]))) (fun i => by (repeat (first | rw [gI_sI, if_neg (by omega)] | rw [gI_sF, if_neg (by omega)] | rw [gI_sJ] | rw [gI_sG] | rw [gI_sQ]))) (fun i => rfl) (fun i => rfl) (fun i => by (repeat (first | rw [gI_sI, if_neg (by omega)] | rw [gI_sF, if_neg (by omega)] | rw [gI_sJ] | rw [gI_sG] | rw [gI_sQ])))
      · exact hI.2.1.fr (by (repeat (first | rw [gI_sI, if_neg (by omega)] | rw [gI_sF, if_neg (by omega)] | rw [gI_sJ] | rw [gI_sG] | rw [gI_sQ]))) (by (repeat (first | rw [gI_sI, if_neg (by omega)] | rw [gI_sF, if_neg (by omega)] | rw [gI_sJ] | rw [gI_sG] | rw [gI_sQ]))) (fun i => by (repeat (first | rw [gI_sI, if_neg (by omega)] | rw [gI_sF, if_neg (by omega)] | rw [gI_sJ] | rw [gI_sG] | rw [gI_sQ]))) (fun i => by (repeat (first | rw [gI_sI, if_neg (by omega)] | rw [gI_sF, if_neg (by omega)] | rw [gI_sJ] | rw [gI_sG] | rw [gI_sQ]))) (fun i => by (repeat (first | rw [gI_sI, if_neg (by omega)] | rw [gI_sF, if_neg (by omega)] | rw [gI_sJ] | rw [gI_sG] | rw [gI_sQ]))) (fun i => by (repeat (first | rw [gI_sI, if_neg (by omega)] | rw [gI_sF, if_neg (by omega)] | rw [gI_sJ] | rw [gI_sG] | rw [gI_sQ]))) (fun i => by (repeat (first | rw [gI_sI, if_neg (by omega)] | rw [gI_sF, if_neg (by omega)] | rw [gI_sJ] | rw [gI_sG] | rw [gI_sQ]))) (fun i _ _ => by (repeat (first | rw [gI_sI, if_neg (by omega)] | rw [gI_sF, if_neg (by omega)] | rw [gI_sJ] | rw [gI_sG] | rw [gI_sQ])))
      · refine ⟨⟨?_, ?_, ?_⟩, fun i q1 q2 => ?_⟩
        · simp (disch := first | omega | assumption | exact b01_rng _ | exact st_5 | exact st_12 | exact st_19 | (simp only [isSt_sI, isSt_sJ, isSt_sF, isSt_sG, isSt_sA]; assumption)) only [gI_sI, i_lit, i_add, i_sub, i_mul, i_neg, i_lt, i_le, i_eq, i32_gI, i64_gJ, i32_id, i32_to, i64_to, sI_i32, sJ_i64, b01_t, b01_f, i32_b01, b01_0, ↓a_s0, ↓n_s0, ↓a_s1, ↓n_s1, Int.add_zero, t_lt, f_lt, t_le, f_le, t_eq, f_eq, true_and, and_true, false_and, and_false, and_self, ↓reduceIte, z_bool_of, or_true, true_or, or_false, false_or, Int.neg_neg, not_true_eq_false, not_false_eq_true, lg_lt, lg_le, lg_gt, lg_ge, lg_eq, j_lit, j_add, j_sub, j_mul, j_neg, j_eq, i64_id, ij, ji, z_rt, Nat.reduceEqDiff, Nat.reduceAdd, Int.reduceAdd, Int.reduceSub, Int.reduceMul, Int.reduceNeg, Int.reduceLT, Int.reduceLE, Int.reduceEq]
        · simp (disch := first | omega | assumption | exact b01_rng _ | exact st_5 | exact st_12 | exact st_19 | (simp only [isSt_sI, isSt_sJ, isSt_sF, isSt_sG, isSt_sA]; assumption)) only [gI_sI, i_lit, i_add, i_sub, i_mul, i_neg, i_lt, i_le, i_eq, i32_gI, i64_gJ, i32_id, i32_to, i64_to, sI_i32, sJ_i64, b01_t, b01_f, i32_b01, b01_0, ↓a_s0, ↓n_s0, ↓a_s1, ↓n_s1, Int.add_zero, t_lt, f_lt, t_le, f_le, t_eq, f_eq, true_and, and_true, false_and, and_false, and_self, ↓reduceIte, z_bool_of, or_true, true_or, or_false, false_or, Int.neg_neg, not_true_eq_false, not_false_eq_true, lg_lt, lg_le, lg_gt, lg_ge, lg_eq, j_lit, j_add, j_sub, j_mul, j_neg, j_eq, i64_id, ij, ji, z_rt, Nat.reduceEqDiff, Nat.reduceAdd, Int.reduceAdd, Int.reduceSub, Int.reduceMul, Int.reduceNeg, Int.reduceLT, Int.reduceLE, Int.reduceEq]
        · simp (disch := first | omega | assumption | exact b01_rng _ | exact st_5 | exact st_12 | exact st_19 | (simp only [isSt_sI, isSt_sJ, isSt_sF, isSt_sG, isSt_sA]; assumption)) only [gI_sI, i_lit, i_add, i_sub, i_mul, i_neg, i_lt, i_le, i_eq, i32_gI, i64_gJ, i32_id, i32_to, i64_to, sI_i32, sJ_i64, b01_t, b01_f, i32_b01, b01_0, ↓a_s0, ↓n_s0, ↓a_s1, ↓n_s1, Int.add_zero, t_lt, f_lt, t_le, f_le, t_eq, f_eq, true_and, and_true, false_and, and_false, and_self, ↓reduceIte, z_bool_of, or_true, true_or, or_false, false_or, Int.neg_neg, not_true_eq_false, not_false_eq_true, lg_lt, lg_le, lg_gt, lg_ge, lg_eq, j_lit, j_add, j_sub, j_mul, j_neg, j_eq, i64_id, ij, ji, z_rt, Nat.reduceEqDiff, Nat.reduceAdd, Int.reduceAdd, Int.reduceSub, Int.reduceMul, Int.reduceNeg, Int.reduceLT, Int.reduceLE, Int.reduceEq]
        · simp (disch := first | omega | assumption | exact b01_rng _ | exact st_5 | exact st_12 | exact st_19 | (simp only [isSt_sI, isSt_sJ, isSt_sF, isSt_sG, isSt_sA]; assumption)) only [gI_sI, i_lit, i_add, i_sub, i_mul, i_neg, i_lt, i_le, i_eq, i32_gI, i64_gJ, i32_id, i32_to, i64_to, sI_i32, sJ_i64, b01_t, b01_f, i32_b01, b01_0, ↓a_s0, ↓n_s0, ↓a_s1, ↓n_s1, Int.add_zero, t_lt, f_lt, t_le, f_le, t_eq, f_eq, true_and, and_true, false_and, and_false, and_self, ↓reduceIte, z_bool_of, or_true, true_or, or_false, false_or, Int.neg_neg, not_true_eq_false, not_false_eq_true, lg_lt, lg_le, lg_gt, lg_ge, lg_eq, j_lit, j_add, j_sub, j_mul, j_neg, j_eq, i64_id, ij, ji, z_rt, Nat.reduceEqDiff, Nat.reduceAdd, Int.reduceAdd, Int.reduceSub, Int.reduceMul, Int.reduceNeg, Int.reduceLT, Int.reduceLE, Int.reduceEq] at q2
      · obtain ⟨m1, m2, m3, m4, m5, m6, m7, m8, m9⟩ := id hI.2.2.2.1
        unfold MsRel
        simp only [gI_sI, Nat.reduceEqDiff, false_and, and_false, if_false, Int.reduceEq]
        exact ⟨m1, m2, m3, m4, m5, m6, m7, m8, m9⟩
      · exact hI.2.2.2.2.1.fr (by (repeat (first | rw [gI_sI, if_neg (by omega)] | rw [gI_sF, if_neg (by omega)] | rw [gI_sJ] | rw [gI_sG] | rw [gI_sQ]))) (by (repeat (first | rw [gI_sI, if_neg (by omega)] | rw [gI_sF, if_neg (by omega)] | rw [gI_sJ] | rw [gI_sG] | rw [gI_sQ]))) (fun i => by (repeat (first | rw [gI_sI, if_neg (by omega)] | rw [gI_sF, if_neg (by omega)] | rw [gI_sJ] | rw [gI_sG] | rw [gI_sQ]))) (fun i => by (repeat (first | rw [gI_sI, if_neg (by omega)] | rw [gI_sF, if_neg (by omega)] | rw [gI_sJ] | rw [gI_sG] | rw [gI_sQ])))
      · exact hI.2.2.2.2.2.1.1
    have e : tellS (sI (sI (cR (sI S 35 1 0) (-5)) 72 0 0) 72 13 0) (-5) = rfS (sI (sI S 35 1 0) 72 13 0) (-5) := by
      unfold tellS rfS cR
      rw [if_pos (by omega)]
      refine zS_ext (fun a i => ?_) (fun _ _ => rfl) (fun _ _ => rfl) (fun _ => rfl) rfl rfl
      simp only [gI_sI, rix]
      by_cases w73 : a = 73
      · subst w73; simp
      · by_cases w72 : a = 72
        · subst w72
          by_cases w1 : i = 1
          · subst w1; simp
          · by_cases w0 : i = 0
            · subst w0; simp
            · by_cases w13 : i = 13
              · subst w13; simp
              · simp [w1, w0, w13]
        · by_cases w71 : a = 71
          · subst w71; simp
          · simp [w73, w72, w71]
    rw [e] at hm
    exact ⟨_, _, _, hc, hm, hI0.rf hG (by omega), Nat.le_add_right _ _, Nat.le_add_right _ _, Or.inl ⟨_, rfl⟩⟩
  · obtain ⟨T, hT, hx⟩ := x105 (X := X) (d := d) (by omega) hI.2.2.1 hfx.1 (k := gI S 74 3) s1 (by omega)
    have hr : ∀ e, r32 (tpos (gI S 81) (gI S 72 13) e) := fun e => by
      have := tpos_rng (b := gI S 81) t2 e; omega
    have hKW : KW S := ⟨hfx.2.2.2.1, hfx.2.2.2.2.1⟩
    have hKL : KL S := hfx.2.2.2.2.2.1
    have hy := fun (C : zS) (w0 : ∀ a i, gJ C a i = gJ S a i) (w2 : gI C 72 13 = gI S 72 13) (w3 : gI C 81 = gI S 81) (w4 : gI C 74 3 = gI S 74 3) => x200 (X := X) (d := d) (by omega) hT (S := C) (hKW.fr (fun a i _ => w0 a i)) (by unfold KL; rw [w0, w0, w0]; exact hKL) w2 w3 (c := gI S 74 3) w4 (by omega)
    cases hp : pTx (gI S 81) (gI S 72 13) 0 with
    | inl e =>
      rw [hp] at hx hy
      obtain ⟨S', g1, g2⟩ := hx
      have c1 : ∀ a i, ¬ (37 ≤ a ∧ a ≤ 55) → ¬ (a = 35 ∧ i = 1) → a ≠ 4 → a ≠ 71 → gI (cR (sI S' 4 17 (tpos (gI S 81) (gI S 72 13) e)) (-6)) a i = gI S a i := fun a i q1 q2 q3 q4 => by
        rw [cR_I q3 q4, gI_sI, if_neg (by omega), g2.2.1 a i q1, gI_sI, if_neg q2]
      obtain ⟨Z, z1, z2, z3, z4⟩ := hy (cR (sI S' 4 17 (tpos (gI S 81) (gI S 72 13) e)) (-6)) (fun a i => g2.2.2.1 a i) (c1 _ _ (by omega) (by omega) (by omega) (by omega)) (funext fun i => c1 _ _ (by omega) (by omega) (by omega) (by omega)) (c1 _ _ (by omega) (by omega) (by omega) (by omega))
      obtain ⟨v1, v2⟩ := law_bad h2 hI g2 (hr e) z2 z3.2 z4
      exact pair_ok _ _ g1 z1 v1 v2
    | inr y =>
      obtain ⟨cls, p⟩ := y
      rw [hp] at hx hy
      obtain ⟨S', m, g, h, g1, g2, g3, g4, g5, g6, g7⟩ := hx
      have hN := hfx.1
      have eN : gN (sI (sI S 35 1 0) 4 17 (-1)) = gN S := rfl
      have c1 : ∀ b i, b < 114 → ¬ (37 ≤ b ∧ b ≤ 55) → ¬ (b = 35 ∧ i = 1) → b ≠ 4 → ¬ (b = 5 ∧ i = 9) → gI (sI (sI (sQ S' 11 (gI S 74 3) (some (gN S))) 5 9 (gI S 74 3 + 1)) 4 16 0) b i = gI S b i := fun b i q0 q1 q2 q3 q4 => by
        (repeat (first | rw [gI_sI, if_neg (by omega)] | rw [gI_sF, if_neg (by omega)] | rw [gI_sJ] | rw [gI_sG] | rw [gI_sQ])); rw [g7.2.2.1 b (by omega) q1 i, gI_sI, if_neg (by omega), gI_sI, if_neg q2]
      obtain ⟨Z, kc, z1, z2, z3, z4, z5, z6, z7, z8⟩ := hy (sI (sI (sQ S' 11 (gI S 74 3) (some (gN S))) 5 9 (gI S 74 3 + 1)) 4 16 0) (fun a i => g7.2.2.2.2.1 a i) (c1 _ _ (by omega) (by omega) (by omega) (by omega) (by omega)) (funext fun i => c1 _ _ (by omega) (by omega) (by omega) (by omega) (by omega)) (c1 _ _ (by omega) (by omega) (by omega) (by omega) (by omega))
      obtain ⟨v1, v2, v3⟩ := law_ok h2 hI rfl (by omega) g7 g2 g3 g4 ⟨g5, pTx_k hp⟩ g6 z2 z8 z7 z4 z6
      exact ⟨_, _, _, g1, z1, v1, by omega, by omega, Or.inl ⟨_, rfl⟩⟩
