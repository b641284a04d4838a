/-! metre: both sides, and in pairs -/
/-- readText of a metre: what comes of it -/
theorem x29 {X : zX} {d : Nat} (hd : 80 ≤ d) {b : Int → Int} {n : Int} {T : Nat} (hn : 0 ≤ n ∧ n ≤ 400) {S : zS} (h : AlT S b n T 0) (hN : 114 ≤ gN S) : match pM (tc b n) (tv b n) 8 0 with
  | .inl e => ∃ S' : zS, z_ev X d (z_entry 29 [.ref 41, .ref 37] (mk S)) = some (some .null, mk S') ∧ gI S' 37 5 = tpos b n e ∧ FrCl S S'
  | .inr (ops, t1) => if tc b n t1 = 301 then ∃ x : T3, Den3 ops x ∧ OK3 x ∧ (if x.2.1 ≤ 200 then (∃ S' : zS, z_ev X d (z_entry 29 [.ref 41, .ref 37] (mk S)) = some (some (.ref (gN S)), mk S') ∧ gI S' 37 5 = -1 ∧ MetC S' (gN S) x ∧ FrCN S S' 4 1206) else (∃ S' : zS, z_ev X d (z_entry 29 [.ref 41, .ref 37] (mk S)) = some (some .null, mk S') ∧ gI S' 37 5 = tpos b n t1 ∧ FrCl S S')) else (∃ S' : zS, z_ev X d (z_entry 29 [.ref 41, .ref 37] (mk S)) = some (some .null, mk S') ∧ gI S' 37 5 = tpos b n t1 ∧ FrCl S S') := by
  have e0 : z_ev X d (z_entry 29 [.ref 41, .ref 37] (mk S)) = z_ev X d (29, 0, [some (.ref 41), some (.ref 37), none, none], [], mk S) := rfl
  have hA := metre_all (X := X) (T := T) hn (b := b) 8 (d - 1) (by omega) (by omega) S 0 401 h (Or.inr rfl)
  rw [show (8 : Int) - ((8 : Nat) : Int) = 0 from rfl] at hA
  cases hp : pM (tc b n) (tv b n) 8 0 with
  | inl e =>
    rw [hp] at hA
    obtain ⟨S1, t', st, a1, a2, a3, a4, a5⟩ := hA
    have k30 : ∀ {cm cp : Nat} {L : zL} {s : List Value}, z_evc X d 30 [.ref 41, .ref 37, .int (Int32.ofInt 401), .int (Int32.ofInt 0)] (cm, cp, L, s, mk S) = z_ev X d (cm, cp, L, .int (Int32.ofInt st) :: s, mk S1) := fun {cm cp L s} => z_evc_of (r := (some (.int (Int32.ofInt st)), mk S1)) (ck := (cm, cp, L, s, mk S)) (show d - 1 < d by omega) a1
    have hf1 : gI S1 37 5 ≠ -1 := by rw [a4.2.1]; exact a4.2.2
    have hne : ¬ (gI S1 37 5 = -1) := hf1
    refine ⟨S1, ?_, a4.2.1, a5.cl⟩
    rw [e0]
    by_cases q : st ≤ 200
    · simp (disch := first | omega | assumption | exact b01_rng _ | exact st_5 | exact st_12 | exact st_19 | (simp only [isSt_sI, isSt_sJ, isSt_sF, isSt_sG, isSt_sA]; assumption)) only [↓B29_0, ↓B29_9, ↓B29_17, ↓B29_24, ↓B29_28, ↓B29_36, ↓a_47, ↓a_48, ↓a_49, ↓a_50, ↓a_51, ↓n_47, ↓n_48, ↓n_49, ↓n_50, ↓n_51, ↓o_37, ↓o_41, ↓r_37_5, ↓r_41_10, ↓r_41_5, ↓r_41_6, ↓r_41_7, ↓r_41_8, ↓r_41_9, ↓s_47, ↓s_48, ↓s_49, ↓s_50, ↓s_51, ↓w_41_10, k30, c94a, c92a, i_lit, i_add, i_sub, i_mul, i_neg, i_lt, i_le, i_eq, i32_gI, i64_gJ, i32_id, i32_to, i64_to, sI_i32, sJ_i64, b01_t, b01_f, i32_b01, b01_0, ↓a_s0, ↓n_s0, ↓a_s1, ↓n_s1, Int.add_zero, t_lt, f_lt, t_le, f_le, t_eq, f_eq, true_and, and_true, false_and, and_false, and_self, ↓reduceIte, z_bool_of, or_true, true_or, or_false, false_or, Int.neg_neg, not_true_eq_false, not_false_eq_true, lg_lt, lg_le, lg_gt, lg_ge, lg_eq, j_lit, j_add, j_sub, j_mul, j_neg, j_eq, i64_id, ij, ji, z_rt, Nat.reduceEqDiff, Nat.reduceAdd, Int.reduceAdd, Int.reduceSub, Int.reduceMul, Int.reduceNeg, Int.reduceLT, Int.reduceLE, Int.reduceEq, hne]
    · simp (disch := first | omega | assumption | exact b01_rng _ | exact st_5 | exact st_12 | exact st_19 | (simp only [isSt_sI, isSt_sJ, isSt_sF, isSt_sG, isSt_sA]; assumption)) only [↓B29_0, ↓B29_9, ↓B29_17, ↓B29_24, ↓B29_28, ↓B29_36, ↓a_47, ↓a_48, ↓a_49, ↓a_50, ↓a_51, ↓n_47, ↓n_48, ↓n_49, ↓n_50, ↓n_51, ↓o_37, ↓o_41, ↓r_37_5, ↓r_41_10, ↓r_41_5, ↓r_41_6, ↓r_41_7, ↓r_41_8, ↓r_41_9, ↓s_47, ↓s_48, ↓s_49, ↓s_50, ↓s_51, ↓w_41_10, k30, c94a, c92a, i_lit, i_add, i_sub, i_mul, i_neg, i_lt, i_le, i_eq, i32_gI, i64_gJ, i32_id, i32_to, i64_to, sI_i32, sJ_i64, b01_t, b01_f, i32_b01, b01_0, ↓a_s0, ↓n_s0, ↓a_s1, ↓n_s1, Int.add_zero, t_lt, f_lt, t_le, f_le, t_eq, f_eq, true_and, and_true, false_and, and_false, and_self, ↓reduceIte, z_bool_of, or_true, true_or, or_false, false_or, Int.neg_neg, not_true_eq_false, not_false_eq_true, lg_lt, lg_le, lg_gt, lg_ge, lg_eq, j_lit, j_add, j_sub, j_mul, j_neg, j_eq, i64_id, ij, ji, z_rt, Nat.reduceEqDiff, Nat.reduceAdd, Int.reduceAdd, Int.reduceSub, Int.reduceMul, Int.reduceNeg, Int.reduceLT, Int.reduceLE, Int.reduceEq, hne]
  | inr p =>
    obtain ⟨ops, t1⟩ := p
    rw [hp] at hA
    obtain ⟨S1, x, b1, b2, b3, a1, a2, a3, a4⟩ := hA
    have k30 : ∀ {cm cp : Nat} {L : zL} {s : List Value}, z_evc X d 30 [.ref 41, .ref 37, .int (Int32.ofInt 401), .int (Int32.ofInt 0)] (cm, cp, L, s, mk S) = z_ev X d (cm, cp, L, .int (Int32.ofInt (min 201 x.2.1)) :: s, mk S1) := fun {cm cp L s} => z_evc_of (r := (some (.int (Int32.ofInt (min 201 x.2.1))), mk S1)) (ck := (cm, cp, L, s, mk S)) (show d - 1 < d by omega) a1
    have hD := a2.die hn
    have hne : ¬ (gI (sI S1 37 5 (tpos b n t1)) 37 5 = -1) := by rw [hD.2.1]; exact hD.2.2
    have hfr : FrCl S (sI S1 37 5 (tpos b n t1)) := a3.1.cl.tr (FrCl.I (by omega))
    simp only []
    by_cases q : tc b n t1 = 301
    · rw [if_pos q]
      refine ⟨x, b1, b2, ?_⟩
      have k94 := fun {cm cp : Nat} {L : zL} {s : List Value} => c94d (X := X) (d := d) (S := S1) (by omega) b n T t1 a2.1 a2.2 q (cm := cm) (cp := cp) (L := L) (st := s)
      by_cases q2 : x.2.1 ≤ 200
      · rw [if_pos q2]
        have hmin : min 201 (x.2.1 : Int) = x.2.1 := by omega
        have h10 : gI (sI S1 41 10 0) 41 10 = 0 := by simp (disch := first | omega | assumption | exact b01_rng _ | exact st_5 | exact st_12 | exact st_19 | (simp only [isSt_sI, isSt_sJ, isSt_sF, isSt_sG, isSt_sA]; assumption)) only [gI_sI, i_lit, i_add, i_sub, i_mul, i_neg, i_lt, i_le, i_eq, i32_gI, i64_gJ, i32_id, i32_to, i64_to, sI_i32, sJ_i64, b01_t, b01_f, i32_b01, b01_0, ↓a_s0, ↓n_s0, ↓a_s1, ↓n_s1, Int.add_zero, t_lt, f_lt, t_le, f_le, t_eq, f_eq, true_and, and_true, false_and, and_false, and_self, ↓reduceIte, z_bool_of, or_true, true_or, or_false, false_or, Int.neg_neg, not_true_eq_false, not_false_eq_true, lg_lt, lg_le, lg_gt, lg_ge, lg_eq, j_lit, j_add, j_sub, j_mul, j_neg, j_eq, i64_id, ij, ji, z_rt, Nat.reduceEqDiff, Nat.reduceAdd, Int.reduceAdd, Int.reduceSub, Int.reduceMul, Int.reduceNeg, Int.reduceLT, Int.reduceLE, Int.reduceEq]
        have k37 := fun {cm cp : Nat} {L : zL} {s : List Value} => c37a (X := X) (d := d) (S := sI S1 41 10 0) (by omega) h10 (cm := cm) (cp := cp) (L := L) (st := s)
        have hG : G (nodeS (sI S1 41 10 0) 0 0 (-1) (-1) 0 0) 1 (fun _ => lnil) := by
          unfold nodeS
          refine ⟨by simp (disch := first | omega | assumption | exact b01_rng _ | exact st_5 | exact st_12 | exact st_19 | (simp only [isSt_sI, isSt_sJ, isSt_sF, isSt_sG, isSt_sA]; assumption)) only [gI_sI, i_lit, i_add, i_sub, i_mul, i_neg, i_lt, i_le, i_eq, i32_gI, i64_gJ, i32_id, i32_to, i64_to, sI_i32, sJ_i64, b01_t, b01_f, i32_b01, b01_0, ↓a_s0, ↓n_s0, ↓a_s1, ↓n_s1, Int.add_zero, t_lt, f_lt, t_le, f_le, t_eq, f_eq, true_and, and_true, false_and, and_false, and_self, ↓reduceIte, z_bool_of, or_true, true_or, or_false, false_or, Int.neg_neg, not_true_eq_false, not_false_eq_true, lg_lt, lg_le, lg_gt, lg_ge, lg_eq, j_lit, j_add, j_sub, j_mul, j_neg, j_eq, i64_id, ij, ji, z_rt, Nat.reduceEqDiff, Nat.reduceAdd, Int.reduceAdd, Int.reduceSub, Int.reduceMul, Int.reduceNeg, Int.reduceLT, Int.reduceLE, Int.reduceEq, Int.zero_add], by omega, by omega, fun j hj => ?_, fun j hj => ?_⟩
          · have : j = 0 := by omega
            subst this
            exact Or.inl ⟨rfl, by simp (disch := first | omega | assumption | exact b01_rng _ | exact st_5 | exact st_12 | exact st_19 | (simp only [isSt_sI, isSt_sJ, isSt_sF, isSt_sG, isSt_sA]; assumption)) only [gI_sI, i_lit, i_add, i_sub, i_mul, i_neg, i_lt, i_le, i_eq, i32_gI, i64_gJ, i32_id, i32_to, i64_to, sI_i32, sJ_i64, b01_t, b01_f, i32_b01, b01_0, ↓a_s0, ↓n_s0, ↓a_s1, ↓n_s1, Int.add_zero, t_lt, f_lt, t_le, f_le, t_eq, f_eq, true_and, and_true, false_and, and_false, and_self, ↓reduceIte, z_bool_of, or_true, true_or, or_false, false_or, Int.neg_neg, not_true_eq_false, not_false_eq_true, lg_lt, lg_le, lg_gt, lg_ge, lg_eq, j_lit, j_add, j_sub, j_mul, j_neg, j_eq, i64_id, ij, ji, z_rt, Nat.reduceEqDiff, Nat.reduceAdd, Int.reduceAdd, Int.reduceSub, Int.reduceMul, Int.reduceNeg, Int.reduceLT, Int.reduceLE, Int.reduceEq, Int.natCast_zero, Int.ofNat_zero], rfl⟩
          · have : j = 0 := by omega
            subst this
            have e1 : gI (sI (sI (sI (sI (sI (sI (sI S1 41 10 0) 47 0 0) 48 0 (-1)) 49 0 (-1)) 50 0 0) 51 0 0) 41 10 (0 + 1)) 50 ((0 : Nat) : Int) = 0 := by simp (disch := first | omega | assumption | exact b01_rng _ | exact st_5 | exact st_12 | exact st_19 | (simp only [isSt_sI, isSt_sJ, isSt_sF, isSt_sG, isSt_sA]; assumption)) only [gI_sI, i_lit, i_add, i_sub, i_mul, i_neg, i_lt, i_le, i_eq, i32_gI, i64_gJ, i32_id, i32_to, i64_to, sI_i32, sJ_i64, b01_t, b01_f, i32_b01, b01_0, ↓a_s0, ↓n_s0, ↓a_s1, ↓n_s1, Int.add_zero, t_lt, f_lt, t_le, f_le, t_eq, f_eq, true_and, and_true, false_and, and_false, and_self, ↓reduceIte, z_bool_of, or_true, true_or, or_false, false_or, Int.neg_neg, not_true_eq_false, not_false_eq_true, lg_lt, lg_le, lg_gt, lg_ge, lg_eq, j_lit, j_add, j_sub, j_mul, j_neg, j_eq, i64_id, ij, ji, z_rt, Nat.reduceEqDiff, Nat.reduceAdd, Int.reduceAdd, Int.reduceSub, Int.reduceMul, Int.reduceNeg, Int.reduceLT, Int.reduceLE, Int.reduceEq, Int.natCast_zero, Int.ofNat_zero]
            have e2 : gI (sI (sI (sI (sI (sI (sI (sI S1 41 10 0) 47 0 0) 48 0 (-1)) 49 0 (-1)) 50 0 0) 51 0 0) 41 10 (0 + 1)) 51 ((0 : Nat) : Int) = 0 := by simp (disch := first | omega | assumption | exact b01_rng _ | exact st_5 | exact st_12 | exact st_19 | (simp only [isSt_sI, isSt_sJ, isSt_sF, isSt_sG, isSt_sA]; assumption)) only [gI_sI, i_lit, i_add, i_sub, i_mul, i_neg, i_lt, i_le, i_eq, i32_gI, i64_gJ, i32_id, i32_to, i64_to, sI_i32, sJ_i64, b01_t, b01_f, i32_b01, b01_0, ↓a_s0, ↓n_s0, ↓a_s1, ↓n_s1, Int.add_zero, t_lt, f_lt, t_le, f_le, t_eq, f_eq, true_and, and_true, false_and, and_false, and_self, ↓reduceIte, z_bool_of, or_true, true_or, or_false, false_or, Int.neg_neg, not_true_eq_false, not_false_eq_true, lg_lt, lg_le, lg_gt, lg_ge, lg_eq, j_lit, j_add, j_sub, j_mul, j_neg, j_eq, i64_id, ij, ji, z_rt, Nat.reduceEqDiff, Nat.reduceAdd, Int.reduceAdd, Int.reduceSub, Int.reduceMul, Int.reduceNeg, Int.reduceLT, Int.reduceLE, Int.reduceEq, Int.natCast_zero, Int.ofNat_zero]
            rw [e1, e2]
            exact ⟨LMin.nil, LMax.nil, by omega, by omega, by omega, by omega⟩
        have hFN : FrW S1 (nodeS (sI S1 41 10 0) 0 0 (-1) (-1) 0 0) := by
          have h1 : FrW S1 (sI S1 41 10 0) := ⟨Dyn.sI (by omega) Dyn.rf, fun b j q1 q2 => by rw [gI_sI, if_neg (by omega)], fun _ _ => rfl, fun _ _ => rfl⟩
          exact h1.tr FrW.node
        obtain ⟨S2, m, F, c1, c2, c3, c4, c5, c6, c7⟩ := a4 (d - 1) (nodeS (sI S1 41 10 0) 0 0 (-1) (-1) 0 0) 1 (fun _ => lnil) 0 (by omega) (fun a i w1 w2 w3 w4 => hFN.2.1 a i (by omega) (by omega)) (hFN.2.1 _ _ (by omega) (by omega)) (a2.1.1.wr hFN) hG (by omega) (by omega)
        rw [lcat_nil] at c6
        have k35 : ∀ {cm cp : Nat} {L : zL} {s : List Value}, z_evc X d 35 [.ref 41, .ref 37, .int (Int32.ofInt 401), .int (Int32.ofInt 0), .int (Int32.ofInt 0)] (cm, cp, L, s, mk (nodeS (sI S1 41 10 0) 0 0 (-1) (-1) 0 0)) = z_ev X d (cm, cp, L, .int (Int32.ofInt ((m : Int) - 1)) :: s, mk S2) := fun {cm cp L s} => z_evc_of (r := (some (.int (Int32.ofInt ((m : Int) - 1))), mk S2)) (ck := (cm, cp, L, s, mk (nodeS (sI S1 41 10 0) 0 0 (-1) (-1) 0 0))) (show d - 1 < d by omega) c1
        have hFa : FrCl S S2 := a3.1.cl.tr (hFN.tr c7).cl
        have hN2 : gN S2 = gN S := hFa.1.2.1
        obtain ⟨S3, d1, d2, d3, d4⟩ := x29c (X := X) (d := d) (st := (x.2.1 : Int)) (by omega) (S := S2) (by omega) c2 c6 rfl q2
        rw [hN2] at d1 d2 d4
        refine ⟨S3, ?_, ?_, d2, ⟨by rw [d3.1, hN2], by have := d3.2.1; rw [hFa.1.2.2] at this; exact this, fun b hb w i => by rw [d3.2.2.1 b (by omega) w i]; exact hFa.2.1 b i w, fun b hb => ⟨fun i => by rw [(d3.2.2.2.1 b (by omega)).1 i]; exact hFa.2.2.2 b i, fun w => by rw [(d3.2.2.2.1 b (by omega)).2 w]; exact (hFa.1.1 b w).2.2⟩, fun b i => by rw [d3.2.2.2.2.1]; exact hFa.2.2.1 b i, fun b hb => ?_⟩⟩
        · have h5 := a2.2
          rw [e0]
          simp (disch := first | omega | assumption | exact b01_rng _ | exact st_5 | exact st_12 | exact st_19 | (simp only [isSt_sI, isSt_sJ, isSt_sF, isSt_sG, isSt_sA]; assumption)) only [↓B29_0, ↓B29_9, ↓B29_17, ↓B29_28, ↓B29_38, ↓B29_55, ↓a_47, ↓a_48, ↓a_49, ↓a_50, ↓a_51, ↓n_47, ↓n_48, ↓n_49, ↓n_50, ↓n_51, ↓o_37, ↓o_41, ↓r_37_5, ↓r_41_10, ↓r_41_5, ↓r_41_6, ↓r_41_7, ↓r_41_8, ↓r_41_9, ↓s_47, ↓s_48, ↓s_49, ↓s_50, ↓s_51, ↓w_41_10, k30, k94, k37, k35, i_lit, i_add, i_sub, i_mul, i_neg, i_lt, i_le, i_eq, i32_gI, i64_gJ, i32_id, i32_to, i64_to, sI_i32, sJ_i64, b01_t, b01_f, i32_b01, b01_0, ↓a_s0, ↓n_s0, ↓a_s1, ↓n_s1, Int.add_zero, t_lt, f_lt, t_le, f_le, t_eq, f_eq, true_and, and_true, false_and, and_false, and_self, ↓reduceIte, z_bool_of, or_true, true_or, or_false, false_or, Int.neg_neg, not_true_eq_false, not_false_eq_true, lg_lt, lg_le, lg_gt, lg_ge, lg_eq, j_lit, j_add, j_sub, j_mul, j_neg, j_eq, i64_id, ij, ji, z_rt, Nat.reduceEqDiff, Nat.reduceAdd, Int.reduceAdd, Int.reduceSub, Int.reduceMul, Int.reduceNeg, Int.reduceLT, Int.reduceLE, Int.reduceEq, hmin, h5]
          rw [d1]
        · rw [d4 37 (by omega), (hFN.tr c7).2.1 37 5 (by omega) (by omega)]; exact a2.2
        · rw [d3.2.2.2.2.2 b (by omega)]; exact (hFa.1.1 b (by omega)).2.2
      · rw [if_neg q2]
        have hmin : min 201 (x.2.1 : Int) = 201 := by omega
        have k92 := fun {cm cp : Nat} {L : zL} {s : List Value} => c92b (X := X) (d := d) (S := S1) (by omega) b n T t1 a2.1 a2.2 hn (cm := cm) (cp := cp) (L := L) (st := s)
        refine ⟨sI S1 37 5 (tpos b n t1), ?_, hD.2.1, hfr⟩
        rw [e0]
        simp (disch := first | omega | assumption | exact b01_rng _ | exact st_5 | exact st_12 | exact st_19 | (simp only [isSt_sI, isSt_sJ, isSt_sF, isSt_sG, isSt_sA]; assumption)) only [↓B29_0, ↓B29_9, ↓B29_17, ↓B29_24, ↓B29_28, ↓B29_36, ↓a_47, ↓a_48, ↓a_49, ↓a_50, ↓a_51, ↓n_47, ↓n_48, ↓n_49, ↓n_50, ↓n_51, ↓o_37, ↓o_41, ↓r_37_5, ↓r_41_10, ↓r_41_5, ↓r_41_6, ↓r_41_7, ↓r_41_8, ↓r_41_9, ↓s_47, ↓s_48, ↓s_49, ↓s_50, ↓s_51, ↓w_41_10, k30, k94, k92, i_lit, i_add, i_sub, i_mul, i_neg, i_lt, i_le, i_eq, i32_gI, i64_gJ, i32_id, i32_to, i64_to, sI_i32, sJ_i64, b01_t, b01_f, i32_b01, b01_0, ↓a_s0, ↓n_s0, ↓a_s1, ↓n_s1, Int.add_zero, t_lt, f_lt, t_le, f_le, t_eq, f_eq, true_and, and_true, false_and, and_false, and_self, ↓reduceIte, z_bool_of, or_true, true_or, or_false, false_or, Int.neg_neg, not_true_eq_false, not_false_eq_true, lg_lt, lg_le, lg_gt, lg_ge, lg_eq, j_lit, j_add, j_sub, j_mul, j_neg, j_eq, i64_id, ij, ji, z_rt, Nat.reduceEqDiff, Nat.reduceAdd, Int.reduceAdd, Int.reduceSub, Int.reduceMul, Int.reduceNeg, Int.reduceLT, Int.reduceLE, Int.reduceEq, hmin, hne]
    · rw [if_neg q]
      have hr : r32 (tc b n t1) := a2.1.1.rg a2.1.2.2
      have k94 := fun {cm cp : Nat} {L : zL} {s : List Value} => c94b (X := X) (d := d) (S := S1) (by omega) b n T t1 301 a2.1 a2.2 hn (by omega) q (cm := cm) (cp := cp) (L := L) (st := s)
      refine ⟨sI S1 37 5 (tpos b n t1), ?_, hD.2.1, hfr⟩
      have hf1 : gI (sI S1 37 5 (tpos b n t1)) 37 5 ≠ -1 := hne
      rw [e0]
      by_cases q3 : min 201 (x.2.1 : Int) ≤ 200
      · simp (disch := first | omega | assumption | exact b01_rng _ | exact st_5 | exact st_12 | exact st_19 | (simp only [isSt_sI, isSt_sJ, isSt_sF, isSt_sG, isSt_sA]; assumption)) only [↓B29_0, ↓B29_9, ↓B29_17, ↓B29_24, ↓B29_28, ↓B29_36, ↓a_47, ↓a_48, ↓a_49, ↓a_50, ↓a_51, ↓n_47, ↓n_48, ↓n_49, ↓n_50, ↓n_51, ↓o_37, ↓o_41, ↓r_37_5, ↓r_41_10, ↓r_41_5, ↓r_41_6, ↓r_41_7, ↓r_41_8, ↓r_41_9, ↓s_47, ↓s_48, ↓s_49, ↓s_50, ↓s_51, ↓w_41_10, k30, k94, c92a, i_lit, i_add, i_sub, i_mul, i_neg, i_lt, i_le, i_eq, i32_gI, i64_gJ, i32_id, i32_to, i64_to, sI_i32, sJ_i64, b01_t, b01_f, i32_b01, b01_0, ↓a_s0, ↓n_s0, ↓a_s1, ↓n_s1, Int.add_zero, t_lt, f_lt, t_le, f_le, t_eq, f_eq, true_and, and_true, false_and, and_false, and_self, ↓reduceIte, z_bool_of, or_true, true_or, or_false, false_or, Int.neg_neg, not_true_eq_false, not_false_eq_true, lg_lt, lg_le, lg_gt, lg_ge, lg_eq, j_lit, j_add, j_sub, j_mul, j_neg, j_eq, i64_id, ij, ji, z_rt, Nat.reduceEqDiff, Nat.reduceAdd, Int.reduceAdd, Int.reduceSub, Int.reduceMul, Int.reduceNeg, Int.reduceLT, Int.reduceLE, Int.reduceEq, hne]
      · simp (disch := first | omega | assumption | exact b01_rng _ | exact st_5 | exact st_12 | exact st_19 | (simp only [isSt_sI, isSt_sJ, isSt_sF, isSt_sG, isSt_sA]; assumption)) only [↓B29_0, ↓B29_9, ↓B29_17, ↓B29_24, ↓B29_28, ↓B29_36, ↓a_47, ↓a_48, ↓a_49, ↓a_50, ↓a_51, ↓n_47, ↓n_48, ↓n_49, ↓n_50, ↓n_51, ↓o_37, ↓o_41, ↓r_37_5, ↓r_41_10, ↓r_41_5, ↓r_41_6, ↓r_41_7, ↓r_41_8, ↓r_41_9, ↓s_47, ↓s_48, ↓s_49, ↓s_50, ↓s_51, ↓w_41_10, k30, k94, c92a, i_lit, i_add, i_sub, i_mul, i_neg, i_lt, i_le, i_eq, i32_gI, i64_gJ, i32_id, i32_to, i64_to, sI_i32, sJ_i64, b01_t, b01_f, i32_b01, b01_0, ↓a_s0, ↓n_s0, ↓a_s1, ↓n_s1, Int.add_zero, t_lt, f_lt, t_le, f_le, t_eq, f_eq, true_and, and_true, false_and, and_false, and_self, ↓reduceIte, z_bool_of, or_true, true_or, or_false, false_or, Int.neg_neg, not_true_eq_false, not_false_eq_true, lg_lt, lg_le, lg_gt, lg_ge, lg_eq, j_lit, j_add, j_sub, j_mul, j_neg, j_eq, i64_id, ij, ji, z_rt, Nat.reduceEqDiff, Nat.reduceAdd, Int.reduceAdd, Int.reduceSub, Int.reduceMul, Int.reduceNeg, Int.reduceLT, Int.reduceLE, Int.reduceEq, hne]
/-- addMetre -/
theorem e75 {X : zX} {d : Nat} (hd : 0 ≤ d) {S : zS} (k : Int) (a : Nat) (h8 : gI S 5 8 = k) (hk : 0 ≤ k ∧ k < 6) (ha : 114 ≤ a) (hH : gH S a = some (.inl 3)) : z_ev X d (z_entry 75 [.ref 5, .ref a] (mk S)) = some (none, mk (sI (sQ S 10 k (some a)) 5 8 (k + 1))) := by
  show z_ev X d (75, 0, [some (.ref 5), some (.ref a)], [], mk S) = _
  have hz : zdes S a = some (.inl (z_elem 3, [2, 2, 2, 0, 0, 0])) := met_dyn ha hH
  have hq := fun {ρ : Type} {i : Int32} {k : zM → Option ρ} => G_qst (ρ := ρ) (S := S) (a := 10) (i := i) (k := k) (t := 3) (n := 6) (by decide) (by decide) rfl hz
  simp (disch := first | omega | assumption | exact b01_rng _ | exact st_5 | exact st_12 | exact st_19 | (simp only [isSt_sI, isSt_sJ, isSt_sF, isSt_sG, isSt_sA]; assumption)) only [↓B75_0, ↓B75_7, ↓B75_19, ↓B75_39, ↓r_5_8, ↓r_5_4, ↓n_10, ↓w_5_8, i_lit, i_add, i_sub, i_mul, i_neg, i_lt, i_le, i_eq, i32_gI, i64_gJ, i32_id, i32_to, i64_to, sI_i32, sJ_i64, b01_t, b01_f, i32_b01, b01_0, ↓a_s0, ↓n_s0, ↓a_s1, ↓n_s1, Int.add_zero, t_lt, f_lt, t_le, f_le, t_eq, f_eq, true_and, and_true, false_and, and_false, and_self, ↓reduceIte, z_bool_of, or_true, true_or, or_false, false_or, Int.neg_neg, not_true_eq_false, not_false_eq_true, lg_lt, lg_le, lg_gt, lg_ge, lg_eq, j_lit, j_add, j_sub, j_mul, j_neg, j_eq, i64_id, ij, ji, z_rt, Nat.reduceEqDiff, Nat.reduceAdd, Int.reduceAdd, Int.reduceSub, Int.reduceMul, Int.reduceNeg, Int.reduceLT, Int.reduceLE, Int.reduceEq, h8, ↓hq, gI_sQ]
theorem c75 {X : zX} {d : Nat} (hd : 0 < d) {S : zS} (k : Int) (a : Nat) (h8 : gI S 5 8 = k) (hk : 0 ≤ k ∧ k < 6) (ha : 114 ≤ a) (hH : gH S a = some (.inl 3)) {cm cp : Nat} {L : zL} {st : List Value} : z_evc X d 75 [.ref 5, .ref a] (cm, cp, L, st, mk S) = z_ev X d (cm, cp, L, st, mk (sI (sQ S 10 k (some a)) 5 8 (k + 1))) := z_evc_of (r := (none, mk (sI (sQ S 10 k (some a)) 5 8 (k + 1)))) (ck := (cm, cp, L, st, mk S)) hd (e75 (X := X) (Nat.le_refl _) k a h8 hk ha hH)
/-- the class's metre(): no room -/
theorem e104a {X : zX} {d : Nat} (hd : 2 ≤ d) {S : zS} (h8 : gI S 5 8 = 6) : z_ev X d (z_entry 104 [.ref 4] (mk S)) = some (some (.int (Int32.ofInt (-5))), mk (cR (sI S 35 1 0) (-5))) := by
  show z_ev X d (104, 0, [some (.ref 4), none], [], mk S) = _
  simp (disch := first | omega | assumption | exact b01_rng _ | exact st_5 | exact st_12 | exact st_19 | (simp only [isSt_sI, isSt_sJ, isSt_sF, isSt_sG, isSt_sA]; assumption)) only [↓B104_0, ↓B104_12, ↓B104_26, ↓o_19, ↓o_37, ↓o_4, ↓o_41, ↓o_5, ↓r_19_8, ↓r_37_5, ↓r_4_0, ↓r_4_6, ↓r_4_7, ↓r_4_8, ↓r_5_8, ↓w_35_1, ↓w_4_17, i_lit, i_add, i_sub, i_mul, i_neg, i_lt, i_le, i_eq, i32_gI, i64_gJ, i32_id, i32_to, i64_to, sI_i32, sJ_i64, b01_t, b01_f, i32_b01, b01_0, ↓a_s0, ↓n_s0, ↓a_s1, ↓n_s1, Int.add_zero, t_lt, f_lt, t_le, f_le, t_eq, f_eq, true_and, and_true, false_and, and_false, and_self, ↓reduceIte, z_bool_of, or_true, true_or, or_false, false_or, Int.neg_neg, not_true_eq_false, not_false_eq_true, lg_lt, lg_le, lg_gt, lg_ge, lg_eq, j_lit, j_add, j_sub, j_mul, j_neg, j_eq, i64_id, ij, ji, z_rt, Nat.reduceEqDiff, Nat.reduceAdd, Int.reduceAdd, Int.reduceSub, Int.reduceMul, Int.reduceNeg, Int.reduceLT, Int.reduceLE, Int.reduceEq, c134, h8]
theorem c104a {X : zX} {d : Nat} (hd : 2 < d) {S : zS} (h8 : gI S 5 8 = 6) {cm cp : Nat} {L : zL} {st : List Value} : z_evc X d 104 [.ref 4] (cm, cp, L, st, mk S) = z_ev X d (cm, cp, L, .int (Int32.ofInt (-5)) :: st, mk (cR (sI S 35 1 0) (-5))) := z_evc_of (r := (some (.int (Int32.ofInt (-5))), mk (cR (sI S 35 1 0) (-5)))) (ck := (cm, cp, L, st, mk S)) hd (e104a (X := X) (Nat.le_refl _) h8)
/-- cells that lie below the next one stay: so do metres and laws -/
theorem Keep.of {P Q : zP} (h2 : Good2 P Q) {S T : zS} (hf : ∀ b : Nat, 114 ≤ b → gN S ≤ b → gH S b = none) (kD : ∀ b, 114 ≤ b → b < gN S → (∀ i, gI T b i = gI S b i) ∧ (∀ i, gQ T b i = gQ S b i) ∧ gH T b = gH S b) : Keep P Q S T := by
  have low : ∀ b x, 114 ≤ b → gH S b = some x → b < gN S := fun b x q1 q2 => by
    apply Classical.byContradiction; intro hq; rw [hf b q1 (by omega)] at q2; cases q2
  refine ⟨fun a r h => ?_, fun a r h => ?_⟩
  · obtain ⟨p1, p2, p3⟩ := h2.2.2.1 S a r h
    refine h2.1 S T a r h (fun j hj => ?_)
    by_cases q : j = 0
    · subst q; exact kD a p1 (low a _ p1 p2)
    · obtain ⟨n, hn⟩ := p3 j (by omega) hj
      exact kD (a + j) (by omega) (low _ _ (by omega) hn)
  · obtain ⟨p1, p2, p3⟩ := h2.2.2.2 S a r h
    refine h2.2.1 S T a r h (fun j hj => ?_)
    by_cases q : j = 0
    · subst q; exact kD a p1 (low a _ p1 p2)
    · obtain ⟨n, hn⟩ := p3 j (by omega) hj
      exact kD (a + j) (by omega) (low _ _ (by omega) hn)
/-- a metre: the class's object beside the reference's signs -/
def PM : zP := fun S a r => ∃ x : T3, MetC S a x ∧ OK3 x ∧ x.2.1 ≤ 200 ∧ r 0 = x.2.2.length ∧ ∀ (j : Nat) (y : Int), x.2.2[j]? = some y → r (1 + j) = y
theorem MetC.fr {S T : zS} {a : Nat} {x : T3} (h : MetC S a x) (hc : ∀ j : Nat, j < 4 → (∀ i, gI T (a + j) i = gI S (a + j) i) ∧ (∀ i, gQ T (a + j) i = gQ S (a + j) i) ∧ gH T (a + j) = gH S (a + j)) : MetC T a x := by
  obtain ⟨h1, h2, m, F, h3, ⟨h4, h5, h6⟩, ⟨h7, h8, h9⟩, h10, h11, h12, h13, h14⟩ := h
  have e0 := hc 0 (by omega)
  rw [Nat.add_zero] at e0
  obtain ⟨q0, r0, s0⟩ := e0
  obtain ⟨q1, r1, s1⟩ := hc 1 (by omega)
  obtain ⟨q2, r2, s2⟩ := hc 2 (by omega)
  obtain ⟨q3, r3, s3⟩ := hc 3 (by omega)
  exact ⟨h1, by rw [s0]; exact h2, m, F, h3, ⟨by rw [s1]; exact h4, by rw [s2]; exact h5, by rw [s3]; exact h6⟩, ⟨by rw [r0]; exact h7, by rw [r0]; exact h8, by rw [r0]; exact h9⟩, h10.fr (fun j _ => q1 j) (fun j _ => q2 j) (fun j _ => q3 j) (fun _ _ => rfl), h11, by rw [q0]; exact h12, by rw [q0]; exact h13, by rw [q0]; exact h14⟩
theorem PM.good {S : zS} {a : Nat} {r : Int → Int} (h : PM S a r) : 114 ≤ a ∧ gH S a = some (.inl 3) ∧ ∀ j : Nat, 1 ≤ j → j < 4 → ∃ n, gH S (a + j) = some (.inr (0, n)) := by
  obtain ⟨x, ⟨h1, h2, m, F, h3, ⟨h4, h5, h6⟩, -⟩, -⟩ := h
  refine ⟨h1, h2, fun j j1 j2 => ?_⟩
  rcases (show j = 1 ∨ j = 2 ∨ j = 3 by omega) with rfl | rfl | rfl
  · exact ⟨m, h4⟩
  · exact ⟨m, h5⟩
  · exact ⟨m, h6⟩
theorem PM.fr {S T : zS} {a : Nat} {r : Int → Int} (h : PM S a r) (hc : ∀ j : Nat, j < 4 → (∀ i, gI T (a + j) i = gI S (a + j) i) ∧ (∀ i, gQ T (a + j) i = gQ S (a + j) i) ∧ gH T (a + j) = gH S (a + j)) : PM T a r := by
  obtain ⟨x, h1, h2⟩ := h
  exact ⟨x, h1.fr hc, h2⟩
theorem FrT.cl {S S' : zS} (h : FrT S S') : FrCl S S' := ⟨h.1, fun a i q => h.2.1 a i (by omega) (by omega) (by omega) (by omega), h.2.2.1, h.2.2.2⟩
theorem FrCl.put {S S' : zS} (h : FrCl S S') {a : Nat} {i x : Int} (ha : a < 114) : FrCl (sI S a i x) (sI S' a i x) := by
  refine ⟨⟨fun b hb => ⟨fun j => ?_, (h.1.1 b hb).2.1, (h.1.1 b hb).2.2⟩, h.1.2⟩, fun b j q => ?_, h.2.2.1, h.2.2.2⟩
  · rw [gI_sI, if_neg (by omega), gI_sI, if_neg (by omega)]; exact (h.1.1 b hb).1 j
  · rw [gI_sI, gI_sI]; split
    · rfl
    · exact h.2.1 b j q
/-- a text is on the tape: tokens of the class -/
theorem tape_toks {X : zX} {d : Nat} (hd : 2 ≤ d) {S : zS} (hT : TpRel S) : ∃ (T : Nat) (S' : zS), z_ev X d (z_entry 84 [.ref 37, .ref 35] (mk S)) = some (none, mk S') ∧ AlT S' (gI S 81) (gI S 72 13) T 0 ∧ FrCl S S' ∧ RTape (gI S 81) (gI S 72 13) T := by
  obtain ⟨⟨t1, t2, t3⟩, t4⟩ := hT
  obtain ⟨T, S', a1, a2, a3, a4, a5⟩ := x84 (X := X) (d := d) hd (S := S) (n := gI S 72 13) t1 ⟨t2, t3⟩ (fun i q1 q2 => by rw [(t4 i q1 q2).1]; exact (t4 i q1 q2).2)
  have a2' := a2.cg (b' := gI S 81) t2 (fun j q1 q2 => (t4 j q1 q2).1)
  exact ⟨T, S', a1, ⟨⟨a2', a4, by omega⟩, a5⟩, a3.cl, ⟨⟨t2, t3⟩, fun i q1 q2 => (t4 i q1 q2).2⟩, a2'.2.1, a2'.2.2.1⟩
/-- the class's metre(): what comes of the text -/
theorem x104 {X : zX} {d : Nat} (hd : 100 ≤ d) {S : zS} (hTp : TpRel S) (hN : 114 ≤ gN S) {k : Int} (h8 : gI S 5 8 = k) (hk : 0 ≤ k ∧ k < 6) : ∃ T : Nat, RTape (gI S 81) (gI S 72 13) T ∧ match pM (tc (gI S 81) (gI S 72 13)) (tv (gI S 81) (gI S 72 13)) 8 0 with
  | .inl e => ∃ S' : zS, z_ev X d (z_entry 104 [.ref 4] (mk S)) = some (some (.int (Int32.ofInt (-6))), mk (cR (sI S' 4 17 (tpos (gI S 81) (gI S 72 13) e)) (-6))) ∧ FrCl (sI S 35 1 0) S'
  | .inr (ops, t1) => if tc (gI S 81) (gI S 72 13) t1 = 301 then ∃ x : T3, Den3 ops x ∧ OK3 x ∧ (if x.2.1 ≤ 200 then (∃ S' : zS, z_ev X d (z_entry 104 [.ref 4] (mk S)) = some (some (.int (Int32.ofInt k)), mk (sI (sI (sQ (sI S' 4 17 (-1)) 10 k (some (gN S))) 5 8 (k + 1)) 4 16 0)) ∧ MetC S' (gN S) x ∧ FrCN (sI S 35 1 0) S' 4 1206) else (∃ S' : zS, z_ev X d (z_entry 104 [.ref 4] (mk S)) = some (some (.int (Int32.ofInt (-6))), mk (cR (sI S' 4 17 (tpos (gI S 81) (gI S 72 13) t1)) (-6))) ∧ FrCl (sI S 35 1 0) S')) else (∃ S' : zS, z_ev X d (z_entry 104 [.ref 4] (mk S)) = some (some (.int (Int32.ofInt (-6))), mk (cR (sI S' 4 17 (tpos (gI S 81) (gI S 72 13) t1)) (-6))) ∧ FrCl (sI S 35 1 0) S') := by
  obtain ⟨T, S1, a1, a2, a3, a4⟩ := tape_toks (X := X) (d := d - 1) (by omega) hTp
  generalize hb : gI S 81 = b at *
  generalize hn : gI S 72 13 = n at *
  refine ⟨T, a4, ?_⟩
  have e0 : z_ev X d (z_entry 104 [.ref 4] (mk S)) = z_ev X d (104, 0, [some (.ref 4), none], [], mk S) := rfl
  have k84 : ∀ {cm cp : Nat} {L : zL} {s : List Value}, z_evc X d 84 [.ref 37, .ref 35] (cm, cp, L, s, mk S) = z_ev X d (cm, cp, L, s, mk S1) := fun {cm cp L s} => z_evc_of (r := (none, mk S1)) (ck := (cm, cp, L, s, mk S)) (show d - 1 < d by omega) a1
  have a2' : AlT (sI S1 35 1 0) b n T 0 := ⟨⟨a2.1.1.fr (fun a i q => by rw [gI_sI, if_neg (by omega)]) (by rw [gI_sI, if_neg (by omega)]), by rw [gI_sI, if_neg (by omega)]; exact a2.1.2.1, a2.1.2.2⟩, by rw [gI_sI, if_neg (by omega)]; exact a2.2⟩
  have a3' : FrCl (sI S 35 1 0) (sI S1 35 1 0) := a3.put (by omega)
  have hN1 : gN (sI S1 35 1 0) = gN S := a3.1.2.1
  have hx := x29 (X := X) (d := d - 1) (by omega) a4.1.1 a2' (by omega)
  -- a text that can't be
  have bad : ∀ (S' : zS) (f : Int), z_ev X (d - 1) (z_entry 29 [.ref 41, .ref 37] (mk (sI S1 35 1 0))) = some (some .null, mk S') → gI S' 37 5 = f → FrCl (sI S1 35 1 0) S' → ∃ S' : zS, z_ev X d (z_entry 104 [.ref 4] (mk S)) = some (some (.int (Int32.ofInt (-6))), mk (cR (sI S' 4 17 f) (-6))) ∧ FrCl (sI S 35 1 0) S' := by
    intro S' f g1 g2 g3
    refine ⟨S', ?_, a3'.tr g3⟩
    have k29 : ∀ {cm cp : Nat} {L : zL} {s : List Value}, z_evc X d 29 [.ref 41, .ref 37] (cm, cp, L, s, mk (sI S1 35 1 0)) = z_ev X d (cm, cp, L, .null :: s, mk S') := fun {cm cp L s} => z_evc_of (r := (some .null, mk S')) (ck := (cm, cp, L, s, mk (sI S1 35 1 0))) (show d - 1 < d by omega) g1
    have hr := gI_rng S' 37 5
    rw [g2] at hr
    rw [e0]
    simp (disch := first | omega | assumption | exact b01_rng _ | exact st_5 | exact st_12 | exact st_19 | (simp only [isSt_sI, isSt_sJ, isSt_sF, isSt_sG, isSt_sA]; assumption)) only [↓B104_0, ↓B104_27, ↓B104_38, ↓B104_57_ns0, ↓B104_73_nl1, ↓B104_79_nl1, ↓o_19, ↓o_37, ↓o_4, ↓o_41, ↓o_5, ↓r_19_8, ↓r_37_5, ↓r_4_0, ↓r_4_6, ↓r_4_7, ↓r_4_8, ↓r_5_8, ↓w_35_1, ↓w_4_17, i_lit, i_add, i_sub, i_mul, i_neg, i_lt, i_le, i_eq, i32_gI, i64_gJ, i32_id, i32_to, i64_to, sI_i32, sJ_i64, b01_t, b01_f, i32_b01, b01_0, ↓a_s0, ↓n_s0, ↓a_s1, ↓n_s1, Int.add_zero, t_lt, f_lt, t_le, f_le, t_eq, f_eq, true_and, and_true, false_and, and_false, and_self, ↓reduceIte, z_bool_of, or_true, true_or, or_false, false_or, Int.neg_neg, not_true_eq_false, not_false_eq_true, lg_lt, lg_le, lg_gt, lg_ge, lg_eq, j_lit, j_add, j_sub, j_mul, j_neg, j_eq, i64_id, ij, ji, z_rt, Nat.reduceEqDiff, Nat.reduceAdd, Int.reduceAdd, Int.reduceSub, Int.reduceMul, Int.reduceNeg, Int.reduceLT, Int.reduceLE, Int.reduceEq, h8, k84, k29, g2, c134]
  cases hp : pM (tc b n) (tv b n) 8 0 with
  | inl e =>
    rw [hp] at hx
    obtain ⟨S', g1, g2, g3⟩ := hx
    exact bad S' _ g1 g2 g3
  | inr p =>
    obtain ⟨ops, t1⟩ := p
    rw [hp] at hx
    simp only [] at hx ⊢
    by_cases q : tc b n t1 = 301
    · rw [if_pos q] at hx ⊢
      obtain ⟨x, x1, x2, hx⟩ := hx
      refine ⟨x, x1, x2, ?_⟩
      by_cases q2 : x.2.1 ≤ 200
      · rw [if_pos q2] at hx ⊢
        obtain ⟨S', g1, g2, g3, g4⟩ := hx
        rw [hN1] at g1 g3
        have hh : FrCN (sI S 35 1 0) S' 4 1206 := by
          obtain ⟨f1, f2, f3, f4, f5, f6⟩ := g4
          have e1 : gN (sI S 35 1 0) = gN S := rfl
          refine ⟨by rw [f1, hN1]; rfl, by have : gW (sI S1 35 1 0) = gW S := a3.1.2.2; rw [this] at f2; exact f2, fun b hb w i => by rw [f3 b (by omega) w i]; exact a3'.2.1 b i w, fun b hb => ⟨fun i => by rw [(f4 b (by omega)).1 i]; exact a3'.2.2.2 b i, fun w => by rw [(f4 b (by omega)).2 w]; exact (a3'.1.1 b w).2.2⟩, fun b i => by rw [f5]; exact a3'.2.2.1 b i, fun b hb => by rw [f6 b (by omega)]; exact (a3'.1.1 b (by omega)).2.2⟩
        refine ⟨S', ?_, g3, hh⟩
        have k29 : ∀ {cm cp : Nat} {L : zL} {s : List Value}, z_evc X d 29 [.ref 41, .ref 37] (cm, cp, L, s, mk (sI S1 35 1 0)) = z_ev X d (cm, cp, L, .ref (gN S) :: s, mk S') := fun {cm cp L s} => z_evc_of (r := (some (.ref (gN S)), mk S')) (ck := (cm, cp, L, s, mk (sI S1 35 1 0))) (show d - 1 < d by omega) g1
        have e8 : gI (sI S' 4 17 (-1)) 5 8 = k := by
          rw [gI_sI, if_neg (by omega), hh.2.2.1 5 (show 5 < gN S by omega) (by omega), gI_sI, if_neg (by omega)]; exact h8
        have k75 := fun {cm cp : Nat} {L : zL} {s : List Value} => c75 (X := X) (d := d) (S := sI S' 4 17 (-1)) (by omega) k (gN S) e8 hk hN g3.2.1 (cm := cm) (cp := cp) (L := L) (st := s)
        have e9 : gI (sI (sQ (sI S' 4 17 (-1)) 10 k (some (gN S))) 5 8 (k + 1)) 5 8 = k + 1 := by simp (disch := first | omega | assumption | exact b01_rng _ | exact st_5 | exact st_12 | exact st_19 | (simp only [isSt_sI, isSt_sJ, isSt_sF, isSt_sG, isSt_sA]; assumption)) only [gI_sI, i_lit, i_add, i_sub, i_mul, i_neg, i_lt, i_le, i_eq, i32_gI, i64_gJ, i32_id, i32_to, i64_to, sI_i32, sJ_i64, b01_t, b01_f, i32_b01, b01_0, ↓a_s0, ↓n_s0, ↓a_s1, ↓n_s1, Int.add_zero, t_lt, f_lt, t_le, f_le, t_eq, f_eq, true_and, and_true, false_and, and_false, and_self, ↓reduceIte, z_bool_of, or_true, true_or, or_false, false_or, Int.neg_neg, not_true_eq_false, not_false_eq_true, lg_lt, lg_le, lg_gt, lg_ge, lg_eq, j_lit, j_add, j_sub, j_mul, j_neg, j_eq, i64_id, ij, ji, z_rt, Nat.reduceEqDiff, Nat.reduceAdd, Int.reduceAdd, Int.reduceSub, Int.reduceMul, Int.reduceNeg, Int.reduceLT, Int.reduceLE, Int.reduceEq]
        have e10 : k + 1 - 1 = k := by omega
        rw [e0]
        simp (disch := first | omega | assumption | exact b01_rng _ | exact st_5 | exact st_12 | exact st_19 | (simp only [isSt_sI, isSt_sJ, isSt_sF, isSt_sG, isSt_sA]; assumption)) only [↓B104_0, ↓B104_27, ↓B104_38, ↓B104_57, ↓B104_80, ↓B104_88, ↓B104_101, ↓o_19, ↓o_37, ↓o_4, ↓o_41, ↓o_5, ↓r_19_8, ↓r_37_5, ↓r_4_0, ↓r_4_6, ↓r_4_7, ↓r_4_8, ↓r_5_8, ↓w_35_1, ↓w_4_17, i_lit, i_add, i_sub, i_mul, i_neg, i_lt, i_le, i_eq, i32_gI, i64_gJ, i32_id, i32_to, i64_to, sI_i32, sJ_i64, b01_t, b01_f, i32_b01, b01_0, ↓a_s0, ↓n_s0, ↓a_s1, ↓n_s1, Int.add_zero, t_lt, f_lt, t_le, f_le, t_eq, f_eq, true_and, and_true, false_and, and_false, and_self, ↓reduceIte, z_bool_of, or_true, true_or, or_false, false_or, Int.neg_neg, not_true_eq_false, not_false_eq_true, lg_lt, lg_le, lg_gt, lg_ge, lg_eq, j_lit, j_add, j_sub, j_mul, j_neg, j_eq, i64_id, ij, ji, z_rt, Nat.reduceEqDiff, Nat.reduceAdd, Int.reduceAdd, Int.reduceSub, Int.reduceMul, Int.reduceNeg, Int.reduceLT, Int.reduceLE, Int.reduceEq, h8, k84, k29, g2, k75, e9, e10, c135]
      · rw [if_neg q2] at hx ⊢
        obtain ⟨S', g1, g2, g3⟩ := hx
        exact bad S' _ g1 g2 g3
    · rw [if_neg q] at hx ⊢
      obtain ⟨S', g1, g2, g3⟩ := hx
      exact bad S' _ g1 g2 g3
