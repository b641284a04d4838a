/-! the reference: and, or, the end of a test -/
theorem z195j {X : zX} {d : Nat} (hd : 6 < d) {b : Int → Int} {n : Int} {T t : Nat} (hT : RTape b n T) {S : zS} {ord dp k K least : Int} {p : Nat × Int} {Q R : List En} (h : RX S b n T t ord p (Q ++ R) dp k) (hq : tc b n t = 266 ∧ K = 29 ∧ least = 2 ∨ tc b n t = 260 ∧ K = 30 ∧ least = 1) (h7 : ∀ y ∈ Q, least ≤ bnd y.1) (h8 : ∀ y r, R = y :: r → bnd y.1 < least) : ∃ S' : zS, (∀ {cm cp : Nat} {L : zL} {st : List Value}, z_evc X d 195 [.ref 72] (cm, cp, L, st, mk S) = z_ev X d (cm, cp, L, .int (Int32.ofInt 0) :: st, mk S')) ∧ RX S' b n T (t + 1) ord p ((K, (stl ord Q (IM ord S, k)).2) :: R) dp ((stl ord Q (IM ord S, k)).2 + 1) ∧ IM ord S' = upI (stl ord Q (IM ord S, k)).1 (stl ord Q (IM ord S, k)).2 (dM ord K 0) ∧ FrE S S' := by
  have r5 := h.2.2.2.2.1.2.2.2.2
  obtain ⟨S1, a1, a2, a3, a4, a5⟩ := z185 (X := X) (d := 6) (by omega) hT.2.2 (least := least) (by omega) h h7 h8
  have htT := tc_lt hT.2.1 (t := t) (by omega)
  have ht3 := hT.2.2
  have hea := emi_app Q R
  have hla : (Q ++ R).length = Q.length + R.length := List.length_append
  generalize hSk : (stl ord Q (IM ord S, k)).2 = k2 at *
  generalize (stl ord Q (IM ord S, k)).1 = I2 at *
  have wa : (gI S 72 16 = 1 ∧ gJ S 72 17 = 1476) = (tc b n t = 266) := h.1.w hT.1 (k := 10) rfl
  have wo : (gI S 72 16 = 1 ∧ gJ S 72 17 = 498) = (tc b n t = 260) := h.1.w hT.1 (k := 4) rfl
  obtain ⟨S4, b1, b2, b3⟩ := z176 (X := X) (d := 6) (by omega) hT.1 (emS_M (op := K) (ar := 0) (puS_M (op := K) (ar := k2) a2.1))
  obtain ⟨u1, u2, u3, u4, ⟨v1, v2, v3, v4, v5, v6⟩, u6⟩ := a2
  have w23 : gI (puS S1 K k2) 72 23 = k2 := by unfold puS; rw [gI_sI, if_neg (by omega), gI_sI, if_neg (by omega), gI_sI, if_neg (by omega)]; exact v3
  have e : ∀ (a : Nat) (i : Int), ¬ (a = 72 ∧ i = 29) → ¬ (a = 72 ∧ i = 23) → ¬ (a = 85 ∧ i = R.length) → ¬ (a = 86 ∧ i = R.length) → ¬ (a = 83 ∧ i = k2) → ¬ (a = 84 ∧ i = k2) → ¬ (a = 72 ∧ 14 ≤ i ∧ i ≤ 16) → gI S4 a i = gI S1 a i := fun a i q1 q2 q3 q4 q5 q6 q7 => by
    rw [b3.2.1 _ _ (by omega)]
    unfold emS
    rw [w23, gI_sI, if_neg (by omega), gI_sI, if_neg (by omega), gI_sI, if_neg (by omega)]
    unfold puS
    rw [v1, gI_sI, if_neg (by omega), gI_sI, if_neg (by omega), gI_sI, if_neg (by omega)]
  have hK : K = 29 ∨ K = 30 := by omega
  refine ⟨S4, fun {cm cp L st} => z_evc_of (r := (some (.int (Int32.ofInt 0)), mk S4)) (ck := (cm, cp, L, st, mk S)) hd ?_, ⟨b2, ⟨by omega, by rw [e _ _ (by omega) (by omega) (by omega) (by omega) (by omega) (by omega) (by omega)]; exact u2.2⟩, ⟨by rw [e _ _ (by omega) (by omega) (by omega) (by omega) (by omega) (by omega) (by omega)]; exact u3.1, u3.2⟩, ⟨by rw [e _ _ (by omega) (by omega) (by omega) (by omega) (by omega) (by omega) (by omega)]; exact u4.1, u4.2⟩, ⟨?_, ⟨?_, ?_, by show 20 ≤ K ∧ K ≤ 32; omega, fun w => ⟨?_, v4, by show k2 < k2 + 1; omega⟩, v2.fr (by omega) (fun i q1 q2 => ⟨e _ _ (by omega) (by omega) (by omega) (by omega) (by omega) (by omega) (by omega), e _ _ (by omega) (by omega) (by omega) (by omega) (by omega) (by omega) (by omega)⟩) (fun i q1 q2 => e _ _ (by omega) (by omega) (by omega) (by omega) (by omega) (by omega) (by omega))⟩, ?_, by omega, ?_, by rw [List.length_cons]; omega⟩, ⟨by rw [e _ _ (by omega) (by omega) (by omega) (by omega) (by omega) (by omega) (by omega)]; exact u6.1, u6.2⟩⟩, ?_, ((a4.e.tr FrE.pu).tr FrE.em).tr b3.e⟩
  · show z_ev X 6 (195, 0, [some (.ref 72), none], [], mk S) = _
    have hr29 : 0 ≤ gI S1 72 29 ∧ gI S1 72 29 < 400 := by rw [v1]; omega
    have k183 := fun {cm cp : Nat} {L : zL} {st : List Value} => c183 (X := X) (d := 6) (S := S1) (by omega) K k2 hr29 (by omega) (by omega) (cm := cm) (cp := cp) (L := L) (st := st)
    have hr23 : 0 ≤ gI (puS S1 K k2) 72 23 ∧ gI (puS S1 K k2) 72 23 < 400 := by rw [w23]; omega
    have k182 := fun {cm cp : Nat} {L : zL} {st : List Value} => c182 (X := X) (d := 6) (S := puS S1 K k2) (by omega) K 0 hr23 (by omega) (by omega) (cm := cm) (cp := cp) (L := L) (st := st)
    clear h7 h8
    rcases hq with ⟨w, rfl, rfl⟩ | ⟨w, rfl, rfl⟩
    · simp (disch := first | omega | assumption | exact b01_rng _ | exact st_5 | exact st_12 | exact st_19 | (simp only [isSt_sI, isSt_sJ, isSt_sF, isSt_sG, isSt_sA]; assumption)) only [↓B195_0, ↓B195_7, ↓B195_12, ↓B195_19, ↓B195_22, ↓B195_27, ↓B195_31, ↓B195_32, ↓B195_35, ↓B195_40, ↓B195_45, ↓B195_47, ↓B195_54, ↓B195_59, ↓B195_64, ↓B195_66, ↓B195_70, ↓B195_74, ↓B195_76, ↓B195_80, ↓B195_84, ↓B195_86, ↓B195_93, ↓B195_96, ↓B195_103, ↓B195_108, ↓B195_128, ↓o_72, ↓r_72_19, ↓r_72_23, ↓r_72_29, ↓r_72_30, ↓w_72_29, ↓w_72_30, c177, a1, k183, k182, b1, i_lit, i_add, i_sub, i_mul, i_neg, i_lt, i_le, i_eq, i32_gI, i64_gJ, i32_id, i32_to, i64_to, sI_i32, sJ_i64, b01_t, b01_f, i32_b01, b01_0, ↓a_s0, ↓n_s0, ↓a_s1, ↓n_s1, Int.add_zero, t_lt, f_lt, t_le, f_le, t_eq, f_eq, true_and, and_true, false_and, and_false, and_self, ↓reduceIte, z_bool_of, or_true, true_or, or_false, false_or, Int.neg_neg, not_true_eq_false, not_false_eq_true, lg_lt, lg_le, lg_gt, lg_ge, lg_eq, j_lit, j_add, j_sub, j_mul, j_neg, j_eq, i64_id, ij, ji, z_rt, Nat.reduceEqDiff, Nat.reduceAdd, Int.reduceAdd, Int.reduceSub, Int.reduceMul, Int.reduceNeg, Int.reduceLT, Int.reduceLE, Int.reduceEq, wa, wo, w, v3]
    · have w' : ¬ (tc b n t = 266) := by omega
      simp (disch := first | omega | assumption | exact b01_rng _ | exact st_5 | exact st_12 | exact st_19 | (simp only [isSt_sI, isSt_sJ, isSt_sF, isSt_sG, isSt_sA]; assumption)) only [↓B195_0, ↓B195_7, ↓B195_12, ↓B195_19, ↓B195_22, ↓B195_27, ↓B195_31, ↓B195_32, ↓B195_35, ↓B195_40, ↓B195_45, ↓B195_47, ↓B195_54, ↓B195_59, ↓B195_64, ↓B195_66, ↓B195_70, ↓B195_74, ↓B195_76, ↓B195_80, ↓B195_84, ↓B195_86, ↓B195_93, ↓B195_96, ↓B195_103, ↓B195_108, ↓B195_128, ↓o_72, ↓r_72_19, ↓r_72_23, ↓r_72_29, ↓r_72_30, ↓w_72_29, ↓w_72_30, c177, a1, k183, k182, b1, i_lit, i_add, i_sub, i_mul, i_neg, i_lt, i_le, i_eq, i32_gI, i64_gJ, i32_id, i32_to, i64_to, sI_i32, sJ_i64, b01_t, b01_f, i32_b01, b01_0, ↓a_s0, ↓n_s0, ↓a_s1, ↓n_s1, Int.add_zero, t_lt, f_lt, t_le, f_le, t_eq, f_eq, true_and, and_true, false_and, and_false, and_self, ↓reduceIte, z_bool_of, or_true, true_or, or_false, false_or, Int.neg_neg, not_true_eq_false, not_false_eq_true, lg_lt, lg_le, lg_gt, lg_ge, lg_eq, j_lit, j_add, j_sub, j_mul, j_neg, j_eq, i64_id, ij, ji, z_rt, Nat.reduceEqDiff, Nat.reduceAdd, Int.reduceAdd, Int.reduceSub, Int.reduceMul, Int.reduceNeg, Int.reduceLT, Int.reduceLE, Int.reduceEq, wa, wo, w', w, v3]
  · rw [b3.2.1 _ _ (by omega)]; unfold emS; rw [gI_sI, if_neg (by omega), gI_sI, if_neg (by omega), gI_sI, if_neg (by omega)]; unfold puS; rw [gI_sI, if_pos ⟨rfl, rfl⟩, v1, i32_id (by omega) (by omega), List.length_cons]; omega
  · rw [b3.2.1 _ _ (by omega)]; unfold emS; rw [gI_sI, if_neg (by omega), gI_sI, if_neg (by omega), gI_sI, if_neg (by omega)]; unfold puS; rw [v1, gI_sI, if_neg (by omega), gI_sI, if_neg (by omega), gI_sI, if_pos ⟨rfl, rfl⟩, i32_id (by omega) (by omega)]
  · rw [b3.2.1 _ _ (by omega)]; unfold emS; rw [gI_sI, if_neg (by omega), gI_sI, if_neg (by omega), gI_sI, if_neg (by omega)]; unfold puS; rw [v1, gI_sI, if_neg (by omega), gI_sI, if_pos ⟨rfl, rfl⟩, i32_id (by omega) (by omega)]
  · rw [b3.2.1 _ _ (by omega)]; unfold emS; rw [w23, gI_sI, if_neg (by omega), gI_sI, if_neg (by omega), gI_sI, if_pos ⟨rfl, rfl⟩, i32_id (by omega) (by omega)]
  · rw [b3.2.1 _ _ (by omega)]; unfold emS; rw [gI_sI, if_pos ⟨rfl, rfl⟩, w23, i32_id (by omega) (by omega)]
  · rw [emi_cons, if_neg (by show ¬ K < 29; omega)]; omega
  · rw [IM_fr (S := emS (puS S1 K k2) K 0) (fun a i q => b3.2.1 _ _ (by omega)), emS_I (by omega) (by omega), w23, puS_I, a3]
theorem z195d {X : zX} {d : Nat} (hd : 6 < d) {b : Int → Int} {n : Int} {T t : Nat} (hT : RTape b n T) {S : zS} {ord dp k : Int} {p : Nat × Int} {P : List En} (h : RX S b n T t ord p P dp k) (q1 : tc b n t ≠ 266) (q2 : tc b n t ≠ 260) (ei : inn P = -1) {cm cp : Nat} {L : zL} {st : List Value} : z_evc X d 195 [.ref 72] (cm, cp, L, st, mk S) = z_ev X d (cm, cp, L, .int (Int32.ofInt 4) :: st, mk S) := by
  have wa : (gI S 72 16 = 1 ∧ gJ S 72 17 = 1476) = (tc b n t = 266) := h.1.w hT.1 (k := 10) rfl
  have wo : (gI S 72 16 = 1 ∧ gJ S 72 17 = 498) = (tc b n t = 260) := h.1.w hT.1 (k := 4) rfl
  have k186 := fun {cm cp : Nat} {L : zL} {st : List Value} => h.k186 (X := X) (d := 6) (by omega) hT (cm := cm) (cp := cp) (L := L) (s := st)
  refine z_evc_of (r := (some (.int (Int32.ofInt 4)), mk S)) (ck := (cm, cp, L, st, mk S)) hd ?_
  show z_ev X 6 (195, 0, [some (.ref 72), none], [], mk S) = _
  simp (disch := first | omega | assumption | exact b01_rng _ | exact st_5 | exact st_12 | exact st_19 | (simp only [isSt_sI, isSt_sJ, isSt_sF, isSt_sG, isSt_sA]; assumption)) only [↓B195_0, ↓B195_7, ↓B195_12, ↓B195_19, ↓B195_22, ↓B195_27, ↓B195_31, ↓B195_32, ↓B195_35, ↓B195_40, ↓B195_45, ↓B195_47, ↓B195_54, ↓B195_59, ↓B195_64, ↓B195_66, ↓B195_70, ↓B195_74, ↓B195_76, ↓B195_80, ↓B195_84, ↓B195_86, ↓B195_93, ↓B195_96, ↓B195_103, ↓B195_108, ↓B195_128, ↓o_72, ↓r_72_19, ↓r_72_23, ↓r_72_29, ↓r_72_30, ↓w_72_29, ↓w_72_30, c177, k186, i_lit, i_add, i_sub, i_mul, i_neg, i_lt, i_le, i_eq, i32_gI, i64_gJ, i32_id, i32_to, i64_to, sI_i32, sJ_i64, b01_t, b01_f, i32_b01, b01_0, ↓a_s0, ↓n_s0, ↓a_s1, ↓n_s1, Int.add_zero, t_lt, f_lt, t_le, f_le, t_eq, f_eq, true_and, and_true, false_and, and_false, and_self, ↓reduceIte, z_bool_of, or_true, true_or, or_false, false_or, Int.neg_neg, not_true_eq_false, not_false_eq_true, lg_lt, lg_le, lg_gt, lg_ge, lg_eq, j_lit, j_add, j_sub, j_mul, j_neg, j_eq, i64_id, ij, ji, z_rt, Nat.reduceEqDiff, Nat.reduceAdd, Int.reduceAdd, Int.reduceSub, Int.reduceMul, Int.reduceNeg, Int.reduceLT, Int.reduceLE, Int.reduceEq, wa, wo, q1, q2, ei]
theorem z195p {X : zX} {d : Nat} (hd : 6 < d) {b : Int → Int} {n : Int} {T t : Nat} (hT : RTape b n T) {S : zS} {ord dp k ar : Int} {p : Nat × Int} {Q P : List En} (h : RX S b n T t ord p (Q ++ (31, ar) :: P) dp k) (q : tc b n t = 41) (h7 : ∀ y ∈ Q, 20 ≤ y.1 ∧ y.1 ≤ 30) (hdp : 1 ≤ dp) : ∃ S' : zS, (∀ {cm cp : Nat} {L : zL} {st : List Value}, z_evc X d 195 [.ref 72] (cm, cp, L, st, mk S) = z_ev X d (cm, cp, L, .int (Int32.ofInt 2) :: st, mk S')) ∧ RX S' b n T (t + 1) ord p P (dp - 1) (stl ord Q (IM ord S, k)).2 ∧ IM ord S' = (stl ord Q (IM ord S, k)).1 ∧ FrE S S' := by
  obtain ⟨S1, a1, a2, a3⟩ := z179 (X := X) (d := 6) (by omega) hT.1 h.1
  have htT := tc_lt hT.2.1 (t := t) (by omega)
  have hS1 := h.nx a2 a3 (by omega) (by omega)
  have hI1 : IM ord S1 = IM ord S := IM_fr (fun a i q => a3.2.1 _ _ (by omega))
  obtain ⟨S2, b1, b2, b3, b4, b5⟩ := z185 (X := X) (d := 6) (by omega) hT.2.2 (least := 1) (by omega) hS1 (fun y hy => by have := h7 y hy; unfold bnd; rw [if_neg (by omega)]; repeat (first | omega | split)) (fun y r e => by cases e; show (0 : Int) < 1; decide)
  rw [hI1] at b2 b3 b5
  have hS3 := b2.pop hdp hT.2.2
  have k186 := fun {cm cp : Nat} {L : zL} {st : List Value} => h.k186 (X := X) (d := 6) (by omega) hT (cm := cm) (cp := cp) (L := L) (s := st)
  have ei : inn (Q ++ (31, ar) :: P) = 31 := by rw [inn_app (fun y hy => by have := h7 y hy; omega)]; rfl
  have wa : (gI S 72 16 = 1 ∧ gJ S 72 17 = 1476) = (tc b n t = 266) := h.1.w hT.1 (k := 10) rfl
  have wo : (gI S 72 16 = 1 ∧ gJ S 72 17 = 498) = (tc b n t = 260) := h.1.w hT.1 (k := 4) rfl
  have w41 : (gI S 72 16 = 3 ∧ gJ S 72 17 = 41) = (tc b n t = 41) := h.1.s hT.1 (c := 41) (by omega) (by unfold isL; omega) (by unfold isD; omega)
  have h19 := a2.2.2.2
  have r29 := b2.2.2.2.2.1.1
  have r6 := b2.2.2.2.2.1.2.2.2.2.2
  have r30 := b2.2.2.2.2.2.1
  have ht3 := hT.2.2
  have r30' : gI (sI S2 72 29 P.length) 72 30 = dp := by rw [gI_sI, if_neg (by omega)]; exact r30
  rw [List.length_cons] at r29 r6
  have hdp8 := b2.2.2.2.2.2.2
  have q1 : ¬ (tc b n t = 266) := by omega
  have q2 : ¬ (tc b n t = 260) := by omega
  refine ⟨_, fun {cm cp L st} => z_evc_of (r := (some (.int (Int32.ofInt 2)), mk (sI (sI S2 72 29 P.length) 72 30 (dp - 1)))) (ck := (cm, cp, L, st, mk S)) hd ?_, hS3, by rw [IM_fr (S := S2) (fun a i q => by rw [gI_sI, if_neg (by omega), gI_sI, if_neg (by omega)])]; exact b3, ((a3.e.tr b4.e).tr (FrE.I (by omega))).tr (FrE.I (by omega))⟩
  show z_ev X 6 (195, 0, [some (.ref 72), none], [], mk S) = _
  have e1 : ((P.length + 1 : Nat) : Int) - 1 = P.length := by omega
  simp (disch := first | omega | assumption | exact b01_rng _ | exact st_5 | exact st_12 | exact st_19 | (simp only [isSt_sI, isSt_sJ, isSt_sF, isSt_sG, isSt_sA]; assumption)) only [↓B195_0, ↓B195_7, ↓B195_12, ↓B195_19, ↓B195_22, ↓B195_27, ↓B195_31, ↓B195_32, ↓B195_35, ↓B195_40, ↓B195_45, ↓B195_47, ↓B195_54, ↓B195_59, ↓B195_64, ↓B195_66, ↓B195_70, ↓B195_74, ↓B195_76, ↓B195_80, ↓B195_84, ↓B195_86, ↓B195_93, ↓B195_96, ↓B195_103, ↓B195_108, ↓B195_128, ↓o_72, ↓r_72_19, ↓r_72_23, ↓r_72_29, ↓r_72_30, ↓w_72_29, ↓w_72_30, c177, k186, c178, a1, b1, i_lit, i_add, i_sub, i_mul, i_neg, i_lt, i_le, i_eq, i32_gI, i64_gJ, i32_id, i32_to, i64_to, sI_i32, sJ_i64, b01_t, b01_f, i32_b01, b01_0, ↓a_s0, ↓n_s0, ↓a_s1, ↓n_s1, Int.add_zero, t_lt, f_lt, t_le, f_le, t_eq, f_eq, true_and, and_true, false_and, and_false, and_self, ↓reduceIte, z_bool_of, or_true, true_or, or_false, false_or, Int.neg_neg, not_true_eq_false, not_false_eq_true, lg_lt, lg_le, lg_gt, lg_ge, lg_eq, j_lit, j_add, j_sub, j_mul, j_neg, j_eq, i64_id, ij, ji, z_rt, Nat.reduceEqDiff, Nat.reduceAdd, Int.reduceAdd, Int.reduceSub, Int.reduceMul, Int.reduceNeg, Int.reduceLT, Int.reduceLE, Int.reduceEq, wa, wo, w41, q1, q2, q, ei, h19, r29, e1, r30, r30']
theorem z195q {X : zX} {d : Nat} (hd : 6 < d) {b : Int → Int} {n : Int} {T t : Nat} (hT : RTape b n T) {S : zS} {ord dp k : Int} {p : Nat × Int} {P : List En} (h : RX S b n T t ord p P dp k) (q1 : tc b n t ≠ 266) (q2 : tc b n t ≠ 260) (q : tc b n t ≠ 41) (ei : inn P = 31) {cm cp : Nat} {L : zL} {st : List Value} : z_evc X d 195 [.ref 72] (cm, cp, L, st, mk S) = z_ev X d (cm, cp, L, .int (Int32.ofInt 2) :: st, mk (badS S)) := by
  have wa : (gI S 72 16 = 1 ∧ gJ S 72 17 = 1476) = (tc b n t = 266) := h.1.w hT.1 (k := 10) rfl
  have wo : (gI S 72 16 = 1 ∧ gJ S 72 17 = 498) = (tc b n t = 260) := h.1.w hT.1 (k := 4) rfl
  have w41 : (gI S 72 16 = 3 ∧ gJ S 72 17 = 41) = (tc b n t = 41) := h.1.s hT.1 (c := 41) (by omega) (by unfold isL; omega) (by unfold isD; omega)
  have k186 := fun {cm cp : Nat} {L : zL} {st : List Value} => h.k186 (X := X) (d := 6) (by omega) hT (cm := cm) (cp := cp) (L := L) (s := st)
  have h19 := h.1.2.2.2
  have k179 := fun {cm cp : Nat} {L : zL} {st : List Value} => c179b (X := X) (d := 6) (S := S) (by omega) h19 (cm := cm) (cp := cp) (L := L) (st := st)
  have h19' : gI (sI (sI S 72 19 1) 72 18 (gI S 72 14)) 72 19 = 1 := by simp (disch := first | omega | assumption | exact b01_rng _ | exact st_5 | exact st_12 | exact st_19 | (simp only [isSt_sI, isSt_sJ, isSt_sF, isSt_sG, isSt_sA]; assumption)) only [gI_sI, i_lit, i_add, i_sub, i_mul, i_neg, i_lt, i_le, i_eq, i32_gI, i64_gJ, i32_id, i32_to, i64_to, sI_i32, sJ_i64, b01_t, b01_f, i32_b01, b01_0, ↓a_s0, ↓n_s0, ↓a_s1, ↓n_s1, Int.add_zero, t_lt, f_lt, t_le, f_le, t_eq, f_eq, true_and, and_true, false_and, and_false, and_self, ↓reduceIte, z_bool_of, or_true, true_or, or_false, false_or, Int.neg_neg, not_true_eq_false, not_false_eq_true, lg_lt, lg_le, lg_gt, lg_ge, lg_eq, j_lit, j_add, j_sub, j_mul, j_neg, j_eq, i64_id, ij, ji, z_rt, Nat.reduceEqDiff, Nat.reduceAdd, Int.reduceAdd, Int.reduceSub, Int.reduceMul, Int.reduceNeg, Int.reduceLT, Int.reduceLE, Int.reduceEq]
  refine z_evc_of (r := (some (.int (Int32.ofInt 2)), mk (badS S))) (ck := (cm, cp, L, st, mk S)) hd ?_
  show z_ev X 6 (195, 0, [some (.ref 72), none], [], mk S) = _
  unfold badS
  simp (disch := first | omega | assumption | exact b01_rng _ | exact st_5 | exact st_12 | exact st_19 | (simp only [isSt_sI, isSt_sJ, isSt_sF, isSt_sG, isSt_sA]; assumption)) only [↓B195_0, ↓B195_7, ↓B195_12, ↓B195_19, ↓B195_22, ↓B195_27, ↓B195_31, ↓B195_32, ↓B195_35, ↓B195_40, ↓B195_45, ↓B195_47, ↓B195_54, ↓B195_59, ↓B195_64, ↓B195_66, ↓B195_70, ↓B195_74, ↓B195_76, ↓B195_80, ↓B195_84, ↓B195_86, ↓B195_93, ↓B195_96, ↓B195_103, ↓B195_108, ↓B195_128, ↓o_72, ↓r_72_19, ↓r_72_23, ↓r_72_29, ↓r_72_30, ↓w_72_29, ↓w_72_30, c177, k186, c178, k179, i_lit, i_add, i_sub, i_mul, i_neg, i_lt, i_le, i_eq, i32_gI, i64_gJ, i32_id, i32_to, i64_to, sI_i32, sJ_i64, b01_t, b01_f, i32_b01, b01_0, ↓a_s0, ↓n_s0, ↓a_s1, ↓n_s1, Int.add_zero, t_lt, f_lt, t_le, f_le, t_eq, f_eq, true_and, and_true, false_and, and_false, and_self, ↓reduceIte, z_bool_of, or_true, true_or, or_false, false_or, Int.neg_neg, not_true_eq_false, not_false_eq_true, lg_lt, lg_le, lg_gt, lg_ge, lg_eq, j_lit, j_add, j_sub, j_mul, j_neg, j_eq, i64_id, ij, ji, z_rt, Nat.reduceEqDiff, Nat.reduceAdd, Int.reduceAdd, Int.reduceSub, Int.reduceMul, Int.reduceNeg, Int.reduceLT, Int.reduceLE, Int.reduceEq, wa, wo, w41, q1, q2, q, ei, h19']
