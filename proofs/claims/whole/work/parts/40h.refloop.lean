/-! the reference's loop over a metre -/
theorem RS.bracket {S S1 : zS} {b : Int → Int} {n : Int} {T t : Nat} {R : List Int} {dp : Int} {u c : Int → Int} (h : RS S b n T t R dp u c) (hdp : dp < 8) (hM : MAt S1 b n (t + 1)) (hF : FrN S S1) (ht : t < T) : RS (sI (sI (sI S1 72 47 (dp + 1)) 95 (dp + 1) 0) 96 (dp + 1) 0) b n T (t + 1) R (dp + 1) (up1 u (dp + 1) 0) (up1 c (dp + 1) 0) := by
  have h1 := h.nx hM hF (by omega) (by omega)
  obtain ⟨a1, a2, a3, a4, a5, a6, a7⟩ := h1
  refine ⟨a1.fr (fun i q => by (repeat (first | rw [gI_sI, if_neg (by omega)] | rw [gI_sF, if_neg (by omega)] | rw [gI_sJ] | rw [gI_sG] | rw [gI_sQ]))) (fun i => by (repeat (first | rw [gI_sI, if_neg (by omega)] | rw [gI_sF, if_neg (by omega)] | rw [gI_sJ] | rw [gI_sG] | rw [gI_sQ]))) rfl, ⟨a2.1, by (repeat (first | rw [gI_sI, if_neg (by omega)] | rw [gI_sF, if_neg (by omega)] | rw [gI_sJ] | rw [gI_sG] | rw [gI_sQ])); exact a2.2⟩, by (repeat (first | rw [gI_sI, if_neg (by omega)] | rw [gI_sF, if_neg (by omega)] | rw [gI_sJ] | rw [gI_sG] | rw [gI_sQ])); exact a3, a4, fun j x q => by (repeat (first | rw [gI_sI, if_neg (by omega)] | rw [gI_sF, if_neg (by omega)] | rw [gI_sJ] | rw [gI_sG] | rw [gI_sQ])); exact a5 j x q, ⟨?_, by omega, by omega⟩, fun i q1 q2 => ?_⟩
  · rw [gI_sI, if_neg (by omega), gI_sI, if_neg (by omega), gI_sI, if_pos ⟨rfl, rfl⟩, i32_id (by omega) (by omega)]
  · unfold up1
    by_cases e : i = dp + 1
    · rw [if_pos e, if_pos e]
      refine ⟨?_, ?_⟩
      · rw [gI_sI, if_neg (by omega), gI_sI, if_pos ⟨rfl, e⟩]; rfl
      · rw [gI_sI, if_pos ⟨rfl, e⟩]; rfl
    · rw [if_neg e, if_neg e]
      refine ⟨?_, ?_⟩
      · (repeat (first | rw [gI_sI, if_neg (by omega)] | rw [gI_sF, if_neg (by omega)] | rw [gI_sJ] | rw [gI_sG] | rw [gI_sQ])); exact (a7 i q1 (by omega)).1
      · (repeat (first | rw [gI_sI, if_neg (by omega)] | rw [gI_sF, if_neg (by omega)] | rw [gI_sJ] | rw [gI_sG] | rw [gI_sQ])); exact (a7 i q1 (by omega)).2
def badS (S : zS) : zS := sI (sI S 72 19 1) 72 18 (gI S 72 14)
theorem badS_bad {S : zS} {b : Int → Int} {n : Int} {t : Nat} (h : MAt S b n t) (hn : 0 ≤ n ∧ n ≤ 400) : RBad (badS S) (tpos b n t) ∧ FrP S (badS S) := by
  have h14 : gI S 72 14 = tpos b n t := h.2.2.1.1
  have hr := tpos_rng (b := b) hn.1 t
  unfold badS RBad
  refine ⟨⟨?_, ?_⟩, (FrP.I (by omega)).tr (FrP.I (by omega))⟩
  · simp (disch := first | omega | assumption | exact b01_rng _ | exact st_5 | exact st_12 | exact st_19 | (simp only [isSt_sI, isSt_sJ, isSt_sF, isSt_sG, isSt_sA]; assumption)) only [gI_sI, i_lit, i_add, i_sub, i_mul, i_neg, i_lt, i_le, i_eq, i32_gI, i64_gJ, i32_id, i32_to, i64_to, sI_i32, sJ_i64, b01_t, b01_f, i32_b01, b01_0, ↓a_s0, ↓n_s0, ↓a_s1, ↓n_s1, Int.add_zero, t_lt, f_lt, t_le, f_le, t_eq, f_eq, true_and, and_true, false_and, and_false, and_self, ↓reduceIte, z_bool_of, or_true, true_or, or_false, false_or, Int.neg_neg, not_true_eq_false, not_false_eq_true, lg_lt, lg_le, lg_gt, lg_ge, lg_eq, j_lit, j_add, j_sub, j_mul, j_neg, j_eq, i64_id, ij, ji, z_rt, Nat.reduceEqDiff, Nat.reduceAdd, Int.reduceAdd, Int.reduceSub, Int.reduceMul, Int.reduceNeg, Int.reduceLT, Int.reduceLE, Int.reduceEq]
  · simp (disch := first | omega | assumption | exact b01_rng _ | exact st_5 | exact st_12 | exact st_19 | (simp only [isSt_sI, isSt_sJ, isSt_sF, isSt_sG, isSt_sA]; assumption)) only [gI_sI, i_lit, i_add, i_sub, i_mul, i_neg, i_lt, i_le, i_eq, i32_gI, i64_gJ, i32_id, i32_to, i64_to, sI_i32, sJ_i64, b01_t, b01_f, i32_b01, b01_0, ↓a_s0, ↓n_s0, ↓a_s1, ↓n_s1, Int.add_zero, t_lt, f_lt, t_le, f_le, t_eq, f_eq, true_and, and_true, false_and, and_false, and_self, ↓reduceIte, z_bool_of, or_true, true_or, or_false, false_or, Int.neg_neg, not_true_eq_false, not_false_eq_true, lg_lt, lg_le, lg_gt, lg_ge, lg_eq, j_lit, j_add, j_sub, j_mul, j_neg, j_eq, i64_id, ij, ji, z_rt, Nat.reduceEqDiff, Nat.reduceAdd, Int.reduceAdd, Int.reduceSub, Int.reduceMul, Int.reduceNeg, Int.reduceLT, Int.reduceLE, Int.reduceEq, h14]
/-- beginUnit: a bracket; a step; a fault -/
theorem z214a {X : zX} {d : Nat} (hd : 3 < d) {b : Int → Int} {n : Int} {T t : Nat} (hT : RTape b n T) {S : zS} {R : List Int} {dp : Int} {u c : Int → Int} (h : RS S b n T t R dp u c) (q : tc b n t = 40) (hdp : dp < 8) : ∃ S' : zS, (∀ {cm cp : Nat} {L : zL} {st : List Value}, z_evc X d 214 [.ref 72] (cm, cp, L, st, mk S) = z_ev X d (cm, cp, L, .int (Int32.ofInt 0) :: st, mk S')) ∧ RS S' b n T (t + 1) R (dp + 1) (up1 u (dp + 1) 0) (up1 c (dp + 1) 0) ∧ FrP S S' := by
  obtain ⟨S1, a1, a2, a3⟩ := z179 (X := X) (d := 3) (by omega) hT.1 h.1
  have ht := tc_lt hT.2.1 (t := t) (by omega)
  have w40 : (gI S 72 16 = 3 ∧ gJ S 72 17 = 40) = (tc b n t = 40) := h.1.s hT.1 (c := 40) (by omega) (by unfold isL; omega) (by unfold isD; omega)
  have h47 := h.2.2.2.2.2.1
  have h19 := a2.2.2.2
  have h47' : gI S1 72 47 = dp := by rw [a3.2.1 _ _ (by omega)]; exact h47.1
  have h47'' : gI (sI S1 72 47 (dp + 1)) 72 47 = dp + 1 := by rw [gI_sI, if_pos ⟨rfl, rfl⟩, i32_id (by omega) (by omega)]
  have k211 := fun {cm cp : Nat} {L : zL} {st : List Value} => c211 (X := X) (d := 3) (S := sI S1 72 47 (dp + 1)) (by omega) (dp + 1) h47'' (by omega) (cm := cm) (cp := cp) (L := L) (st := st)
  refine ⟨_, fun {cm cp L st} => z_evc_of (r := (some (.int (Int32.ofInt 0)), mk (sI (sI (sI S1 72 47 (dp + 1)) 95 (dp + 1) 0) 96 (dp + 1) 0))) (ck := (cm, cp, L, st, mk S)) hd ?_, h.bracket hdp a2 a3 ht, a3.m.tr ((FrP.I (by omega)).tr ((FrP.I (by omega)).tr (FrP.I (by omega))))⟩
  show z_ev X 3 (214, 0, [some (.ref 72), none], [], mk S) = _
  simp (disch := first | omega | assumption | exact b01_rng _ | exact st_5 | exact st_12 | exact st_19 | (simp only [isSt_sI, isSt_sJ, isSt_sF, isSt_sG, isSt_sA]; assumption)) only [↓B214_0, ↓B214_6, ↓B214_9, ↓B214_19, ↓B214_23, ↓B214_24, ↓B214_27, ↓B214_34, ↓B214_48, ↓B214_50, ↓B214_54, ↓B214_61, ↓B214_65, ↓B214_66, ↓B214_69, ↓B214_76, ↓B214_81, ↓o_72, ↓r_72_19, ↓r_72_47, ↓w_72_47, c178, a1, k211, i_lit, i_add, i_sub, i_mul, i_neg, i_lt, i_le, i_eq, i32_gI, i64_gJ, i32_id, i32_to, i64_to, sI_i32, sJ_i64, b01_t, b01_f, i32_b01, b01_0, ↓a_s0, ↓n_s0, ↓a_s1, ↓n_s1, Int.add_zero, t_lt, f_lt, t_le, f_le, t_eq, f_eq, true_and, and_true, false_and, and_false, and_self, ↓reduceIte, z_bool_of, or_true, true_or, or_false, false_or, Int.neg_neg, not_true_eq_false, not_false_eq_true, lg_lt, lg_le, lg_gt, lg_ge, lg_eq, j_lit, j_add, j_sub, j_mul, j_neg, j_eq, i64_id, ij, ji, z_rt, Nat.reduceEqDiff, Nat.reduceAdd, Int.reduceAdd, Int.reduceSub, Int.reduceMul, Int.reduceNeg, Int.reduceLT, Int.reduceLE, Int.reduceEq, w40, h47.1, h47', h19]
theorem z214c {X : zX} {d : Nat} (hd : 3 < d) {b : Int → Int} {n : Int} {T t : Nat} (hT : RTape b n T) {S : zS} (hW : StW S) {R : List Int} {dp : Int} {u c : Int → Int} (h : RS S b n T t R dp u c) (hl : R.length ≤ 2 * t) (q : 256 ≤ tc b n t ∧ tc b n t ≤ 259) : ∃ S' : zS, (∀ {cm cp : Nat} {L : zL} {st : List Value}, z_evc X d 214 [.ref 72] (cm, cp, L, st, mk S) = z_ev X d (cm, cp, L, .int (Int32.ofInt 1) :: st, mk S')) ∧ RS S' b n T (t + 1) (R ++ [tc b n t - 256]) dp u c ∧ FrP S S' := by
  obtain ⟨S1, a1, a2, a3⟩ := z179 (X := X) (d := 3) (by omega) hT.1 h.1
  have ht := tc_lt hT.2.1 (t := t) (by omega)
  have w40 : (gI S 72 16 = 3 ∧ gJ S 72 17 = 40) = (tc b n t = 40) := h.1.s hT.1 (c := 40) (by omega) (by unfold isL; omega) (by unfold isD; omega)
  have k210 := fun {cm cp : Nat} {L : zL} {st : List Value} => z210 (X := X) (d := 3) (by omega) hT.1 h.1 hW (cm := cm) (cp := cp) (L := L) (st := st)
  have es : stp (tc b n t) = tc b n t - 256 := by unfold stp; rw [if_pos q]
  have h19 := a2.2.2.2
  have h1 := h.nx a2 a3 (by omega) (by omega)
  have h44 := h1.2.2.1
  have h3 := hT.2.2
  have hne : ¬ (tc b n t = 40) := by omega
  refine ⟨_, fun {cm cp L st} => z_evc_of (r := (some (.int (Int32.ofInt 1)), mk (signS S1 (tc b n t - 256)))) (ck := (cm, cp, L, st, mk S)) hd ?_, h1.sign (by omega) h3 (by omega), a3.m.tr FrP.sign⟩
  show z_ev X 3 (214, 0, [some (.ref 72), none], [], mk S) = _
  simp (disch := first | omega | assumption | exact b01_rng _ | exact st_5 | exact st_12 | exact st_19 | (simp only [isSt_sI, isSt_sJ, isSt_sF, isSt_sG, isSt_sA]; assumption)) only [↓B214_0, ↓B214_6, ↓B214_9, ↓B214_19, ↓B214_23, ↓B214_24, ↓B214_27, ↓B214_34, ↓B214_48, ↓B214_50, ↓B214_54, ↓B214_61, ↓B214_65, ↓B214_66, ↓B214_69, ↓B214_76, ↓B214_81, ↓o_72, ↓r_72_19, ↓r_72_47, ↓w_72_47, c178, a1, k210, c209, i_lit, i_add, i_sub, i_mul, i_neg, i_lt, i_le, i_eq, i32_gI, i64_gJ, i32_id, i32_to, i64_to, sI_i32, sJ_i64, b01_t, b01_f, i32_b01, b01_0, ↓a_s0, ↓n_s0, ↓a_s1, ↓n_s1, Int.add_zero, t_lt, f_lt, t_le, f_le, t_eq, f_eq, true_and, and_true, false_and, and_false, and_self, ↓reduceIte, z_bool_of, or_true, true_or, or_false, false_or, Int.neg_neg, not_true_eq_false, not_false_eq_true, lg_lt, lg_le, lg_gt, lg_ge, lg_eq, j_lit, j_add, j_sub, j_mul, j_neg, j_eq, i64_id, ij, ji, z_rt, Nat.reduceEqDiff, Nat.reduceAdd, Int.reduceAdd, Int.reduceSub, Int.reduceMul, Int.reduceNeg, Int.reduceLT, Int.reduceLE, Int.reduceEq, w40, es, h19, hne]
theorem z214b {X : zX} {d : Nat} (hd : 3 < d) {b : Int → Int} {n : Int} {T t : Nat} (hT : RTape b n T) {S : zS} (hW : StW S) {R : List Int} {dp : Int} {u c : Int → Int} (h : RS S b n T t R dp u c) (q : ¬ (tc b n t = 40 ∧ dp < 8)) (q2 : ¬ (256 ≤ tc b n t ∧ tc b n t ≤ 259)) : ∃ v : Int, (v = 0 ∨ v = 1) ∧ (∀ {cm cp : Nat} {L : zL} {st : List Value}, z_evc X d 214 [.ref 72] (cm, cp, L, st, mk S) = z_ev X d (cm, cp, L, .int (Int32.ofInt v) :: st, mk (badS S))) := by
  have w40 : (gI S 72 16 = 3 ∧ gJ S 72 17 = 40) = (tc b n t = 40) := h.1.s hT.1 (c := 40) (by omega) (by unfold isL; omega) (by unfold isD; omega)
  have k210 := fun {cm cp : Nat} {L : zL} {st : List Value} => z210 (X := X) (d := 3) (by omega) hT.1 h.1 hW (cm := cm) (cp := cp) (L := L) (st := st)
  have es : stp (tc b n t) = -1 := by unfold stp; rw [if_neg q2]
  have h47 := h.2.2.2.2.2.1
  have h19 := h.1.2.2.2
  have k179 := fun {cm cp : Nat} {L : zL} {st : List Value} => c179b (X := X) (d := 3) (S := S) (by omega) h19 (cm := cm) (cp := cp) (L := L) (st := st)
  have h19' : gI (sI (sI S 72 19 1) 72 18 (gI S 72 14)) 72 19 = 1 := by simp (disch := first | omega | assumption | exact b01_rng _ | exact st_5 | exact st_12 | exact st_19 | (simp only [isSt_sI, isSt_sJ, isSt_sF, isSt_sG, isSt_sA]; assumption)) only [gI_sI, i_lit, i_add, i_sub, i_mul, i_neg, i_lt, i_le, i_eq, i32_gI, i64_gJ, i32_id, i32_to, i64_to, sI_i32, sJ_i64, b01_t, b01_f, i32_b01, b01_0, ↓a_s0, ↓n_s0, ↓a_s1, ↓n_s1, Int.add_zero, t_lt, f_lt, t_le, f_le, t_eq, f_eq, true_and, and_true, false_and, and_false, and_self, ↓reduceIte, z_bool_of, or_true, true_or, or_false, false_or, Int.neg_neg, not_true_eq_false, not_false_eq_true, lg_lt, lg_le, lg_gt, lg_ge, lg_eq, j_lit, j_add, j_sub, j_mul, j_neg, j_eq, i64_id, ij, ji, z_rt, Nat.reduceEqDiff, Nat.reduceAdd, Int.reduceAdd, Int.reduceSub, Int.reduceMul, Int.reduceNeg, Int.reduceLT, Int.reduceLE, Int.reduceEq]
  by_cases q3 : tc b n t = 40
  · refine ⟨0, Or.inl rfl, fun {cm cp L st} => z_evc_of (r := (some (.int (Int32.ofInt 0)), mk (badS S))) (ck := (cm, cp, L, st, mk S)) hd ?_⟩
    show z_ev X 3 (214, 0, [some (.ref 72), none], [], mk S) = _
    unfold badS
    simp (disch := first | omega | assumption | exact b01_rng _ | exact st_5 | exact st_12 | exact st_19 | (simp only [isSt_sI, isSt_sJ, isSt_sF, isSt_sG, isSt_sA]; assumption)) only [↓B214_0, ↓B214_6, ↓B214_9, ↓B214_19, ↓B214_23, ↓B214_24, ↓B214_27, ↓B214_34, ↓B214_48, ↓B214_50, ↓B214_54, ↓B214_61, ↓B214_65, ↓B214_66, ↓B214_69, ↓B214_76, ↓B214_81, ↓o_72, ↓r_72_19, ↓r_72_47, ↓w_72_47, c178, k179, i_lit, i_add, i_sub, i_mul, i_neg, i_lt, i_le, i_eq, i32_gI, i64_gJ, i32_id, i32_to, i64_to, sI_i32, sJ_i64, b01_t, b01_f, i32_b01, b01_0, ↓a_s0, ↓n_s0, ↓a_s1, ↓n_s1, Int.add_zero, t_lt, f_lt, t_le, f_le, t_eq, f_eq, true_and, and_true, false_and, and_false, and_self, ↓reduceIte, z_bool_of, or_true, true_or, or_false, false_or, Int.neg_neg, not_true_eq_false, not_false_eq_true, lg_lt, lg_le, lg_gt, lg_ge, lg_eq, j_lit, j_add, j_sub, j_mul, j_neg, j_eq, i64_id, ij, ji, z_rt, Nat.reduceEqDiff, Nat.reduceAdd, Int.reduceAdd, Int.reduceSub, Int.reduceMul, Int.reduceNeg, Int.reduceLT, Int.reduceLE, Int.reduceEq, w40, h47.1, h19', q3]
  · refine ⟨1, Or.inr rfl, fun {cm cp L st} => z_evc_of (r := (some (.int (Int32.ofInt 1)), mk (badS S))) (ck := (cm, cp, L, st, mk S)) hd ?_⟩
    show z_ev X 3 (214, 0, [some (.ref 72), none], [], mk S) = _
    unfold badS
    simp (disch := first | omega | assumption | exact b01_rng _ | exact st_5 | exact st_12 | exact st_19 | (simp only [isSt_sI, isSt_sJ, isSt_sF, isSt_sG, isSt_sA]; assumption)) only [↓B214_0, ↓B214_6, ↓B214_9, ↓B214_19, ↓B214_23, ↓B214_24, ↓B214_27, ↓B214_34, ↓B214_48, ↓B214_50, ↓B214_54, ↓B214_61, ↓B214_65, ↓B214_66, ↓B214_69, ↓B214_76, ↓B214_81, ↓o_72, ↓r_72_19, ↓r_72_47, ↓w_72_47, c178, k179, k210, i_lit, i_add, i_sub, i_mul, i_neg, i_lt, i_le, i_eq, i32_gI, i64_gJ, i32_id, i32_to, i64_to, sI_i32, sJ_i64, b01_t, b01_f, i32_b01, b01_0, ↓a_s0, ↓n_s0, ↓a_s1, ↓n_s1, Int.add_zero, t_lt, f_lt, t_le, f_le, t_eq, f_eq, true_and, and_true, false_and, and_false, and_self, ↓reduceIte, z_bool_of, or_true, true_or, or_false, false_or, Int.neg_neg, not_true_eq_false, not_false_eq_true, lg_lt, lg_le, lg_gt, lg_ge, lg_eq, j_lit, j_add, j_sub, j_mul, j_neg, j_eq, i64_id, ij, ji, z_rt, Nat.reduceEqDiff, Nat.reduceAdd, Int.reduceAdd, Int.reduceSub, Int.reduceMul, Int.reduceNeg, Int.reduceLT, Int.reduceLE, Int.reduceEq, w40, es, h19', q3]
noncomputable def hd5 (X : zX) (d : Nat) (w o : Int) (S : zS) : Option (Option Value × zM) := z_ev X d (215, 22, [some (.ref 72), some (.int (Int32.ofInt w)), some (.int (Int32.ofInt o))], [], mk S)
theorem hd5_bad {X : zX} {d : Nat} {w o : Int} {S : zS} (h : gI S 72 19 = 1) : hd5 X d w o S = some (none, mk S) := by
  unfold hd5
  rw [B215_22]
  simp (disch := first | omega | assumption | exact b01_rng _ | exact st_5 | exact st_12 | exact st_19 | (simp only [isSt_sI, isSt_sJ, isSt_sF, isSt_sG, isSt_sA]; assumption)) only [↓B215_0, ↓B215_4, ↓B215_18, ↓B215_29, ↓B215_33, ↓B215_37, ↓B215_41, ↓B215_44, ↓B215_48, ↓B215_49, ↓B215_57, ↓B215_61, ↓B215_65, ↓B215_68, ↓B215_75, ↓B215_78, ↓B215_82, ↓B215_86, ↓B215_91, ↓B215_98, ↓B215_104, ↓B215_107, ↓B215_111, ↓B215_115, ↓B215_129, ↓B215_132, ↓B215_136, ↓B215_140, ↓B215_146, ↓B215_149, ↓B215_154, ↓B215_159, ↓B215_166, ↓B215_173, ↓B215_180, ↓B215_185, ↓B215_192, ↓B215_196, ↓o_72, ↓r_72_16, ↓r_72_19, ↓r_72_47, ↓w_72_44, ↓w_72_47, i_lit, i_add, i_sub, i_mul, i_neg, i_lt, i_le, i_eq, i32_gI, i64_gJ, i32_id, i32_to, i64_to, sI_i32, sJ_i64, b01_t, b01_f, i32_b01, b01_0, ↓a_s0, ↓n_s0, ↓a_s1, ↓n_s1, Int.add_zero, t_lt, f_lt, t_le, f_le, t_eq, f_eq, true_and, and_true, false_and, and_false, and_self, ↓reduceIte, z_bool_of, or_true, true_or, or_false, false_or, Int.neg_neg, not_true_eq_false, not_false_eq_true, lg_lt, lg_le, lg_gt, lg_ge, lg_eq, j_lit, j_add, j_sub, j_mul, j_neg, j_eq, i64_id, ij, ji, z_rt, Nat.reduceEqDiff, Nat.reduceAdd, Int.reduceAdd, Int.reduceSub, Int.reduceMul, Int.reduceNeg, Int.reduceLT, Int.reduceLE, Int.reduceEq, h]
theorem pTimes_app (c v : Nat → Int) (r : List Int) (t : Nat) : pTimes c v r t = (match pTimes c v [] t with
  | .inl e => .inl e
  | .inr (x, t1) => .inr (r ++ x, t1)) := by
  unfold pTimes
  by_cases q : c t = 261
  · rw [if_pos q, if_pos q]
    by_cases q1 : c (t + 1) = 300 ∧ 1 ≤ v (t + 1) ∧ v (t + 1) ≤ 9
    · rw [if_pos q1, if_pos q1]; rfl
    · rw [if_neg q1, if_neg q1]
  · rw [if_neg q, if_neg q]
    simp only [List.append_nil]
/-- the loop goes on behind a unit: more of them; no more -/
theorem hd5_more {X : zX} {d : Nat} (hd : 3 < d) {b : Int → Int} {n : Int} {T t : Nat} (hT : RTape b n T) {S : zS} (hW : StW S) {R : List Int} {dp : Int} {u c : Int → Int} (h : RS S b n T t R dp u c) (q : begU (tc b n t)) : hd5 X d 0 0 S = hd5 X d 1 0 S := by
  unfold hd5
  have w40 : (gI S 72 16 = 3 ∧ gJ S 72 17 = 40) = (tc b n t = 40) := h.1.s hT.1 (c := 40) (by omega) (by unfold isL; omega) (by unfold isD; omega)
  have w41 : (gI S 72 16 = 3 ∧ gJ S 72 17 = 41) = (tc b n t = 41) := h.1.s hT.1 (c := 41) (by omega) (by unfold isL; omega) (by unfold isD; omega)
  have wo : (gI S 72 16 = 1 ∧ gJ S 72 17 = 498) = (tc b n t = 260) := h.1.w hT.1 (k := 4) rfl
  have k210 := fun {cm cp : Nat} {L : zL} {st : List Value} => z210 (X := X) (d := d) (by omega) hT.1 h.1 hW (cm := cm) (cp := cp) (L := L) (st := st)
  have h47 := h.2.2.2.2.2.1
  have h19 := h.1.2.2.2
  have q' : tc b n t = 40 ∨ 256 ≤ tc b n t ∧ tc b n t ≤ 259 := q
  have h41 : ¬ (tc b n t = 41) := by omega
  have h260 : ¬ (tc b n t = 260) := by omega
  rw [B215_22]
  by_cases q1 : tc b n t = 40
  · have es : stp (tc b n t) = -1 := by unfold stp; rw [if_neg (by omega)]
    by_cases q2 : dp = 0
    · simp (disch := first | omega | assumption | exact b01_rng _ | exact st_5 | exact st_12 | exact st_19 | (simp only [isSt_sI, isSt_sJ, isSt_sF, isSt_sG, isSt_sA]; assumption)) only [↓B215_0, ↓B215_4, ↓B215_18, ↓B215_29, ↓B215_33, ↓B215_37, ↓B215_41, ↓B215_44, ↓B215_48, ↓B215_49, ↓B215_57, ↓B215_61, ↓B215_65, ↓B215_68, ↓B215_75, ↓B215_78, ↓B215_82, ↓B215_86, ↓B215_91, ↓B215_98, ↓B215_104, ↓B215_107, ↓B215_111, ↓B215_115, ↓B215_129, ↓B215_132, ↓B215_136, ↓B215_140, ↓B215_146, ↓B215_149, ↓B215_154, ↓B215_159, ↓B215_166, ↓B215_173, ↓B215_180, ↓B215_185, ↓B215_192, ↓B215_196, ↓o_72, ↓r_72_16, ↓r_72_19, ↓r_72_47, ↓w_72_44, ↓w_72_47, c177, c178, k210, i_lit, i_add, i_sub, i_mul, i_neg, i_lt, i_le, i_eq, i32_gI, i64_gJ, i32_id, i32_to, i64_to, sI_i32, sJ_i64, b01_t, b01_f, i32_b01, b01_0, ↓a_s0, ↓n_s0, ↓a_s1, ↓n_s1, Int.add_zero, t_lt, f_lt, t_le, f_le, t_eq, f_eq, true_and, and_true, false_and, and_false, and_self, ↓reduceIte, z_bool_of, or_true, true_or, or_false, false_or, Int.neg_neg, not_true_eq_false, not_false_eq_true, lg_lt, lg_le, lg_gt, lg_ge, lg_eq, j_lit, j_add, j_sub, j_mul, j_neg, j_eq, i64_id, ij, ji, z_rt, Nat.reduceEqDiff, Nat.reduceAdd, Int.reduceAdd, Int.reduceSub, Int.reduceMul, Int.reduceNeg, Int.reduceLT, Int.reduceLE, Int.reduceEq, w40, w41, wo, es, h47.1, h19, h41, h260]
    · simp (disch := first | omega | assumption | exact b01_rng _ | exact st_5 | exact st_12 | exact st_19 | (simp only [isSt_sI, isSt_sJ, isSt_sF, isSt_sG, isSt_sA]; assumption)) only [↓B215_0, ↓B215_4, ↓B215_18, ↓B215_29, ↓B215_33, ↓B215_37, ↓B215_41, ↓B215_44, ↓B215_48, ↓B215_49, ↓B215_57, ↓B215_61, ↓B215_65, ↓B215_68, ↓B215_75, ↓B215_78, ↓B215_82, ↓B215_86, ↓B215_91, ↓B215_98, ↓B215_104, ↓B215_107, ↓B215_111, ↓B215_115, ↓B215_129, ↓B215_132, ↓B215_136, ↓B215_140, ↓B215_146, ↓B215_149, ↓B215_154, ↓B215_159, ↓B215_166, ↓B215_173, ↓B215_180, ↓B215_185, ↓B215_192, ↓B215_196, ↓o_72, ↓r_72_16, ↓r_72_19, ↓r_72_47, ↓w_72_44, ↓w_72_47, c177, c178, k210, i_lit, i_add, i_sub, i_mul, i_neg, i_lt, i_le, i_eq, i32_gI, i64_gJ, i32_id, i32_to, i64_to, sI_i32, sJ_i64, b01_t, b01_f, i32_b01, b01_0, ↓a_s0, ↓n_s0, ↓a_s1, ↓n_s1, Int.add_zero, t_lt, f_lt, t_le, f_le, t_eq, f_eq, true_and, and_true, false_and, and_false, and_self, ↓reduceIte, z_bool_of, or_true, true_or, or_false, false_or, Int.neg_neg, not_true_eq_false, not_false_eq_true, lg_lt, lg_le, lg_gt, lg_ge, lg_eq, j_lit, j_add, j_sub, j_mul, j_neg, j_eq, i64_id, ij, ji, z_rt, Nat.reduceEqDiff, Nat.reduceAdd, Int.reduceAdd, Int.reduceSub, Int.reduceMul, Int.reduceNeg, Int.reduceLT, Int.reduceLE, Int.reduceEq, w40, w41, wo, es, h47.1, h19, h41, h260]
  · have es : stp (tc b n t) = tc b n t - 256 := by unfold stp; rw [if_pos (by omega)]
    by_cases q2 : dp = 0
    · simp (disch := first | omega | assumption | exact b01_rng _ | exact st_5 | exact st_12 | exact st_19 | (simp only [isSt_sI, isSt_sJ, isSt_sF, isSt_sG, isSt_sA]; assumption)) only [↓B215_0, ↓B215_4, ↓B215_18, ↓B215_29, ↓B215_33, ↓B215_37, ↓B215_41, ↓B215_44, ↓B215_48, ↓B215_49, ↓B215_57, ↓B215_61, ↓B215_65, ↓B215_68, ↓B215_75, ↓B215_78, ↓B215_82, ↓B215_86, ↓B215_91, ↓B215_98, ↓B215_104, ↓B215_107, ↓B215_111, ↓B215_115, ↓B215_129, ↓B215_132, ↓B215_136, ↓B215_140, ↓B215_146, ↓B215_149, ↓B215_154, ↓B215_159, ↓B215_166, ↓B215_173, ↓B215_180, ↓B215_185, ↓B215_192, ↓B215_196, ↓o_72, ↓r_72_16, ↓r_72_19, ↓r_72_47, ↓w_72_44, ↓w_72_47, c177, c178, k210, i_lit, i_add, i_sub, i_mul, i_neg, i_lt, i_le, i_eq, i32_gI, i64_gJ, i32_id, i32_to, i64_to, sI_i32, sJ_i64, b01_t, b01_f, i32_b01, b01_0, ↓a_s0, ↓n_s0, ↓a_s1, ↓n_s1, Int.add_zero, t_lt, f_lt, t_le, f_le, t_eq, f_eq, true_and, and_true, false_and, and_false, and_self, ↓reduceIte, z_bool_of, or_true, true_or, or_false, false_or, Int.neg_neg, not_true_eq_false, not_false_eq_true, lg_lt, lg_le, lg_gt, lg_ge, lg_eq, j_lit, j_add, j_sub, j_mul, j_neg, j_eq, i64_id, ij, ji, z_rt, Nat.reduceEqDiff, Nat.reduceAdd, Int.reduceAdd, Int.reduceSub, Int.reduceMul, Int.reduceNeg, Int.reduceLT, Int.reduceLE, Int.reduceEq, w40, w41, wo, es, h47.1, h19, h41, h260]
    · simp (disch := first | omega | assumption | exact b01_rng _ | exact st_5 | exact st_12 | exact st_19 | (simp only [isSt_sI, isSt_sJ, isSt_sF, isSt_sG, isSt_sA]; assumption)) only [↓B215_0, ↓B215_4, ↓B215_18, ↓B215_29, ↓B215_33, ↓B215_37, ↓B215_41, ↓B215_44, ↓B215_48, ↓B215_49, ↓B215_57, ↓B215_61, ↓B215_65, ↓B215_68, ↓B215_75, ↓B215_78, ↓B215_82, ↓B215_86, ↓B215_91, ↓B215_98, ↓B215_104, ↓B215_107, ↓B215_111, ↓B215_115, ↓B215_129, ↓B215_132, ↓B215_136, ↓B215_140, ↓B215_146, ↓B215_149, ↓B215_154, ↓B215_159, ↓B215_166, ↓B215_173, ↓B215_180, ↓B215_185, ↓B215_192, ↓B215_196, ↓o_72, ↓r_72_16, ↓r_72_19, ↓r_72_47, ↓w_72_44, ↓w_72_47, c177, c178, k210, i_lit, i_add, i_sub, i_mul, i_neg, i_lt, i_le, i_eq, i32_gI, i64_gJ, i32_id, i32_to, i64_to, sI_i32, sJ_i64, b01_t, b01_f, i32_b01, b01_0, ↓a_s0, ↓n_s0, ↓a_s1, ↓n_s1, Int.add_zero, t_lt, f_lt, t_le, f_le, t_eq, f_eq, true_and, and_true, false_and, and_false, and_self, ↓reduceIte, z_bool_of, or_true, true_or, or_false, false_or, Int.neg_neg, not_true_eq_false, not_false_eq_true, lg_lt, lg_le, lg_gt, lg_ge, lg_eq, j_lit, j_add, j_sub, j_mul, j_neg, j_eq, i64_id, ij, ji, z_rt, Nat.reduceEqDiff, Nat.reduceAdd, Int.reduceAdd, Int.reduceSub, Int.reduceMul, Int.reduceNeg, Int.reduceLT, Int.reduceLE, Int.reduceEq, w40, w41, wo, es, h47.1, h19, h41, h260]
theorem hd5_over {X : zX} {d : Nat} (hd : 3 < d) {b : Int → Int} {n : Int} {T t : Nat} (hT : RTape b n T) {S : zS} (hW : StW S) {R : List Int} {dp : Int} {u c : Int → Int} (h : RS S b n T t R dp u c) (q : ¬ begU (tc b n t)) (q1 : tc b n t ≠ 260) (q2 : ¬ (tc b n t = 41 ∧ 0 < dp)) : hd5 X d 0 0 S = hd5 X d 0 1 S := by
  unfold hd5
  have w40 : (gI S 72 16 = 3 ∧ gJ S 72 17 = 40) = (tc b n t = 40) := h.1.s hT.1 (c := 40) (by omega) (by unfold isL; omega) (by unfold isD; omega)
  have w41 : (gI S 72 16 = 3 ∧ gJ S 72 17 = 41) = (tc b n t = 41) := h.1.s hT.1 (c := 41) (by omega) (by unfold isL; omega) (by unfold isD; omega)
  have wo : (gI S 72 16 = 1 ∧ gJ S 72 17 = 498) = (tc b n t = 260) := h.1.w hT.1 (k := 4) rfl
  have k210 := fun {cm cp : Nat} {L : zL} {st : List Value} => z210 (X := X) (d := d) (by omega) hT.1 h.1 hW (cm := cm) (cp := cp) (L := L) (st := st)
  have h47 := h.2.2.2.2.2.1
  have h19 := h.1.2.2.2
  have q' : ¬ (tc b n t = 40 ∨ 256 ≤ tc b n t ∧ tc b n t ≤ 259) := q
  have h40 : ¬ (tc b n t = 40) := by omega
  have es : stp (tc b n t) = -1 := by unfold stp; rw [if_neg (by omega)]
  rw [B215_22]
  by_cases q3 : dp = 0
  · simp (disch := first | omega | assumption | exact b01_rng _ | exact st_5 | exact st_12 | exact st_19 | (simp only [isSt_sI, isSt_sJ, isSt_sF, isSt_sG, isSt_sA]; assumption)) only [↓B215_0, ↓B215_4, ↓B215_18, ↓B215_29, ↓B215_33, ↓B215_37, ↓B215_41, ↓B215_44, ↓B215_48, ↓B215_49, ↓B215_57, ↓B215_61, ↓B215_65, ↓B215_68, ↓B215_75, ↓B215_78, ↓B215_82, ↓B215_86, ↓B215_91, ↓B215_98, ↓B215_104, ↓B215_107, ↓B215_111, ↓B215_115, ↓B215_129, ↓B215_132, ↓B215_136, ↓B215_140, ↓B215_146, ↓B215_149, ↓B215_154, ↓B215_159, ↓B215_166, ↓B215_173, ↓B215_180, ↓B215_185, ↓B215_192, ↓B215_196, ↓o_72, ↓r_72_16, ↓r_72_19, ↓r_72_47, ↓w_72_44, ↓w_72_47, c177, c178, k210, i_lit, i_add, i_sub, i_mul, i_neg, i_lt, i_le, i_eq, i32_gI, i64_gJ, i32_id, i32_to, i64_to, sI_i32, sJ_i64, b01_t, b01_f, i32_b01, b01_0, ↓a_s0, ↓n_s0, ↓a_s1, ↓n_s1, Int.add_zero, t_lt, f_lt, t_le, f_le, t_eq, f_eq, true_and, and_true, false_and, and_false, and_self, ↓reduceIte, z_bool_of, or_true, true_or, or_false, false_or, Int.neg_neg, not_true_eq_false, not_false_eq_true, lg_lt, lg_le, lg_gt, lg_ge, lg_eq, j_lit, j_add, j_sub, j_mul, j_neg, j_eq, i64_id, ij, ji, z_rt, Nat.reduceEqDiff, Nat.reduceAdd, Int.reduceAdd, Int.reduceSub, Int.reduceMul, Int.reduceNeg, Int.reduceLT, Int.reduceLE, Int.reduceEq, w40, w41, wo, es, h47.1, h19, h40, q1]
  · have h41 : ¬ (tc b n t = 41) := by omega
    simp (disch := first | omega | assumption | exact b01_rng _ | exact st_5 | exact st_12 | exact st_19 | (simp only [isSt_sI, isSt_sJ, isSt_sF, isSt_sG, isSt_sA]; assumption)) only [↓B215_0, ↓B215_4, ↓B215_18, ↓B215_29, ↓B215_33, ↓B215_37, ↓B215_41, ↓B215_44, ↓B215_48, ↓B215_49, ↓B215_57, ↓B215_61, ↓B215_65, ↓B215_68, ↓B215_75, ↓B215_78, ↓B215_82, ↓B215_86, ↓B215_91, ↓B215_98, ↓B215_104, ↓B215_107, ↓B215_111, ↓B215_115, ↓B215_129, ↓B215_132, ↓B215_136, ↓B215_140, ↓B215_146, ↓B215_149, ↓B215_154, ↓B215_159, ↓B215_166, ↓B215_173, ↓B215_180, ↓B215_185, ↓B215_192, ↓B215_196, ↓o_72, ↓r_72_16, ↓r_72_19, ↓r_72_47, ↓w_72_44, ↓w_72_47, c177, c178, k210, i_lit, i_add, i_sub, i_mul, i_neg, i_lt, i_le, i_eq, i32_gI, i64_gJ, i32_id, i32_to, i64_to, sI_i32, sJ_i64, b01_t, b01_f, i32_b01, b01_0, ↓a_s0, ↓n_s0, ↓a_s1, ↓n_s1, Int.add_zero, t_lt, f_lt, t_le, f_le, t_eq, f_eq, true_and, and_true, false_and, and_false, and_self, ↓reduceIte, z_bool_of, or_true, true_or, or_false, false_or, Int.neg_neg, not_true_eq_false, not_false_eq_true, lg_lt, lg_le, lg_gt, lg_ge, lg_eq, j_lit, j_add, j_sub, j_mul, j_neg, j_eq, i64_id, ij, ji, z_rt, Nat.reduceEqDiff, Nat.reduceAdd, Int.reduceAdd, Int.reduceSub, Int.reduceMul, Int.reduceNeg, Int.reduceLT, Int.reduceLE, Int.reduceEq, w40, w41, wo, es, h47.1, h19, h40, h41, q1]
/-- .. and then it isn't the end -/
theorem hd5_miss {X : zX} {d : Nat} (hd : 3 < d) {b : Int → Int} {n : Int} {T t : Nat} (hT : RTape b n T) {S : zS} {R : List Int} {dp : Int} {u c : Int → Int} (h : RS S b n T t R dp u c) (q : tc b n t ≠ 301 ∨ 0 < dp) : hd5 X d 0 1 S = some (none, mk (badS S)) := by
  unfold hd5
  have we : (gI S 72 16 = 0) = (tc b n t = 301) := by rw [h.1.2.2.1.2.2.1]; exact mE hT.1 t
  have h47 := h.2.2.2.2.2.1
  have h19 := h.1.2.2.2
  have k179 := fun {cm cp : Nat} {L : zL} {st : List Value} => c179b (X := X) (d := d) (S := S) (by omega) h19 (cm := cm) (cp := cp) (L := L) (st := st)
  have h19' : gI (sI (sI S 72 19 1) 72 18 (gI S 72 14)) 72 19 = 1 := by simp (disch := first | omega | assumption | exact b01_rng _ | exact st_5 | exact st_12 | exact st_19 | (simp only [isSt_sI, isSt_sJ, isSt_sF, isSt_sG, isSt_sA]; assumption)) only [gI_sI, i_lit, i_add, i_sub, i_mul, i_neg, i_lt, i_le, i_eq, i32_gI, i64_gJ, i32_id, i32_to, i64_to, sI_i32, sJ_i64, b01_t, b01_f, i32_b01, b01_0, ↓a_s0, ↓n_s0, ↓a_s1, ↓n_s1, Int.add_zero, t_lt, f_lt, t_le, f_le, t_eq, f_eq, true_and, and_true, false_and, and_false, and_self, ↓reduceIte, z_bool_of, or_true, true_or, or_false, false_or, Int.neg_neg, not_true_eq_false, not_false_eq_true, lg_lt, lg_le, lg_gt, lg_ge, lg_eq, j_lit, j_add, j_sub, j_mul, j_neg, j_eq, i64_id, ij, ji, z_rt, Nat.reduceEqDiff, Nat.reduceAdd, Int.reduceAdd, Int.reduceSub, Int.reduceMul, Int.reduceNeg, Int.reduceLT, Int.reduceLE, Int.reduceEq]
  unfold badS
  rw [B215_22]
  by_cases q1 : tc b n t = 301
  · have q2 : gI S 72 16 = 0 := by rw [we]; exact q1
    simp (disch := first | omega | assumption | exact b01_rng _ | exact st_5 | exact st_12 | exact st_19 | (simp only [isSt_sI, isSt_sJ, isSt_sF, isSt_sG, isSt_sA]; assumption)) only [↓B215_0, ↓B215_4, ↓B215_18, ↓B215_29, ↓B215_33, ↓B215_37, ↓B215_41, ↓B215_44, ↓B215_48, ↓B215_49, ↓B215_57, ↓B215_61, ↓B215_65, ↓B215_68, ↓B215_75, ↓B215_78, ↓B215_82, ↓B215_86, ↓B215_91, ↓B215_98, ↓B215_104, ↓B215_107, ↓B215_111, ↓B215_115, ↓B215_129, ↓B215_132, ↓B215_136, ↓B215_140, ↓B215_146, ↓B215_149, ↓B215_154, ↓B215_159, ↓B215_166, ↓B215_173, ↓B215_180, ↓B215_185, ↓B215_192, ↓B215_196, ↓o_72, ↓r_72_16, ↓r_72_19, ↓r_72_47, ↓w_72_44, ↓w_72_47, k179, i_lit, i_add, i_sub, i_mul, i_neg, i_lt, i_le, i_eq, i32_gI, i64_gJ, i32_id, i32_to, i64_to, sI_i32, sJ_i64, b01_t, b01_f, i32_b01, b01_0, ↓a_s0, ↓n_s0, ↓a_s1, ↓n_s1, Int.add_zero, t_lt, f_lt, t_le, f_le, t_eq, f_eq, true_and, and_true, false_and, and_false, and_self, ↓reduceIte, z_bool_of, or_true, true_or, or_false, false_or, Int.neg_neg, not_true_eq_false, not_false_eq_true, lg_lt, lg_le, lg_gt, lg_ge, lg_eq, j_lit, j_add, j_sub, j_mul, j_neg, j_eq, i64_id, ij, ji, z_rt, Nat.reduceEqDiff, Nat.reduceAdd, Int.reduceAdd, Int.reduceSub, Int.reduceMul, Int.reduceNeg, Int.reduceLT, Int.reduceLE, Int.reduceEq, h47.1, h19, h19', q2]
  · have q2 : ¬ (gI S 72 16 = 0) := by rw [we]; exact q1
    simp (disch := first | omega | assumption | exact b01_rng _ | exact st_5 | exact st_12 | exact st_19 | (simp only [isSt_sI, isSt_sJ, isSt_sF, isSt_sG, isSt_sA]; assumption)) only [↓B215_0, ↓B215_4, ↓B215_18, ↓B215_29, ↓B215_33, ↓B215_37, ↓B215_41, ↓B215_44, ↓B215_48, ↓B215_49, ↓B215_57, ↓B215_61, ↓B215_65, ↓B215_68, ↓B215_75, ↓B215_78, ↓B215_82, ↓B215_86, ↓B215_91, ↓B215_98, ↓B215_104, ↓B215_107, ↓B215_111, ↓B215_115, ↓B215_129, ↓B215_132, ↓B215_136, ↓B215_140, ↓B215_146, ↓B215_149, ↓B215_154, ↓B215_159, ↓B215_166, ↓B215_173, ↓B215_180, ↓B215_185, ↓B215_192, ↓B215_196, ↓o_72, ↓r_72_16, ↓r_72_19, ↓r_72_47, ↓w_72_44, ↓w_72_47, k179, i_lit, i_add, i_sub, i_mul, i_neg, i_lt, i_le, i_eq, i32_gI, i64_gJ, i32_id, i32_to, i64_to, sI_i32, sJ_i64, b01_t, b01_f, i32_b01, b01_0, ↓a_s0, ↓n_s0, ↓a_s1, ↓n_s1, Int.add_zero, t_lt, f_lt, t_le, f_le, t_eq, f_eq, true_and, and_true, false_and, and_false, and_self, ↓reduceIte, z_bool_of, or_true, true_or, or_false, false_or, Int.neg_neg, not_true_eq_false, not_false_eq_true, lg_lt, lg_le, lg_gt, lg_ge, lg_eq, j_lit, j_add, j_sub, j_mul, j_neg, j_eq, i64_id, ij, ji, z_rt, Nat.reduceEqDiff, Nat.reduceAdd, Int.reduceAdd, Int.reduceSub, Int.reduceMul, Int.reduceNeg, Int.reduceLT, Int.reduceLE, Int.reduceEq, h19, h19', q2]
/-- a metre at this depth is read by f -/
def RdM (X : zX) (d : Nat) (b : Int → Int) (n : Int) (T : Nat) (dp : Int) (f : Nat → pR) : Prop := ∀ (S : zS) (t : Nat) (R : List Int) (u c : Int → Int), RS S b n T t R dp u c → R.length ≤ 2 * t → u dp = 0 → c dp = 0 → StW S → match f t with
  | .inl e => ∃ S' : zS, hd5 X d 1 0 S = some (none, mk S') ∧ RBad S' (tpos b n e) ∧ FrP S S'
  | .inr (ops, t1) => ∃ (S' : zS) (P : List Int) (u' c' : Int → Int), hd5 X d 1 0 S = hd5 X d 0 0 S' ∧ ops = P ++ (if 1 ≤ c' dp then [5] else []) ∧ ops ≠ [] ∧ t < t1 ∧ RS S' b n T t1 (R ++ P) dp u' c' ∧ (R ++ P).length ≤ 2 * t1 ∧ 0 ≤ c' dp ∧ c' dp ≤ t1 ∧ (∀ i, i < dp → u' i = u i ∧ c' i = c i) ∧ tc b n t1 ≠ 260 ∧ ¬ begU (tc b n t1) ∧ FrP S S'
/-- the end of a unit -/
theorem ref_tail {X : zX} {d : Nat} (hd : 4 < d) {b : Int → Int} {n : Int} {T t : Nat} (hT : RTape b n T) {S : zS} {R0 ops : List Int} {dp : Int} {u c : Int → Int} (h : RS S b n T t (R0 ++ ops) dp u c) (hl : (R0 ++ ops).length + 1 ≤ 2 * t) (hu : 0 ≤ u dp ∧ u dp ≤ t) {S0 : zS} (hF : FrP S0 S) (r : Option (Option Value × zM)) (hr : ∀ S', (∀ {cm cp : Nat} {L : zL} {st : List Value}, z_evc X d 212 [.ref 72] (cm, cp, L, st, mk S) = z_ev X d (cm, cp, L, st, mk S')) → r = hd5 X d 0 0 S') (hne : ops ≠ []) : match pTimes (tc b n) (tv b n) ops t with
  | .inl e => ∃ S' : zS, r = some (none, mk S') ∧ RBad S' (tpos b n e) ∧ FrP S0 S'
  | .inr (x, t1) => ∃ (S' : zS), r = hd5 X d 0 0 S' ∧ x ≠ [] ∧ t ≤ t1 ∧ RS S' b n T t1 (R0 ++ x ++ (if 1 ≤ u dp then [4] else [])) dp (up1 u dp (u dp + 1)) c ∧ (R0 ++ x ++ (if 1 ≤ u dp then [4] else [])).length ≤ 2 * t1 ∧ FrP S0 S' := by
  have htT := h.2.1
  have h3 := hT.2.2
  have := z212 (X := X) (d := d) hd hT h hl (by omega)
  rw [pTimes_app]
  cases hp : pTimes (tc b n) (tv b n) [] t with
  | inl e =>
    rw [hp] at this
    obtain ⟨S', a1, a2, a3⟩ := this
    exact ⟨S', by rw [hr S' a1]; exact hd5_bad a2.1, a2, hF.tr a3⟩
  | inr p =>
    obtain ⟨x, t1⟩ := p
    rw [hp] at this
    obtain ⟨S', a1, a2, a3, a4, a5⟩ := this
    simp only []
    rw [List.append_assoc R0 ops x] at a3 a4
    refine ⟨S', hr S' a1, fun h => hne (List.append_eq_nil_iff.mp h).1, a2, a3, ?_, hF.tr a5⟩
    rw [List.length_append]
    split
    · show _ + 1 ≤ _; omega
    · show _ + 0 ≤ _; omega
theorem ref_unit {X : zX} {d : Nat} (hd : 5 < d) {b : Int → Int} {n : Int} {T t : Nat} (hT : RTape b n T) {dp : Int} {M : Option (Nat → pR)} (hM : (dp = 8 ∧ M = none) ∨ (dp < 8 ∧ ∃ f, M = some f ∧ RdM X d b n T (dp + 1) f)) {S : zS} (hW : StW S) {R : List Int} {u c : Int → Int} (h : RS S b n T t R dp u c) (hl : R.length ≤ 2 * t) (hu : 0 ≤ u dp ∧ u dp ≤ t) : match pUnit (tc b n) (tv b n) M t with
  | .inl e => ∃ S' : zS, hd5 X d 1 0 S = some (none, mk S') ∧ RBad S' (tpos b n e) ∧ FrP S S'
  | .inr (x, t1) => ∃ (S' : zS) (u' c' : Int → Int), hd5 X d 1 0 S = hd5 X d 0 0 S' ∧ x ≠ [] ∧ t < t1 ∧ RS S' b n T t1 (R ++ x ++ (if 1 ≤ u dp then [4] else [])) dp u' c' ∧ (R ++ x ++ (if 1 ≤ u dp then [4] else [])).length ≤ 2 * t1 ∧ u' dp = u dp + 1 ∧ c' dp = c dp ∧ (∀ i, i < dp → u' i = u i ∧ c' i = c i) ∧ FrP S S' := by
  have h19 := h.1.2.2.2
  by_cases q : tc b n t = 40 ∧ dp < 8
  · obtain ⟨q1, q2⟩ := q
    rcases hM with ⟨w, -⟩ | ⟨-, f, rfl, hf⟩
    · omega
    · obtain ⟨S1, a1, a2, a3⟩ := z214a (X := X) (d := d) (by omega) hT h q1 q2
      have ht := tc_lt hT.2.1 (t := t) (by omega)
      have h19' := a2.1.2.2.2
      have e1 : hd5 X d 1 0 S = hd5 X d 1 0 S1 := by
        unfold hd5
        rw [B215_22]
        simp (disch := first | omega | assumption | exact b01_rng _ | exact st_5 | exact st_12 | exact st_19 | (simp only [isSt_sI, isSt_sJ, isSt_sF, isSt_sG, isSt_sA]; assumption)) only [↓B215_0, ↓B215_4, ↓B215_18, ↓B215_29, ↓B215_33, ↓B215_37, ↓B215_41, ↓B215_44, ↓B215_48, ↓B215_49, ↓B215_57, ↓B215_61, ↓B215_65, ↓B215_68, ↓B215_75, ↓B215_78, ↓B215_82, ↓B215_86, ↓B215_91, ↓B215_98, ↓B215_104, ↓B215_107, ↓B215_111, ↓B215_115, ↓B215_129, ↓B215_132, ↓B215_136, ↓B215_140, ↓B215_146, ↓B215_149, ↓B215_154, ↓B215_159, ↓B215_166, ↓B215_173, ↓B215_180, ↓B215_185, ↓B215_192, ↓B215_196, ↓o_72, ↓r_72_16, ↓r_72_19, ↓r_72_47, ↓w_72_44, ↓w_72_47, a1, i_lit, i_add, i_sub, i_mul, i_neg, i_lt, i_le, i_eq, i32_gI, i64_gJ, i32_id, i32_to, i64_to, sI_i32, sJ_i64, b01_t, b01_f, i32_b01, b01_0, ↓a_s0, ↓n_s0, ↓a_s1, ↓n_s1, Int.add_zero, t_lt, f_lt, t_le, f_le, t_eq, f_eq, true_and, and_true, false_and, and_false, and_self, ↓reduceIte, z_bool_of, or_true, true_or, or_false, false_or, Int.neg_neg, not_true_eq_false, not_false_eq_true, lg_lt, lg_le, lg_gt, lg_ge, lg_eq, j_lit, j_add, j_sub, j_mul, j_neg, j_eq, i64_id, ij, ji, z_rt, Nat.reduceEqDiff, Nat.reduceAdd, Int.reduceAdd, Int.reduceSub, Int.reduceMul, Int.reduceNeg, Int.reduceLT, Int.reduceLE, Int.reduceEq, h19, h19']
      have hf1 := hf S1 (t + 1) R _ _ a2 (by omega) (if_pos rfl) (if_pos rfl) (hW.fr a3)
      have eP : pUnit (tc b n) (tv b n) (some f) t = (match f (t + 1) with | .inl e => .inl e | .inr (r, t1) => if tc b n t1 = 41 then pTimes (tc b n) (tv b n) r (t1 + 1) else .inl t1) := by
        show (if tc b n t = 40 then _ else _) = _
        rw [if_pos q1]
        cases f (t + 1) with
        | inl e => rfl
        | inr p => rfl
      rw [eP, e1]
      cases hp : f (t + 1) with
      | inl e =>
        rw [hp] at hf1
        obtain ⟨S2, b1, b2, b3⟩ := hf1
        exact ⟨S2, b1, b2, a3.tr b3⟩
      | inr p =>
        obtain ⟨ops, t1⟩ := p
        rw [hp] at hf1
        obtain ⟨S2, P, u2, c2, b1, b2, b3, b4, b5, b6, b7, b8, b9, b10, b11, b12⟩ := hf1
        simp only []
        rw [b1]
        have hW2 := (hW.fr a3).fr b12
        by_cases q4 : tc b n t1 = 41
        · rw [if_pos q4]
          have ht1 := tc_lt hT.2.1 (t := t1) (by omega)
          have h3 := hT.2.2
          obtain ⟨S3, d1, d2, d3⟩ := z176 (X := X) (d := d) (by omega) hT.1 b5.1
          have hS3 := b5.nx d2 d3 (by omega) (show t1 + 1 ≤ T by omega)
          obtain ⟨hS4, hF4⟩ := hS3.choice h3 (by omega) (by omega)
          rw [List.append_assoc, ← b2] at hS4
          have h47 := hS3.2.2.2.2.2.1
          have h96 := (hS3.2.2.2.2.2.2 (dp + 1) (by omega) (by omega)).2
          have h44 := hS3.2.2.1
          have hl44 := b6
          have k213 := fun {cm cp : Nat} {L : zL} {st : List Value} => c213 (X := X) (d := d) (S := S3) (by omega) (dp + 1) (c2 (dp + 1)) h47.1 h47.2 h96 (by omega) (by omega) (cm := cm) (cp := cp) (L := L) (st := st)
          have hl5 : (R ++ ops).length + 1 ≤ 2 * (t1 + 1) := by
            rw [b2, ← List.append_assoc, List.length_append]
            split
            · show _ + 1 + 1 ≤ _; omega
            · show _ + 0 + 1 ≤ _; omega
          have h47' := hS4.2.2.2.2.2.1.1
          -- one level up
          have hS5 : RS (sI (choiceS S3 (dp + 1) (c2 (dp + 1))) 72 47 dp) b n T (t1 + 1) (R ++ ops) dp u c := by
            obtain ⟨z1, z2, z3, z4, z5, z6, z7⟩ := hS4
            have hdp := h.2.2.2.2.2.1.2
            refine ⟨z1.fr (fun i q => by (repeat (first | rw [gI_sI, if_neg (by omega)] | rw [gI_sF, if_neg (by omega)] | rw [gI_sJ] | rw [gI_sG] | rw [gI_sQ]))) (fun i => by (repeat (first | rw [gI_sI, if_neg (by omega)] | rw [gI_sF, if_neg (by omega)] | rw [gI_sJ] | rw [gI_sG] | rw [gI_sQ]))) rfl, ⟨z2.1, by (repeat (first | rw [gI_sI, if_neg (by omega)] | rw [gI_sF, if_neg (by omega)] | rw [gI_sJ] | rw [gI_sG] | rw [gI_sQ])); exact z2.2⟩, by (repeat (first | rw [gI_sI, if_neg (by omega)] | rw [gI_sF, if_neg (by omega)] | rw [gI_sJ] | rw [gI_sG] | rw [gI_sQ])); exact z3, z4, fun j x q => by (repeat (first | rw [gI_sI, if_neg (by omega)] | rw [gI_sF, if_neg (by omega)] | rw [gI_sJ] | rw [gI_sG] | rw [gI_sQ])); exact z5 j x q, ⟨by rw [gI_sI, if_pos ⟨rfl, rfl⟩, i32_id (by omega) (by omega)], hdp⟩, fun i y1 y2 => ?_⟩
            have := z7 i y1 (by omega)
            rw [gI_sI, if_neg (by omega), gI_sI, if_neg (by omega)]
            unfold up1 at this
            rw [if_neg (by omega), if_neg (by omega)] at this
            obtain ⟨v1, v2⟩ := b9 i (by omega)
            unfold up1 at v1 v2
            rw [if_neg (by omega)] at v1 v2
            rw [← v1, ← v2]; exact this
          have w41 : (gI S2 72 16 = 3 ∧ gJ S2 72 17 = 41) = (tc b n t1 = 41) := b5.1.s hT.1 (c := 41) (by omega) (by unfold isL; omega) (by unfold isD; omega)
          have wo : (gI S2 72 16 = 1 ∧ gJ S2 72 17 = 498) = (tc b n t1 = 260) := b5.1.w hT.1 (k := 4) rfl
          have h19b := b5.1.2.2.2
          have h47b := b5.2.2.2.2.2.1
          have := ref_tail (X := X) (d := d) (by omega) hT (R0 := R) (ops := ops) hS5 hl5 (by omega) (S0 := S) (((a3.tr b12).tr d3.m).tr (hF4.tr (FrP.I (by omega)))) (hd5 X d 0 0 S2) (fun S' hS' => by
            unfold hd5
            rw [B215_22]
            have e0 : dp + 1 - 1 = dp := by omega
            have hdp := h.2.2.2.2.2.1.2
            simp (disch := first | omega | assumption | exact b01_rng _ | exact st_5 | exact st_12 | exact st_19 | (simp only [isSt_sI, isSt_sJ, isSt_sF, isSt_sG, isSt_sA]; assumption)) only [↓B215_0, ↓B215_4, ↓B215_18, ↓B215_29, ↓B215_33, ↓B215_37, ↓B215_41, ↓B215_44, ↓B215_48, ↓B215_49, ↓B215_57, ↓B215_61, ↓B215_65, ↓B215_68, ↓B215_75, ↓B215_78, ↓B215_82, ↓B215_86, ↓B215_91, ↓B215_98, ↓B215_104, ↓B215_107, ↓B215_111, ↓B215_115, ↓B215_129, ↓B215_132, ↓B215_136, ↓B215_140, ↓B215_146, ↓B215_149, ↓B215_154, ↓B215_159, ↓B215_166, ↓B215_173, ↓B215_180, ↓B215_185, ↓B215_192, ↓B215_196, ↓o_72, ↓r_72_16, ↓r_72_19, ↓r_72_47, ↓w_72_44, ↓w_72_47, c177, c178, d1, k213, hS', i_lit, i_add, i_sub, i_mul, i_neg, i_lt, i_le, i_eq, i32_gI, i64_gJ, i32_id, i32_to, i64_to, sI_i32, sJ_i64, b01_t, b01_f, i32_b01, b01_0, ↓a_s0, ↓n_s0, ↓a_s1, ↓n_s1, Int.add_zero, t_lt, f_lt, t_le, f_le, t_eq, f_eq, true_and, and_true, false_and, and_false, and_self, ↓reduceIte, z_bool_of, or_true, true_or, or_false, false_or, Int.neg_neg, not_true_eq_false, not_false_eq_true, lg_lt, lg_le, lg_gt, lg_ge, lg_eq, j_lit, j_add, j_sub, j_mul, j_neg, j_eq, i64_id, ij, ji, z_rt, Nat.reduceEqDiff, Nat.reduceAdd, Int.reduceAdd, Int.reduceSub, Int.reduceMul, Int.reduceNeg, Int.reduceLT, Int.reduceLE, Int.reduceEq, w41, wo, h19b, h47b.1, h47', b10, q4, e0]) b3
          cases hp2 : pTimes (tc b n) (tv b n) ops (t1 + 1) with
          | inl e => rw [hp2] at this; exact this
          | inr p2 =>
            obtain ⟨x, t2⟩ := p2
            rw [hp2] at this
            obtain ⟨S', y1, y2, y3, y4, y5, y6⟩ := this
            exact ⟨S', _, _, y1, y2, by omega, y4, y5, if_pos rfl, rfl, fun i hi => ⟨if_neg (by omega), rfl⟩, y6⟩
        · rw [if_neg q4]
          rw [hd5_over (X := X) (d := d) (by omega) hT hW2 b5 b11 b10 (by omega), hd5_miss (X := X) (d := d) (by omega) hT b5 (Or.inr (by have := h.2.2.2.2.2.1.2; omega))]
          obtain ⟨v1, v2⟩ := badS_bad b5.1 hT.1.1
          exact ⟨badS S2, rfl, v1, (a3.tr b12).tr v2⟩
  · by_cases q3 : 256 ≤ tc b n t ∧ tc b n t ≤ 259
    · have eP : pUnit (tc b n) (tv b n) M t = pTimes (tc b n) (tv b n) [tc b n t - 256] (t + 1) := by
        cases M with
        | none => show (if _ then _ else _) = _; rw [if_pos q3]
        | some f => show (if _ then _ else if _ then _ else _) = _; rw [if_neg (by omega), if_pos q3]
      obtain ⟨S1, a1, a2, a3⟩ := z214c (X := X) (d := d) (by omega) hT hW h hl q3
      have h19' := a2.1.2.2.2
      have := ref_tail (X := X) (d := d) (by omega) hT (R0 := R) (ops := [tc b n t - 256]) a2 (by rw [List.length_append]; show R.length + 1 + 1 ≤ _; omega) (by omega) (S0 := S) a3 (hd5 X d 1 0 S) (fun S' hS' => by
        unfold hd5
        rw [B215_22]
        simp (disch := first | omega | assumption | exact b01_rng _ | exact st_5 | exact st_12 | exact st_19 | (simp only [isSt_sI, isSt_sJ, isSt_sF, isSt_sG, isSt_sA]; assumption)) only [↓B215_0, ↓B215_4, ↓B215_18, ↓B215_29, ↓B215_33, ↓B215_37, ↓B215_41, ↓B215_44, ↓B215_48, ↓B215_49, ↓B215_57, ↓B215_61, ↓B215_65, ↓B215_68, ↓B215_75, ↓B215_78, ↓B215_82, ↓B215_86, ↓B215_91, ↓B215_98, ↓B215_104, ↓B215_107, ↓B215_111, ↓B215_115, ↓B215_129, ↓B215_132, ↓B215_136, ↓B215_140, ↓B215_146, ↓B215_149, ↓B215_154, ↓B215_159, ↓B215_166, ↓B215_173, ↓B215_180, ↓B215_185, ↓B215_192, ↓B215_196, ↓o_72, ↓r_72_16, ↓r_72_19, ↓r_72_47, ↓w_72_44, ↓w_72_47, a1, hS', i_lit, i_add, i_sub, i_mul, i_neg, i_lt, i_le, i_eq, i32_gI, i64_gJ, i32_id, i32_to, i64_to, sI_i32, sJ_i64, b01_t, b01_f, i32_b01, b01_0, ↓a_s0, ↓n_s0, ↓a_s1, ↓n_s1, Int.add_zero, t_lt, f_lt, t_le, f_le, t_eq, f_eq, true_and, and_true, false_and, and_false, and_self, ↓reduceIte, z_bool_of, or_true, true_or, or_false, false_or, Int.neg_neg, not_true_eq_false, not_false_eq_true, lg_lt, lg_le, lg_gt, lg_ge, lg_eq, j_lit, j_add, j_sub, j_mul, j_neg, j_eq, i64_id, ij, ji, z_rt, Nat.reduceEqDiff, Nat.reduceAdd, Int.reduceAdd, Int.reduceSub, Int.reduceMul, Int.reduceNeg, Int.reduceLT, Int.reduceLE, Int.reduceEq, h19, h19']) (by simp)
      rw [eP]
      cases hp2 : pTimes (tc b n) (tv b n) [tc b n t - 256] (t + 1) with
      | inl e => rw [hp2] at this; exact this
      | inr p2 =>
        obtain ⟨x, t2⟩ := p2
        rw [hp2] at this
        obtain ⟨S', y1, y2, y3, y4, y5, y6⟩ := this
        exact ⟨S', _, _, y1, y2, by omega, y4, y5, if_pos rfl, rfl, fun i hi => ⟨if_neg (by omega), rfl⟩, y6⟩
    · have eP : pUnit (tc b n) (tv b n) M t = .inl t := by
        rcases hM with ⟨-, rfl⟩ | ⟨w, f, rfl, -⟩
        · show (if _ then _ else _) = _; rw [if_neg q3]
        · show (if _ then _ else if _ then _ else _) = _; rw [if_neg (by omega), if_neg q3]
      obtain ⟨v, hv, a1⟩ := z214b (X := X) (d := d) (by omega) hT hW h q q3
      obtain ⟨v1, v2⟩ := badS_bad h.1 hT.1.1
      have h19' := v1.1
      rw [eP]
      refine ⟨badS S, ?_, v1, v2⟩
      rw [show hd5 X d 1 0 S = hd5 X d (1 - v) 0 (badS S) from by
        unfold hd5
        rw [B215_22]
        rcases hv with rfl | rfl
        · simp (disch := first | omega | assumption | exact b01_rng _ | exact st_5 | exact st_12 | exact st_19 | (simp only [isSt_sI, isSt_sJ, isSt_sF, isSt_sG, isSt_sA]; assumption)) only [↓B215_0, ↓B215_4, ↓B215_18, ↓B215_29, ↓B215_33, ↓B215_37, ↓B215_41, ↓B215_44, ↓B215_48, ↓B215_49, ↓B215_57, ↓B215_61, ↓B215_65, ↓B215_68, ↓B215_75, ↓B215_78, ↓B215_82, ↓B215_86, ↓B215_91, ↓B215_98, ↓B215_104, ↓B215_107, ↓B215_111, ↓B215_115, ↓B215_129, ↓B215_132, ↓B215_136, ↓B215_140, ↓B215_146, ↓B215_149, ↓B215_154, ↓B215_159, ↓B215_166, ↓B215_173, ↓B215_180, ↓B215_185, ↓B215_192, ↓B215_196, ↓o_72, ↓r_72_16, ↓r_72_19, ↓r_72_47, ↓w_72_44, ↓w_72_47, a1, i_lit, i_add, i_sub, i_mul, i_neg, i_lt, i_le, i_eq, i32_gI, i64_gJ, i32_id, i32_to, i64_to, sI_i32, sJ_i64, b01_t, b01_f, i32_b01, b01_0, ↓a_s0, ↓n_s0, ↓a_s1, ↓n_s1, Int.add_zero, t_lt, f_lt, t_le, f_le, t_eq, f_eq, true_and, and_true, false_and, and_false, and_self, ↓reduceIte, z_bool_of, or_true, true_or, or_false, false_or, Int.neg_neg, not_true_eq_false, not_false_eq_true, lg_lt, lg_le, lg_gt, lg_ge, lg_eq, j_lit, j_add, j_sub, j_mul, j_neg, j_eq, i64_id, ij, ji, z_rt, Nat.reduceEqDiff, Nat.reduceAdd, Int.reduceAdd, Int.reduceSub, Int.reduceMul, Int.reduceNeg, Int.reduceLT, Int.reduceLE, Int.reduceEq, h19, h19']
        · simp (disch := first | omega | assumption | exact b01_rng _ | exact st_5 | exact st_12 | exact st_19 | (simp only [isSt_sI, isSt_sJ, isSt_sF, isSt_sG, isSt_sA]; assumption)) only [↓B215_0, ↓B215_4, ↓B215_18, ↓B215_29, ↓B215_33, ↓B215_37, ↓B215_41, ↓B215_44, ↓B215_48, ↓B215_49, ↓B215_57, ↓B215_61, ↓B215_65, ↓B215_68, ↓B215_75, ↓B215_78, ↓B215_82, ↓B215_86, ↓B215_91, ↓B215_98, ↓B215_104, ↓B215_107, ↓B215_111, ↓B215_115, ↓B215_129, ↓B215_132, ↓B215_136, ↓B215_140, ↓B215_146, ↓B215_149, ↓B215_154, ↓B215_159, ↓B215_166, ↓B215_173, ↓B215_180, ↓B215_185, ↓B215_192, ↓B215_196, ↓o_72, ↓r_72_16, ↓r_72_19, ↓r_72_47, ↓w_72_44, ↓w_72_47, a1, i_lit, i_add, i_sub, i_mul, i_neg, i_lt, i_le, i_eq, i32_gI, i64_gJ, i32_id, i32_to, i64_to, sI_i32, sJ_i64, b01_t, b01_f, i32_b01, b01_0, ↓a_s0, ↓n_s0, ↓a_s1, ↓n_s1, Int.add_zero, t_lt, f_lt, t_le, f_le, t_eq, f_eq, true_and, and_true, false_and, and_false, and_self, ↓reduceIte, z_bool_of, or_true, true_or, or_false, false_or, Int.neg_neg, not_true_eq_false, not_false_eq_true, lg_lt, lg_le, lg_gt, lg_ge, lg_eq, j_lit, j_add, j_sub, j_mul, j_neg, j_eq, i64_id, ij, ji, z_rt, Nat.reduceEqDiff, Nat.reduceAdd, Int.reduceAdd, Int.reduceSub, Int.reduceMul, Int.reduceNeg, Int.reduceLT, Int.reduceLE, Int.reduceEq, h19, h19']]
      exact hd5_bad h19'
/-- a choice's units, one by one -/
theorem ref_units {X : zX} {d : Nat} (hd : 5 < d) {b : Int → Int} {n : Int} {T : Nat} (hT : RTape b n T) {dp : Int} {M : Option (Nat → pR)} (hM : (dp = 8 ∧ M = none) ∨ (dp < 8 ∧ ∃ f, M = some f ∧ RdM X d b n T (dp + 1) f)) {S0 : zS} {R0 : List Int} {u0 c0 : Int → Int} : ∀ (m : Nat) (acc : List Int) (t : Nat) (S : zS) (u c : Int → Int), 500 ≤ m + t → FrP S0 S → StW S → RS S b n T t (R0 ++ acc) dp u c → (R0 ++ acc).length ≤ 2 * t → 0 ≤ u dp → u dp ≤ t → (1 ≤ u dp ↔ acc ≠ []) → c dp = c0 dp → (∀ i, i < dp → u i = u0 i ∧ c i = c0 i) → match pRow (pUnit (tc b n) (tv b n) M) (moreU (tc b n)) 4 m acc t with
  | .inl e => ∃ S' : zS, hd5 X d 1 0 S = some (none, mk S') ∧ RBad S' (tpos b n e) ∧ FrP S0 S'
  | .inr (x, t1) => ∃ (S' : zS) (u' c' : Int → Int), hd5 X d 1 0 S = hd5 X d 0 0 S' ∧ x ≠ [] ∧ t < t1 ∧ RS S' b n T t1 (R0 ++ x) dp u' c' ∧ (R0 ++ x).length ≤ 2 * t1 ∧ c' dp = c0 dp ∧ (∀ i, i < dp → u' i = u0 i ∧ c' i = c0 i) ∧ ¬ begU (tc b n t1) ∧ FrP S0 S' := by
  intro m
  induction m with
  | zero =>
    intro acc t S u c h1 h2 h3 h4
    have := h4.2.1
    have := hT.2.2
    omega
  | succ m ih =>
    intro acc t S u c h1 hF hW h hl hu0 hu1 hu2 hc hlow
    have hu := ref_unit (X := X) (d := d) hd hT hM hW h hl ⟨hu0, hu1⟩
    have eP : pRow (pUnit (tc b n) (tv b n) M) (moreU (tc b n)) 4 (m + 1) acc t = (match pUnit (tc b n) (tv b n) M t with
      | .inl e => .inl e
      | .inr (r, t1) => match moreU (tc b n) t1 with
        | some t2 => pRow (pUnit (tc b n) (tv b n) M) (moreU (tc b n)) 4 m (if acc = [] then r else acc ++ r ++ [4]) t2
        | none => .inr (if acc = [] then r else acc ++ r ++ [4], t1)) := rfl
    rw [eP]
    cases hp : pUnit (tc b n) (tv b n) M t with
    | inl e =>
      rw [hp] at hu
      obtain ⟨S1, a1, a2, a3⟩ := hu
      exact ⟨S1, a1, a2, hF.tr a3⟩
    | inr p =>
      obtain ⟨r, t1⟩ := p
      rw [hp] at hu
      obtain ⟨S1, u1, c1, a1, a2, a3, a4, a5, a6, a7, a8, a9⟩ := hu
      have eA : R0 ++ acc ++ r ++ (if 1 ≤ u dp then [4] else []) = R0 ++ (if acc = [] then r else acc ++ r ++ [4]) := by
        by_cases q : acc = []
        · rw [if_pos q, if_neg (fun w => hu2.mp w q), q, List.append_nil, List.append_nil]
        · rw [if_neg q, if_pos (hu2.mpr q)]; simp only [List.append_assoc]
      have hne : (if acc = [] then r else acc ++ r ++ [4]) ≠ [] := by
        split
        · exact a2
        · simp
      rw [eA] at a4 a5
      have hlow1 : ∀ i, i < dp → u1 i = u0 i ∧ c1 i = c0 i := fun i hi => ⟨(a8 i hi).1.trans (hlow i hi).1, (a8 i hi).2.trans (hlow i hi).2⟩
      simp only []
      by_cases q : begU (tc b n t1)
      · have eM : moreU (tc b n) t1 = some t1 := by unfold moreU; rw [if_pos q]
        rw [eM]
        have := ih _ t1 S1 u1 c1 (by omega) (hF.tr a9) (hW.fr a9) a4 a5 (by omega) (by omega) ⟨fun _ => hne, fun _ => by omega⟩ (a7.trans hc) hlow1
        rw [a1, hd5_more (X := X) (d := d) (by omega) hT (hW.fr a9) a4 q]
        simp only []
        cases hp2 : pRow (pUnit (tc b n) (tv b n) M) (moreU (tc b n)) 4 m (if acc = [] then r else acc ++ r ++ [4]) t1 with
        | inl e => rw [hp2] at this; exact this
        | inr p2 =>
          obtain ⟨x, t2⟩ := p2
          rw [hp2] at this
          obtain ⟨S2, u2, c2, b1, b2, b3, b4⟩ := this
          exact ⟨S2, u2, c2, b1, b2, by omega, b4⟩
      · have eM : moreU (tc b n) t1 = none := by unfold moreU; rw [if_neg q]
        rw [eM]
        exact ⟨S1, u1, c1, a1, hne, a3, a4, a5, a7.trans hc, hlow1, q, hF.tr a9⟩
/-- a metre's choices, one by one -/
theorem ref_choices {X : zX} {d : Nat} (hd : 5 < d) {b : Int → Int} {n : Int} {T : Nat} (hT : RTape b n T) {dp : Int} {M : Option (Nat → pR)} (hM : (dp = 8 ∧ M = none) ∨ (dp < 8 ∧ ∃ f, M = some f ∧ RdM X d b n T (dp + 1) f)) {S0 : zS} {R0 : List Int} {u0 c0 : Int → Int} : ∀ (m : Nat) (acc : List Int) (t : Nat) (S : zS) (u c : Int → Int), 500 ≤ m + t → FrP S0 S → StW S → RS S b n T t (R0 ++ acc) dp u c → (R0 ++ acc).length ≤ 2 * t → u dp = 0 → 0 ≤ c dp → c dp ≤ t → (1 ≤ c dp ↔ acc ≠ []) → (∀ i, i < dp → u i = u0 i ∧ c i = c0 i) → match pRow (pCh (tc b n) (tv b n) M) (moreC (tc b n)) 5 m acc t with
  | .inl e => ∃ S' : zS, hd5 X d 1 0 S = some (none, mk S') ∧ RBad S' (tpos b n e) ∧ FrP S0 S'
  | .inr (x, t1) => ∃ (S' : zS) (P : List Int) (u' c' : Int → Int), hd5 X d 1 0 S = hd5 X d 0 0 S' ∧ x = P ++ (if 1 ≤ c' dp then [5] else []) ∧ x ≠ [] ∧ t < t1 ∧ RS S' b n T t1 (R0 ++ P) dp u' c' ∧ (R0 ++ P).length ≤ 2 * t1 ∧ 0 ≤ c' dp ∧ c' dp ≤ t1 ∧ (∀ i, i < dp → u' i = u0 i ∧ c' i = c0 i) ∧ tc b n t1 ≠ 260 ∧ ¬ begU (tc b n t1) ∧ FrP S0 S' := by
  intro m
  induction m with
  | zero =>
    intro acc t S u c h1 h2 h3 h4
    have := h4.2.1
    have := hT.2.2
    omega
  | succ m ih =>
    intro acc t S u c h1 hF hW h hl hu0 hc0 hc1 hc2 hlow
    have hu := ref_units (X := X) (d := d) hd hT hM (S0 := S) (R0 := R0 ++ acc) (u0 := u) (c0 := c) 500 [] t S u c (by omega) FrP.rf hW (by rw [List.append_nil]; exact h) (by rw [List.append_nil]; exact hl) (by omega) (by omega) ⟨fun w => by omega, fun w => absurd rfl w⟩ rfl (fun _ _ => ⟨rfl, rfl⟩)
    have eP : pRow (pCh (tc b n) (tv b n) M) (moreC (tc b n)) 5 (m + 1) acc t = (match pRow (pUnit (tc b n) (tv b n) M) (moreU (tc b n)) 4 500 [] t with
      | .inl e => .inl e
      | .inr (r, t1) => match moreC (tc b n) t1 with
        | some t2 => pRow (pCh (tc b n) (tv b n) M) (moreC (tc b n)) 5 m (if acc = [] then r else acc ++ r ++ [5]) t2
        | none => .inr (if acc = [] then r else acc ++ r ++ [5], t1)) := rfl
    rw [eP]
    cases hp : pRow (pUnit (tc b n) (tv b n) M) (moreU (tc b n)) 4 500 [] t with
    | inl e =>
      rw [hp] at hu
      obtain ⟨S1, a1, a2, a3⟩ := hu
      exact ⟨S1, a1, a2, hF.tr a3⟩
    | inr p =>
      obtain ⟨r, t1⟩ := p
      rw [hp] at hu
      obtain ⟨S1, u1, c1, a1, a2, a3, a4, a5, a6, a7, a8, a9⟩ := hu
      have hne : (if acc = [] then r else acc ++ r ++ [5]) ≠ [] := by
        split
        · exact a2
        · simp
      have hlow1 : ∀ i, i < dp → u1 i = u0 i ∧ c1 i = c0 i := fun i hi => ⟨(a7 i hi).1.trans (hlow i hi).1, (a7 i hi).2.trans (hlow i hi).2⟩
      have hW1 := hW.fr a9
      have eA : R0 ++ acc ++ r ++ (if 1 ≤ c1 dp then [5] else []) = R0 ++ (if acc = [] then r else acc ++ r ++ [5]) := by
        rw [a6]
        by_cases q : acc = []
        · rw [if_pos q, if_neg (fun w => hc2.mp w q), q, List.append_nil, List.append_nil]
        · rw [if_neg q, if_pos (hc2.mpr q)]; simp only [List.append_assoc]
      simp only []
      by_cases q : tc b n t1 = 260
      · have eM : moreC (tc b n) t1 = some (t1 + 1) := by unfold moreC; rw [if_pos q]
        rw [eM]
        have ht1 := tc_lt hT.2.1 (t := t1) (by omega)
        have h3 := hT.2.2
        obtain ⟨S3, d1, d2, d3⟩ := z176 (X := X) (d := d) (by omega) hT.1 a4.1
        have hS3 := a4.nx d2 d3 (by omega) (show t1 + 1 ≤ T by omega)
        obtain ⟨hS4, hF4⟩ := hS3.choice h3 (by omega) (by omega)
        rw [eA] at hS4
        have h47 := hS3.2.2.2.2.2.1
        have h96 := (hS3.2.2.2.2.2.2 dp (by omega) (by omega)).2
        have h44 := hS3.2.2.1
        have k213 := fun {cm cp : Nat} {L : zL} {st : List Value} => c213 (X := X) (d := d) (S := S3) (by omega) dp (c1 dp) h47.1 h47.2 h96 (by omega) (by omega) (cm := cm) (cp := cp) (L := L) (st := st)
        have wo : (gI S1 72 16 = 1 ∧ gJ S1 72 17 = 498) = (tc b n t1 = 260) := a4.1.w hT.1 (k := 4) rfl
        have h19 := a4.1.2.2.2
        have hFF : FrP S0 (choiceS S3 dp (c1 dp)) := (hF.tr a9).tr (d3.m.tr hF4)
        have := ih _ (t1 + 1) _ _ _ (by omega) hFF (hW1.fr (d3.m.tr hF4)) hS4 (by
          rw [← eA, List.length_append]
          split
          · show _ + 1 ≤ _; omega
          · show _ + 0 ≤ _; omega) (if_pos rfl) (by unfold up1; rw [if_pos rfl]; omega) (by unfold up1; rw [if_pos rfl]; omega) ⟨fun _ => hne, fun _ => by unfold up1; rw [if_pos rfl]; omega⟩ (fun i hi => by unfold up1; rw [if_neg (by omega), if_neg (by omega)]; exact hlow1 i hi)
        rw [a1, show hd5 X d 0 0 S1 = hd5 X d 1 0 (choiceS S3 dp (c1 dp)) from by
          unfold hd5
          rw [B215_22]
          simp (disch := first | omega | assumption | exact b01_rng _ | exact st_5 | exact st_12 | exact st_19 | (simp only [isSt_sI, isSt_sJ, isSt_sF, isSt_sG, isSt_sA]; assumption)) only [↓B215_0, ↓B215_4, ↓B215_18, ↓B215_29, ↓B215_33, ↓B215_37, ↓B215_41, ↓B215_44, ↓B215_48, ↓B215_49, ↓B215_57, ↓B215_61, ↓B215_65, ↓B215_68, ↓B215_75, ↓B215_78, ↓B215_82, ↓B215_86, ↓B215_91, ↓B215_98, ↓B215_104, ↓B215_107, ↓B215_111, ↓B215_115, ↓B215_129, ↓B215_132, ↓B215_136, ↓B215_140, ↓B215_146, ↓B215_149, ↓B215_154, ↓B215_159, ↓B215_166, ↓B215_173, ↓B215_180, ↓B215_185, ↓B215_192, ↓B215_196, ↓o_72, ↓r_72_16, ↓r_72_19, ↓r_72_47, ↓w_72_44, ↓w_72_47, c177, d1, k213, i_lit, i_add, i_sub, i_mul, i_neg, i_lt, i_le, i_eq, i32_gI, i64_gJ, i32_id, i32_to, i64_to, sI_i32, sJ_i64, b01_t, b01_f, i32_b01, b01_0, ↓a_s0, ↓n_s0, ↓a_s1, ↓n_s1, Int.add_zero, t_lt, f_lt, t_le, f_le, t_eq, f_eq, true_and, and_true, false_and, and_false, and_self, ↓reduceIte, z_bool_of, or_true, true_or, or_false, false_or, Int.neg_neg, not_true_eq_false, not_false_eq_true, lg_lt, lg_le, lg_gt, lg_ge, lg_eq, j_lit, j_add, j_sub, j_mul, j_neg, j_eq, i64_id, ij, ji, z_rt, Nat.reduceEqDiff, Nat.reduceAdd, Int.reduceAdd, Int.reduceSub, Int.reduceMul, Int.reduceNeg, Int.reduceLT, Int.reduceLE, Int.reduceEq, wo, h19]]
        simp only []
        cases hp2 : pRow (pCh (tc b n) (tv b n) M) (moreC (tc b n)) 5 m (if acc = [] then r else acc ++ r ++ [5]) (t1 + 1) with
        | inl e => rw [hp2] at this; exact this
        | inr p2 =>
          obtain ⟨x, t2⟩ := p2
          rw [hp2] at this
          obtain ⟨S2, P, u2, c2, b1, b2, b3, b4, b5⟩ := this
          exact ⟨S2, P, u2, c2, b1, b2, b3, by omega, b5⟩
      · have eM : moreC (tc b n) t1 = none := by unfold moreC; rw [if_neg q]
        rw [eM]
        refine ⟨S1, acc ++ r, u1, c1, a1, ?_, hne, a3, by rw [← List.append_assoc]; exact a4, by rw [← List.append_assoc]; exact a5, by omega, by omega, hlow1, q, a8, hF.tr a9⟩
        exact List.append_cancel_left (as := R0) (by rw [← eA]; simp only [List.append_assoc])
theorem ref_metre {X : zX} {d : Nat} (hd : 5 < d) {b : Int → Int} {n : Int} {T : Nat} (hT : RTape b n T) : ∀ k : Nat, k ≤ 8 → RdM X d b n T (8 - k) (pM (tc b n) (tv b n) k) := by
  intro k
  induction k with
  | zero =>
    intro hk S t R u c h hl hu hc hW
    exact ref_choices (X := X) (d := d) hd hT (M := none) (Or.inl ⟨by omega, rfl⟩) (S0 := S) (R0 := R) (u0 := u) (c0 := c) 500 [] t S u c (by omega) FrP.rf hW (by rw [List.append_nil]; exact h) (by rw [List.append_nil]; exact hl) hu (by omega) (by omega) ⟨fun w => by omega, fun w => absurd rfl w⟩ (fun _ _ => ⟨rfl, rfl⟩)
  | succ k ih =>
    intro hk S t R u c h hl hu hc hW
    have := ih (by omega)
    rw [show (8 : Int) - (k : Int) = 8 - ((k + 1 : Nat) : Int) + 1 by omega] at this
    exact ref_choices (X := X) (d := d) hd hT (M := some (pM (tc b n) (tv b n) k)) (Or.inr ⟨by omega, _, rfl, this⟩) (S0 := S) (R0 := R) (u0 := u) (c0 := c) 500 [] t S u c (by omega) FrP.rf hW (by rw [List.append_nil]; exact h) (by rw [List.append_nil]; exact hl) hu (by omega) (by omega) ⟨fun w => by omega, fun w => absurd rfl w⟩ (fun _ _ => ⟨rfl, rfl⟩)
/-- the whole text: readMetre -/
theorem ref_text {X : zX} {d : Nat} (hd : 5 < d) {b : Int → Int} {n : Int} {T : Nat} (hT : RTape b n T) {S : zS} (hW : StW S) (h1 : gI S 72 13 = n) (h2 : gI S 81 = b) : ∃ S' : zS, z_ev X d (z_entry 215 [.ref 72] (mk S)) = some (none, mk S') ∧ FrP S S' ∧ match pM (tc b n) (tv b n) 8 0 with
  | .inl e => RBad S' (tpos b n e)
  | .inr (ops, t1) => if tc b n t1 = 301 then (gI S' 72 19 = 0 ∧ gI S' 72 18 = -1 ∧ gI S' 72 14 = n ∧ gI S' 72 44 = ops.length ∧ ops.length ≤ 802 ∧ ∀ (j : Nat) (x : Int), ops[j]? = some x → gI S' 94 j = x) else RBad S' (tpos b n t1) := by
  obtain ⟨S1, a1, a2, a3, a4⟩ := z175 (X := X) (d := d) (by omega) hT.1 h1 h2
  have hF1 : FrP S S1 := ⟨(by (repeat (first | exact Dyn.rf | refine Dyn.sI (by decide) ?_ | refine Dyn.sF (by decide) ?_ | refine Dyn.sJ ?_ | refine Dyn.sG ?_ | refine Dyn.sQ (by decide) ?_)) : Dyn S (sI (sI (sI S 72 15 0) 72 19 0) 72 18 (-1))).tr a4.1, fun a i q1 q2 q3 q4 => by rw [a4.2.1 a i (by omega)]; (repeat (first | rw [gI_sI, if_neg (by omega)] | rw [gI_sF, if_neg (by omega)] | rw [gI_sJ] | rw [gI_sG] | rw [gI_sQ])), fun a i q => by rw [a4.2.2.1 a i q]; rfl, fun a i => by rw [a4.2.2.2]; rfl⟩
  have h47 : gI (sI (sI S1 72 44 0) 72 47 0) 72 47 = 0 := by simp (disch := first | omega | assumption | exact b01_rng _ | exact st_5 | exact st_12 | exact st_19 | (simp only [isSt_sI, isSt_sJ, isSt_sF, isSt_sG, isSt_sA]; assumption)) only [gI_sI, i_lit, i_add, i_sub, i_mul, i_neg, i_lt, i_le, i_eq, i32_gI, i64_gJ, i32_id, i32_to, i64_to, sI_i32, sJ_i64, b01_t, b01_f, i32_b01, b01_0, ↓a_s0, ↓n_s0, ↓a_s1, ↓n_s1, Int.add_zero, t_lt, f_lt, t_le, f_le, t_eq, f_eq, true_and, and_true, false_and, and_false, and_self, ↓reduceIte, z_bool_of, or_true, true_or, or_false, false_or, Int.neg_neg, not_true_eq_false, not_false_eq_true, lg_lt, lg_le, lg_gt, lg_ge, lg_eq, j_lit, j_add, j_sub, j_mul, j_neg, j_eq, i64_id, ij, ji, z_rt, Nat.reduceEqDiff, Nat.reduceAdd, Int.reduceAdd, Int.reduceSub, Int.reduceMul, Int.reduceNeg, Int.reduceLT, Int.reduceLE, Int.reduceEq]
  have k211 := fun {cm cp : Nat} {L : zL} {st : List Value} => c211 (X := X) (d := d) (S := sI (sI S1 72 44 0) 72 47 0) (by omega) 0 h47 (by omega) (cm := cm) (cp := cp) (L := L) (st := st)
  have hF2 : FrP S1 (sI (sI (sI (sI S1 72 44 0) 72 47 0) 95 0 0) 96 0 0) := (((FrP.I (by omega)).tr (FrP.I (by omega))).tr (FrP.I (by omega))).tr (FrP.I (by omega))
  have hR : RS (sI (sI (sI (sI S1 72 44 0) 72 47 0) 95 0 0) 96 0 0) b n T 0 [] 0 (fun _ => 0) (fun _ => 0) := by
    refine ⟨a2.fr (fun i q => by (repeat (first | rw [gI_sI, if_neg (by omega)] | rw [gI_sF, if_neg (by omega)] | rw [gI_sJ] | rw [gI_sG] | rw [gI_sQ]))) (fun i => by (repeat (first | rw [gI_sI, if_neg (by omega)] | rw [gI_sF, if_neg (by omega)] | rw [gI_sJ] | rw [gI_sG] | rw [gI_sQ]))) rfl, ⟨by omega, by (repeat (first | rw [gI_sI, if_neg (by omega)] | rw [gI_sF, if_neg (by omega)] | rw [gI_sJ] | rw [gI_sG] | rw [gI_sQ])); exact a3⟩, by simp (disch := first | omega | assumption | exact b01_rng _ | exact st_5 | exact st_12 | exact st_19 | (simp only [isSt_sI, isSt_sJ, isSt_sF, isSt_sG, isSt_sA]; assumption)) only [gI_sI, i_lit, i_add, i_sub, i_mul, i_neg, i_lt, i_le, i_eq, i32_gI, i64_gJ, i32_id, i32_to, i64_to, sI_i32, sJ_i64, b01_t, b01_f, i32_b01, b01_0, ↓a_s0, ↓n_s0, ↓a_s1, ↓n_s1, Int.add_zero, t_lt, f_lt, t_le, f_le, t_eq, f_eq, true_and, and_true, false_and, and_false, and_self, ↓reduceIte, z_bool_of, or_true, true_or, or_false, false_or, Int.neg_neg, not_true_eq_false, not_false_eq_true, lg_lt, lg_le, lg_gt, lg_ge, lg_eq, j_lit, j_add, j_sub, j_mul, j_neg, j_eq, i64_id, ij, ji, z_rt, Nat.reduceEqDiff, Nat.reduceAdd, Int.reduceAdd, Int.reduceSub, Int.reduceMul, Int.reduceNeg, Int.reduceLT, Int.reduceLE, Int.reduceEq, List.length_nil, Int.natCast_zero, Int.ofNat_zero], by simp, fun j x q => by simp at q, ⟨by simp (disch := first | omega | assumption | exact b01_rng _ | exact st_5 | exact st_12 | exact st_19 | (simp only [isSt_sI, isSt_sJ, isSt_sF, isSt_sG, isSt_sA]; assumption)) only [gI_sI, i_lit, i_add, i_sub, i_mul, i_neg, i_lt, i_le, i_eq, i32_gI, i64_gJ, i32_id, i32_to, i64_to, sI_i32, sJ_i64, b01_t, b01_f, i32_b01, b01_0, ↓a_s0, ↓n_s0, ↓a_s1, ↓n_s1, Int.add_zero, t_lt, f_lt, t_le, f_le, t_eq, f_eq, true_and, and_true, false_and, and_false, and_self, ↓reduceIte, z_bool_of, or_true, true_or, or_false, false_or, Int.neg_neg, not_true_eq_false, not_false_eq_true, lg_lt, lg_le, lg_gt, lg_ge, lg_eq, j_lit, j_add, j_sub, j_mul, j_neg, j_eq, i64_id, ij, ji, z_rt, Nat.reduceEqDiff, Nat.reduceAdd, Int.reduceAdd, Int.reduceSub, Int.reduceMul, Int.reduceNeg, Int.reduceLT, Int.reduceLE, Int.reduceEq], by omega, by omega⟩, fun i q1 q2 => ?_⟩
    have : i = 0 := by omega
    subst this
    simp (disch := first | omega | assumption | exact b01_rng _ | exact st_5 | exact st_12 | exact st_19 | (simp only [isSt_sI, isSt_sJ, isSt_sF, isSt_sG, isSt_sA]; assumption)) only [gI_sI, i_lit, i_add, i_sub, i_mul, i_neg, i_lt, i_le, i_eq, i32_gI, i64_gJ, i32_id, i32_to, i64_to, sI_i32, sJ_i64, b01_t, b01_f, i32_b01, b01_0, ↓a_s0, ↓n_s0, ↓a_s1, ↓n_s1, Int.add_zero, t_lt, f_lt, t_le, f_le, t_eq, f_eq, true_and, and_true, false_and, and_false, and_self, ↓reduceIte, z_bool_of, or_true, true_or, or_false, false_or, Int.neg_neg, not_true_eq_false, not_false_eq_true, lg_lt, lg_le, lg_gt, lg_ge, lg_eq, j_lit, j_add, j_sub, j_mul, j_neg, j_eq, i64_id, ij, ji, z_rt, Nat.reduceEqDiff, Nat.reduceAdd, Int.reduceAdd, Int.reduceSub, Int.reduceMul, Int.reduceNeg, Int.reduceLT, Int.reduceLE, Int.reduceEq]
  have e0 : z_ev X d (z_entry 215 [.ref 72] (mk S)) = hd5 X d 1 0 (sI (sI (sI (sI S1 72 44 0) 72 47 0) 95 0 0) 96 0 0) := by
    show z_ev X d (215, 0, [some (.ref 72), none, none], [], mk S) = _
    unfold hd5
    simp (disch := first | omega | assumption | exact b01_rng _ | exact st_5 | exact st_12 | exact st_19 | (simp only [isSt_sI, isSt_sJ, isSt_sF, isSt_sG, isSt_sA]; assumption)) only [↓B215_0, ↓B215_4, ↓B215_18, ↓B215_29, ↓B215_33, ↓B215_37, ↓B215_41, ↓B215_44, ↓B215_48, ↓B215_49, ↓B215_57, ↓B215_61, ↓B215_65, ↓B215_68, ↓B215_75, ↓B215_78, ↓B215_82, ↓B215_86, ↓B215_91, ↓B215_98, ↓B215_104, ↓B215_107, ↓B215_111, ↓B215_115, ↓B215_129, ↓B215_132, ↓B215_136, ↓B215_140, ↓B215_146, ↓B215_149, ↓B215_154, ↓B215_159, ↓B215_166, ↓B215_173, ↓B215_180, ↓B215_185, ↓B215_192, ↓B215_196, ↓o_72, ↓r_72_16, ↓r_72_19, ↓r_72_47, ↓w_72_44, ↓w_72_47, a1, k211, i_lit, i_add, i_sub, i_mul, i_neg, i_lt, i_le, i_eq, i32_gI, i64_gJ, i32_id, i32_to, i64_to, sI_i32, sJ_i64, b01_t, b01_f, i32_b01, b01_0, ↓a_s0, ↓n_s0, ↓a_s1, ↓n_s1, Int.add_zero, t_lt, f_lt, t_le, f_le, t_eq, f_eq, true_and, and_true, false_and, and_false, and_self, ↓reduceIte, z_bool_of, or_true, true_or, or_false, false_or, Int.neg_neg, not_true_eq_false, not_false_eq_true, lg_lt, lg_le, lg_gt, lg_ge, lg_eq, j_lit, j_add, j_sub, j_mul, j_neg, j_eq, i64_id, ij, ji, z_rt, Nat.reduceEqDiff, Nat.reduceAdd, Int.reduceAdd, Int.reduceSub, Int.reduceMul, Int.reduceNeg, Int.reduceLT, Int.reduceLE, Int.reduceEq]
  have hW2 := (hW.fr hF1).fr hF2
  have hF3 := hF1.tr hF2
  generalize sI (sI (sI (sI S1 72 44 0) 72 47 0) 95 0 0) 96 0 0 = Z at *
  have := ref_metre (X := X) (d := d) hd hT 8 (by omega) Z 0 [] _ _ hR (by simp) rfl rfl hW2
  rw [e0]
  cases hp : pM (tc b n) (tv b n) 8 0 with
  | inl e =>
    rw [hp] at this
    obtain ⟨S2, b1, b2, b3⟩ := this
    exact ⟨S2, b1, hF3.tr b3, b2⟩
  | inr p =>
    obtain ⟨ops, t1⟩ := p
    rw [hp] at this
    obtain ⟨S2, P, u2, c2, b1, b2, b3, b4, b5, b6, b7, b8, b9, b10, b11, b12⟩ := this
    have hW3 := hW2.fr b12
    have e8 : (8 : Int) - ((8 : Nat) : Int) = 0 := rfl
    rw [e8] at b2 b5 b7 b8 b9
    rw [List.nil_append] at b5 b6
    have hov := hd5_over (X := X) (d := d) (by omega) hT hW3 b5 b11 b10 (by omega)
    simp only []
    by_cases q : tc b n t1 = 301
    · simp only [if_pos q]
      have h47 := b5.2.2.2.2.2.1
      have h96 := (b5.2.2.2.2.2.2 0 (by omega) (by omega)).2
      have h44 := b5.2.2.1
      have ht1 := b5.2.1
      have h3 := hT.2.2
      have h19 := b5.1.2.2.2
      have h16 : gI S2 72 16 = 0 := by rw [b5.1.2.2.1.2.2.1, mE hT.1]; exact q
      obtain ⟨c1, c3⟩ := b5.choice h3 (by omega) (by omega)
      have k213 := fun {cm cp : Nat} {L : zL} {st : List Value} => c213 (X := X) (d := d) (S := S2) (by omega) 0 (c2 0) h47.1 h47.2 h96 (by omega) (by omega) (cm := cm) (cp := cp) (L := L) (st := st)
      rw [← b2] at c1
      have h14 : gI (choiceS S2 0 (c2 0)) 72 14 = n := by
        rw [c1.1.2.2.1.1]
        apply Classical.byContradiction
        intro w
        have : tC b n (tpos b n t1) = 301 := q
        have hb := hT.1.2 (tpos b n t1)
        have hr := tpos_rng (b := b) hT.1.1.1 t1
        rcases tC_cases hr.2.1 (hb hr.1 (by omega)) hr.2.2 with ⟨w1, -⟩ | ⟨w1, w2, w3, -⟩ | ⟨w1, w2, w3, w4, -⟩ | ⟨w1, w2, w3, w4, -⟩
        · exact w w1
        · have := findE_rng (w := tworth b n (tpos b n t1)) E28 256 (by omega) (by decide); omega
        · omega
        · have := hb hr.1 w1; omega
      refine ⟨choiceS S2 0 (c2 0), ?_, hF3.tr (b12.tr c3), c1.1.2.2.2, c1.2.1.2, h14, c1.2.2.1, by have := c1.2.2.2.1; omega, c1.2.2.2.2.1⟩
      rw [b1, hov]
      unfold hd5
      rw [B215_22]
      simp (disch := first | omega | assumption | exact b01_rng _ | exact st_5 | exact st_12 | exact st_19 | (simp only [isSt_sI, isSt_sJ, isSt_sF, isSt_sG, isSt_sA]; assumption)) only [↓B215_0, ↓B215_4, ↓B215_18, ↓B215_29, ↓B215_33, ↓B215_37, ↓B215_41, ↓B215_44, ↓B215_48, ↓B215_49, ↓B215_57, ↓B215_61, ↓B215_65, ↓B215_68, ↓B215_75, ↓B215_78, ↓B215_82, ↓B215_86, ↓B215_91, ↓B215_98, ↓B215_104, ↓B215_107, ↓B215_111, ↓B215_115, ↓B215_129, ↓B215_132, ↓B215_136, ↓B215_140, ↓B215_146, ↓B215_149, ↓B215_154, ↓B215_159, ↓B215_166, ↓B215_173, ↓B215_180, ↓B215_185, ↓B215_192, ↓B215_196, ↓o_72, ↓r_72_16, ↓r_72_19, ↓r_72_47, ↓w_72_44, ↓w_72_47, k213, i_lit, i_add, i_sub, i_mul, i_neg, i_lt, i_le, i_eq, i32_gI, i64_gJ, i32_id, i32_to, i64_to, sI_i32, sJ_i64, b01_t, b01_f, i32_b01, b01_0, ↓a_s0, ↓n_s0, ↓a_s1, ↓n_s1, Int.add_zero, t_lt, f_lt, t_le, f_le, t_eq, f_eq, true_and, and_true, false_and, and_false, and_self, ↓reduceIte, z_bool_of, or_true, true_or, or_false, false_or, Int.neg_neg, not_true_eq_false, not_false_eq_true, lg_lt, lg_le, lg_gt, lg_ge, lg_eq, j_lit, j_add, j_sub, j_mul, j_neg, j_eq, i64_id, ij, ji, z_rt, Nat.reduceEqDiff, Nat.reduceAdd, Int.reduceAdd, Int.reduceSub, Int.reduceMul, Int.reduceNeg, Int.reduceLT, Int.reduceLE, Int.reduceEq, h19, h16, h47.1]
    · simp only [if_neg q]
      obtain ⟨v1, v2⟩ := badS_bad b5.1 hT.1.1
      refine ⟨badS S2, ?_, hF3.tr (b12.tr v2), v1⟩
      rw [b1, hov, hd5_miss (X := X) (d := d) (by omega) hT b5 (Or.inl q)]
