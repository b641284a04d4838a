/-! the reference: layPrices, stepPrice, canCut, isOver -/
def prR (cls : List Cl) (g : Int → Int) (how p v : Int) : Int := if CanR cls g p v then (if how = 0 then CstR cls g p v else if how = 1 ∧ v = 2 then 1 else 0) else (if how = 2 ∧ v < 2 then 1 else 100000000)
def FrPc (S S' : zS) : Prop := Dyn S S' ∧ (∀ a i, ¬ (a = 72 ∧ (i = 38 ∨ i = 34)) → a ≠ 103 → gI S' a i = gI S a i) ∧ (∀ a i, a ≠ 92 → a ≠ 90 → ¬ (a = 72 ∧ (i = 39 ∨ i = 41)) → gJ S' a i = gJ S a i) ∧ (∀ a i, gQ S' a i = gQ S a i)
theorem FrPc.rf {S : zS} : FrPc S S := ⟨Dyn.rf, fun _ _ _ _ => rfl, fun _ _ _ _ _ => rfl, fun _ _ => rfl⟩
theorem FrPc.tr {A B C : zS} (h1 : FrPc A B) (h2 : FrPc B C) : FrPc A C := ⟨h1.1.tr h2.1, fun a i q r => (h2.2.1 a i q r).trans (h1.2.1 a i q r), fun a i q r s => (h2.2.2.1 a i q r s).trans (h1.2.2.1 a i q r s), fun a i => (h2.2.2.2 a i).trans (h1.2.2.2 a i)⟩
theorem FrTl.p {S S' : zS} (h : FrTl S S') : FrPc S S' := ⟨h.1, fun a i q _ => h.2.1 a i q, h.2.2.1, h.2.2.2⟩
theorem FrPc.I {S : zS} {i x : Int} : FrPc S (sI S 103 i x) := ⟨Dyn.sI (by decide) Dyn.rf, fun b j _ q => by rw [gI_sI, if_neg (by omega)], fun _ _ _ _ _ => rfl, fun _ _ => rfl⟩
section
variable {X : zX} {d : Nat} {cls : List Cl}
abbrev L223 (how s : Int) (x3 x4 x5 : Option Value) : zL := [some (.ref 72), some (.int (Int32.ofInt how)), some (.int (Int32.ofInt s)), x3, x4, x5]
/-- one price -/
theorem t223 (hd : 7 < d) {S : zS} {how s v : Int} (hG : GB (gI S 74)) (h1 : 0 ≤ gI S 74 1 ∧ gI S 74 1 ≤ 6) (h20 : gI S 72 20 = 0) (hL : LawR (gI S 74) (gI S 74 4) cls) (hh : 0 ≤ how ∧ how ≤ 2) (hs : 0 ≤ s ∧ s < 20) (hv : 0 ≤ v ∧ v ≤ 2) {x4 x5 : Option Value} : ∃ (S' : zS) (y4 y5 : Option Value), z_ev X d (223, 14, L223 how s (vI v) x4 x5, [], mk S) = z_ev X d (223, 14, L223 how s (vI (v + 1)) y4 y5, [], mk S') ∧ FrPc S S' ∧ (∀ i, gI S' 103 i = if i = 3 * s + v then prR cls (gI S 74) how s v else gI S 103 i) := by
  obtain ⟨S1, a1, a2⟩ := x207 (X := X) (d := 7) (by omega) (S := S) (cls := cls) hG h1 h20 hL hs hv
  have ev1 := fun {cm cp : Nat} {L : zL} {st : List Value} => evI (X := X) (d := d) hd a1 (cm := cm) (cp := cp) (L := L) (st := st)
  have e74 : gI S1 74 = gI S 74 := funext fun i => a2.2.1 74 i (by omega)
  obtain ⟨S2, b1, b2⟩ := x208 (X := X) (d := 7) (by omega) (S := S1) (cls := cls) (by rw [e74]; exact hG) (by rw [e74]; exact h1) (by rw [a2.2.1 72 20 (by omega)]; exact h20) (by rw [e74]; exact hL) hs hv
  rw [e74] at b1
  have ev2 := fun {cm cp : Nat} {L : zL} {st : List Value} => evI (X := X) (d := d) hd b1 (cm := cm) (cp := cp) (L := L) (st := st)
  have hcb := CstR_b (g := gI S 74) (p := s) (v := v) hL.1.1
  have fin : ∀ (T : zS) (z : Int), FrPc S T → (∀ i, gI T 103 i = gI S 103 i) → (-2147483648 ≤ z ∧ z < 2147483648) → FrPc S (sI T 103 (3 * s + v) z) ∧ (∀ i, gI (sI T 103 (3 * s + v) z) 103 i = if i = 3 * s + v then z else gI S 103 i) := fun T z hF hT hz => ⟨hF.tr FrPc.I, fun i => by
    rw [gI_sI]
    by_cases q : i = 3 * s + v
    · rw [if_pos ⟨rfl, q⟩, if_pos q, i32_id hz.1 hz.2]
    · rw [if_neg (by omega), if_neg q, hT]⟩
  have k1 : ∀ i, gI S1 103 i = gI S 103 i := fun i => a2.2.1 103 i (by omega)
  have k2 : ∀ i, gI S2 103 i = gI S 103 i := fun i => (b2.2.1 103 i (by omega)).trans (k1 i)
  unfold prR
  by_cases qc : CanR cls (gI S 74) s v
  · have c1 : b01 (CanR cls (gI S 74) s v) = 1 := if_pos qc
    rw [c1] at ev1
    rw [if_pos qc]
    by_cases q0 : how = 0
    · rw [if_pos q0]
      obtain ⟨w1, w2⟩ := fin S2 (CstR cls (gI S 74) s v) (a2.p.tr b2.p) k2 (by omega)
      refine ⟨_, vI 1, vI (CstR cls (gI S 74) s v), ?_, w1, w2⟩
      rw [B223_14]
      simp (disch := first | omega | assumption | exact b01_rng _ | exact st_5 | exact st_12 | exact st_19 | (simp only [isSt_sI, isSt_sJ, isSt_sF, isSt_sG, isSt_sA]; assumption)) only [↓B223_19, ↓B223_25, ↓B223_31, ↓B223_37, ↓B223_52, ↓B223_68, ↓B223_90, ↓a_103, ↓a_74, ↓n_103, ↓n_74, ↓o_72, ↓r_72_3, ↓r_72_55, ↓s_103, ↓s_74, ↓o_72, i_lit, i_add, i_sub, i_mul, i_neg, i_lt, i_le, i_eq, i32_gI, i64_gJ, i32_id, i32_to, i64_to, sI_i32, sJ_i64, b01_t, b01_f, i32_b01, b01_0, ↓a_s0, ↓n_s0, ↓a_s1, ↓n_s1, Int.add_zero, t_lt, f_lt, t_le, f_le, t_eq, f_eq, true_and, and_true, false_and, and_false, and_self, ↓reduceIte, z_bool_of, or_true, true_or, or_false, false_or, Int.neg_neg, not_true_eq_false, not_false_eq_true, lg_lt, lg_le, lg_gt, lg_ge, lg_eq, j_lit, j_add, j_sub, j_mul, j_neg, j_eq, i64_id, ij, ji, z_rt, Nat.reduceEqDiff, Nat.reduceAdd, Int.reduceAdd, Int.reduceSub, Int.reduceMul, Int.reduceNeg, Int.reduceLT, Int.reduceLE, Int.reduceEq, ev1, ev2, q0]
    · rw [if_neg q0]
      by_cases q1 : how = 1
      · by_cases q2 : v = 2
        · rw [if_pos ⟨q1, q2⟩]
          obtain ⟨w1, w2⟩ := fin S1 1 a2.p k1 (by omega)
          refine ⟨_, vI 1, vI 1, ?_, w1, w2⟩
          subst q2
          have e2 : (2 : Int).tdiv 2 = 1 := rfl
          rw [B223_14]
          simp (disch := first | omega | assumption | exact b01_rng _ | exact st_5 | exact st_12 | exact st_19 | (simp only [isSt_sI, isSt_sJ, isSt_sF, isSt_sG, isSt_sA]; assumption)) only [↓B223_19, ↓B223_25, ↓B223_40, ↓B223_45, ↓B223_52, ↓B223_68, ↓B223_90, ↓a_103, ↓a_74, ↓n_103, ↓n_74, ↓o_72, ↓r_72_3, ↓r_72_55, ↓s_103, ↓s_74, ↓o_72, i_lit, i_add, i_sub, i_mul, i_neg, i_lt, i_le, i_eq, i32_gI, i64_gJ, i32_id, i32_to, i64_to, sI_i32, sJ_i64, b01_t, b01_f, i32_b01, b01_0, ↓a_s0, ↓n_s0, ↓a_s1, ↓n_s1, Int.add_zero, t_lt, f_lt, t_le, f_le, t_eq, f_eq, true_and, and_true, false_and, and_false, and_self, ↓reduceIte, z_bool_of, or_true, true_or, or_false, false_or, Int.neg_neg, not_true_eq_false, not_false_eq_true, lg_lt, lg_le, lg_gt, lg_ge, lg_eq, j_lit, j_add, j_sub, j_mul, j_neg, j_eq, i64_id, ij, ji, z_rt, Nat.reduceEqDiff, Nat.reduceAdd, Int.reduceAdd, Int.reduceSub, Int.reduceMul, Int.reduceNeg, Int.reduceLT, Int.reduceLE, Int.reduceEq, ev1, q1, i_div, e2]
        · rw [if_neg (by omega)]
          obtain ⟨w1, w2⟩ := fin S1 0 a2.p k1 (by omega)
          refine ⟨_, vI 1, vI 0, ?_, w1, w2⟩
          have e2 : v.tdiv 2 = 0 := by rw [Int.tdiv_eq_ediv_of_nonneg hv.1]; omega
          rw [B223_14]
          simp (disch := first | omega | assumption | exact b01_rng _ | exact st_5 | exact st_12 | exact st_19 | (simp only [isSt_sI, isSt_sJ, isSt_sF, isSt_sG, isSt_sA]; assumption)) only [↓B223_19, ↓B223_25, ↓B223_40, ↓B223_45, ↓B223_52, ↓B223_68, ↓B223_90, ↓a_103, ↓a_74, ↓n_103, ↓n_74, ↓o_72, ↓r_72_3, ↓r_72_55, ↓s_103, ↓s_74, ↓o_72, i_lit, i_add, i_sub, i_mul, i_neg, i_lt, i_le, i_eq, i32_gI, i64_gJ, i32_id, i32_to, i64_to, sI_i32, sJ_i64, b01_t, b01_f, i32_b01, b01_0, ↓a_s0, ↓n_s0, ↓a_s1, ↓n_s1, Int.add_zero, t_lt, f_lt, t_le, f_le, t_eq, f_eq, true_and, and_true, false_and, and_false, and_self, ↓reduceIte, z_bool_of, or_true, true_or, or_false, false_or, Int.neg_neg, not_true_eq_false, not_false_eq_true, lg_lt, lg_le, lg_gt, lg_ge, lg_eq, j_lit, j_add, j_sub, j_mul, j_neg, j_eq, i64_id, ij, ji, z_rt, Nat.reduceEqDiff, Nat.reduceAdd, Int.reduceAdd, Int.reduceSub, Int.reduceMul, Int.reduceNeg, Int.reduceLT, Int.reduceLE, Int.reduceEq, ev1, q1, i_div, e2]
      · rw [if_neg (by omega)]
        obtain ⟨w1, w2⟩ := fin S1 0 a2.p k1 (by omega)
        refine ⟨_, vI 1, vI 0, ?_, w1, w2⟩
        rw [B223_14]
        simp (disch := first | omega | assumption | exact b01_rng _ | exact st_5 | exact st_12 | exact st_19 | (simp only [isSt_sI, isSt_sJ, isSt_sF, isSt_sG, isSt_sA]; assumption)) only [↓B223_19, ↓B223_25, ↓B223_40, ↓B223_51, ↓B223_52, ↓B223_68, ↓B223_90, ↓a_103, ↓a_74, ↓n_103, ↓n_74, ↓o_72, ↓r_72_3, ↓r_72_55, ↓s_103, ↓s_74, ↓o_72, i_lit, i_add, i_sub, i_mul, i_neg, i_lt, i_le, i_eq, i32_gI, i64_gJ, i32_id, i32_to, i64_to, sI_i32, sJ_i64, b01_t, b01_f, i32_b01, b01_0, ↓a_s0, ↓n_s0, ↓a_s1, ↓n_s1, Int.add_zero, t_lt, f_lt, t_le, f_le, t_eq, f_eq, true_and, and_true, false_and, and_false, and_self, ↓reduceIte, z_bool_of, or_true, true_or, or_false, false_or, Int.neg_neg, not_true_eq_false, not_false_eq_true, lg_lt, lg_le, lg_gt, lg_ge, lg_eq, j_lit, j_add, j_sub, j_mul, j_neg, j_eq, i64_id, ij, ji, z_rt, Nat.reduceEqDiff, Nat.reduceAdd, Int.reduceAdd, Int.reduceSub, Int.reduceMul, Int.reduceNeg, Int.reduceLT, Int.reduceLE, Int.reduceEq, ev1, q0, q1]
  · have c1 : b01 (CanR cls (gI S 74) s v) = 0 := if_neg qc
    rw [c1] at ev1
    rw [if_neg qc]
    by_cases q2 : how = 2 ∧ v < 2
    · rw [if_pos q2]
      obtain ⟨w1, w2⟩ := fin S1 1 a2.p k1 (by omega)
      refine ⟨_, vI 0, vI 0, ?_, w1, w2⟩
      obtain ⟨q2, q3⟩ := q2
      rw [B223_14]
      simp (disch := first | omega | assumption | exact b01_rng _ | exact st_5 | exact st_12 | exact st_19 | (simp only [isSt_sI, isSt_sJ, isSt_sF, isSt_sG, isSt_sA]; assumption)) only [↓B223_19, ↓B223_25, ↓B223_40, ↓B223_51, ↓B223_52, ↓B223_73, ↓B223_78, ↓B223_83, ↓B223_90, ↓a_103, ↓a_74, ↓n_103, ↓n_74, ↓o_72, ↓r_72_3, ↓r_72_55, ↓s_103, ↓s_74, ↓o_72, i_lit, i_add, i_sub, i_mul, i_neg, i_lt, i_le, i_eq, i32_gI, i64_gJ, i32_id, i32_to, i64_to, sI_i32, sJ_i64, b01_t, b01_f, i32_b01, b01_0, ↓a_s0, ↓n_s0, ↓a_s1, ↓n_s1, Int.add_zero, t_lt, f_lt, t_le, f_le, t_eq, f_eq, true_and, and_true, false_and, and_false, and_self, ↓reduceIte, z_bool_of, or_true, true_or, or_false, false_or, Int.neg_neg, not_true_eq_false, not_false_eq_true, lg_lt, lg_le, lg_gt, lg_ge, lg_eq, j_lit, j_add, j_sub, j_mul, j_neg, j_eq, i64_id, ij, ji, z_rt, Nat.reduceEqDiff, Nat.reduceAdd, Int.reduceAdd, Int.reduceSub, Int.reduceMul, Int.reduceNeg, Int.reduceLT, Int.reduceLE, Int.reduceEq, ev1, q2]
    · rw [if_neg q2]
      by_cases q0 : how = 0
      · obtain ⟨w1, w2⟩ := fin S2 100000000 (a2.p.tr b2.p) k2 (by omega)
        refine ⟨_, vI 0, vI (CstR cls (gI S 74) s v), ?_, w1, w2⟩
        rw [B223_14]
        simp (disch := first | omega | assumption | exact b01_rng _ | exact st_5 | exact st_12 | exact st_19 | (simp only [isSt_sI, isSt_sJ, isSt_sF, isSt_sG, isSt_sA]; assumption)) only [↓B223_19, ↓B223_25, ↓B223_31, ↓B223_37, ↓B223_52, ↓B223_73, ↓B223_87, ↓B223_90, ↓a_103, ↓a_74, ↓n_103, ↓n_74, ↓o_72, ↓r_72_3, ↓r_72_55, ↓s_103, ↓s_74, ↓o_72, i_lit, i_add, i_sub, i_mul, i_neg, i_lt, i_le, i_eq, i32_gI, i64_gJ, i32_id, i32_to, i64_to, sI_i32, sJ_i64, b01_t, b01_f, i32_b01, b01_0, ↓a_s0, ↓n_s0, ↓a_s1, ↓n_s1, Int.add_zero, t_lt, f_lt, t_le, f_le, t_eq, f_eq, true_and, and_true, false_and, and_false, and_self, ↓reduceIte, z_bool_of, or_true, true_or, or_false, false_or, Int.neg_neg, not_true_eq_false, not_false_eq_true, lg_lt, lg_le, lg_gt, lg_ge, lg_eq, j_lit, j_add, j_sub, j_mul, j_neg, j_eq, i64_id, ij, ji, z_rt, Nat.reduceEqDiff, Nat.reduceAdd, Int.reduceAdd, Int.reduceSub, Int.reduceMul, Int.reduceNeg, Int.reduceLT, Int.reduceLE, Int.reduceEq, ev1, ev2, q0]
      · obtain ⟨w1, w2⟩ := fin S1 100000000 a2.p k1 (by omega)
        by_cases q1 : how = 1
        · refine ⟨_, vI 0, vI (v.tdiv 2), ?_, w1, w2⟩
          have e2 : v.tdiv 2 = v / 2 := Int.tdiv_eq_ediv_of_nonneg hv.1
          rw [B223_14]
          simp (disch := first | omega | assumption | exact b01_rng _ | exact st_5 | exact st_12 | exact st_19 | (simp only [isSt_sI, isSt_sJ, isSt_sF, isSt_sG, isSt_sA]; assumption)) only [↓B223_19, ↓B223_25, ↓B223_40, ↓B223_45, ↓B223_52, ↓B223_73, ↓B223_87, ↓B223_90, ↓a_103, ↓a_74, ↓n_103, ↓n_74, ↓o_72, ↓r_72_3, ↓r_72_55, ↓s_103, ↓s_74, ↓o_72, i_lit, i_add, i_sub, i_mul, i_neg, i_lt, i_le, i_eq, i32_gI, i64_gJ, i32_id, i32_to, i64_to, sI_i32, sJ_i64, b01_t, b01_f, i32_b01, b01_0, ↓a_s0, ↓n_s0, ↓a_s1, ↓n_s1, Int.add_zero, t_lt, f_lt, t_le, f_le, t_eq, f_eq, true_and, and_true, false_and, and_false, and_self, ↓reduceIte, z_bool_of, or_true, true_or, or_false, false_or, Int.neg_neg, not_true_eq_false, not_false_eq_true, lg_lt, lg_le, lg_gt, lg_ge, lg_eq, j_lit, j_add, j_sub, j_mul, j_neg, j_eq, i64_id, ij, ji, z_rt, Nat.reduceEqDiff, Nat.reduceAdd, Int.reduceAdd, Int.reduceSub, Int.reduceMul, Int.reduceNeg, Int.reduceLT, Int.reduceLE, Int.reduceEq, ev1, q1, i_div]
        · have q3 : how = 2 := by omega
          have q4 : v = 2 := by omega
          refine ⟨_, vI 0, vI 0, ?_, w1, w2⟩
          subst q4
          rw [B223_14]
          simp (disch := first | omega | assumption | exact b01_rng _ | exact st_5 | exact st_12 | exact st_19 | (simp only [isSt_sI, isSt_sJ, isSt_sF, isSt_sG, isSt_sA]; assumption)) only [↓B223_19, ↓B223_25, ↓B223_40, ↓B223_51, ↓B223_52, ↓B223_73, ↓B223_78, ↓B223_87, ↓B223_90, ↓a_103, ↓a_74, ↓n_103, ↓n_74, ↓o_72, ↓r_72_3, ↓r_72_55, ↓s_103, ↓s_74, ↓o_72, i_lit, i_add, i_sub, i_mul, i_neg, i_lt, i_le, i_eq, i32_gI, i64_gJ, i32_id, i32_to, i64_to, sI_i32, sJ_i64, b01_t, b01_f, i32_b01, b01_0, ↓a_s0, ↓n_s0, ↓a_s1, ↓n_s1, Int.add_zero, t_lt, f_lt, t_le, f_le, t_eq, f_eq, true_and, and_true, false_and, and_false, and_self, ↓reduceIte, z_bool_of, or_true, true_or, or_false, false_or, Int.neg_neg, not_true_eq_false, not_false_eq_true, lg_lt, lg_le, lg_gt, lg_ge, lg_eq, j_lit, j_add, j_sub, j_mul, j_neg, j_eq, i64_id, ij, ji, z_rt, Nat.reduceEqDiff, Nat.reduceAdd, Int.reduceAdd, Int.reduceSub, Int.reduceMul, Int.reduceNeg, Int.reduceLT, Int.reduceLE, Int.reduceEq, ev1, q3]
/-- prices up to a syllable -/
def PcR (S : zS) (cls : List Cl) (g : Int → Int) (how s : Int) : Prop := ∀ p v : Int, 0 ≤ p → p < s → 0 ≤ v → v ≤ 2 → gI S 103 (3 * p + v) = prR cls g how p v
theorem l223 (hd : 7 < d) {how : Int} (hh : 0 ≤ how ∧ how ≤ 2) {g : Int → Int} (hG : GB g) (h1 : 0 ≤ g 1 ∧ g 1 ≤ 6) (hL : LawR g (g 4) cls) : ∀ (c : Nat) (s : Int) (S : zS) (x3 x4 x5 : Option Value), s + c = g 0 → 0 ≤ s → gI S 74 = g → gI S 72 20 = 0 → PcR S cls g how s → ∃ S' : zS, z_ev X d (223, 2, L223 how s x3 x4 x5, [], mk S) = some (none, mk S') ∧ FrPc S S' ∧ PcR S' cls g how (g 0) := by
  intro c
  induction c with
  | zero =>
    intro s S x3 x4 x5 hc hs hg h20 hP
    have hg0 := hG.1
    have : s = g 0 := by omega
    refine ⟨S, ?_, FrPc.rf, by rw [← this]; exact hP⟩
    have e0 : gI S 74 0 = g 0 := by rw [hg]
    rw [B223_2]
    simp (disch := first | omega | assumption | exact b01_rng _ | exact st_5 | exact st_12 | exact st_19 | (simp only [isSt_sI, isSt_sJ, isSt_sF, isSt_sG, isSt_sA]; assumption)) only [↓B223_103, ↓a_103, ↓a_74, ↓n_103, ↓n_74, ↓o_72, ↓r_72_3, ↓r_72_55, ↓s_103, ↓s_74, i_lit, i_add, i_sub, i_mul, i_neg, i_lt, i_le, i_eq, i32_gI, i64_gJ, i32_id, i32_to, i64_to, sI_i32, sJ_i64, b01_t, b01_f, i32_b01, b01_0, ↓a_s0, ↓n_s0, ↓a_s1, ↓n_s1, Int.add_zero, t_lt, f_lt, t_le, f_le, t_eq, f_eq, true_and, and_true, false_and, and_false, and_self, ↓reduceIte, z_bool_of, or_true, true_or, or_false, false_or, Int.neg_neg, not_true_eq_false, not_false_eq_true, lg_lt, lg_le, lg_gt, lg_ge, lg_eq, j_lit, j_add, j_sub, j_mul, j_neg, j_eq, i64_id, ij, ji, z_rt, Nat.reduceEqDiff, Nat.reduceAdd, Int.reduceAdd, Int.reduceSub, Int.reduceMul, Int.reduceNeg, Int.reduceLT, Int.reduceLE, Int.reduceEq, e0]
  | succ c ih =>
    intro s S x3 x4 x5 hc hs hg h20 hP
    have hg0 := hG.1
    have e0 : gI S 74 0 = g 0 := by rw [hg]
    have hs20 : 0 ≤ s ∧ s < 20 := by omega
    obtain ⟨S1, a4, a5, a1, a2, a3⟩ := t223 (X := X) (d := d) (cls := cls) hd (S := S) (how := how) (s := s) (v := 0) (by rw [hg]; exact hG) (by rw [hg]; exact h1) h20 (by rw [hg]; exact hL) hh hs20 (by omega) (x4 := x4) (x5 := x5)
    have g1 : gI S1 74 = g := by rw [← hg]; exact funext fun i => a2.2.1 74 i (by omega) (by omega)
    have h201 : gI S1 72 20 = 0 := by rw [a2.2.1 72 20 (by omega) (by omega)]; exact h20
    obtain ⟨S2, b4, b5, b1, b2, b3⟩ := t223 (X := X) (d := d) (cls := cls) hd (S := S1) (how := how) (s := s) (v := 1) (by rw [g1]; exact hG) (by rw [g1]; exact h1) h201 (by rw [g1]; exact hL) hh hs20 (by omega) (x4 := a4) (x5 := a5)
    have g2 : gI S2 74 = g := by rw [← g1]; exact funext fun i => b2.2.1 74 i (by omega) (by omega)
    have h202 : gI S2 72 20 = 0 := by rw [b2.2.1 72 20 (by omega) (by omega)]; exact h201
    obtain ⟨S3, c4, c5, c1, c2, c3⟩ := t223 (X := X) (d := d) (cls := cls) hd (S := S2) (how := how) (s := s) (v := 2) (by rw [g2]; exact hG) (by rw [g2]; exact h1) h202 (by rw [g2]; exact hL) hh hs20 (by omega) (x4 := b4) (x5 := b5)
    have g3 : gI S3 74 = g := by rw [← g2]; exact funext fun i => c2.2.1 74 i (by omega) (by omega)
    rw [hg] at a3
    rw [g1] at b3
    rw [g2] at c3
    obtain ⟨S', w1, w2, w3⟩ := ih (s + 1) S3 (vI 3) c4 c5 (by omega) (by omega) g3 (by rw [c2.2.1 72 20 (by omega) (by omega)]; exact h202) (fun p v q1 q2 q3 q4 => by
      rw [c3, b3, a3]
      by_cases e : p = s
      · subst e
        rcases (show v = 0 ∨ v = 1 ∨ v = 2 by omega) with rfl | rfl | rfl
        · rw [if_neg (by omega), if_neg (by omega), if_pos rfl]
        · rw [if_neg (by omega), if_pos rfl]
        · rw [if_pos rfl]
      · rw [if_neg (by omega), if_neg (by omega), if_neg (by omega)]
        exact hP p v q1 (by omega) q3 q4)
    refine ⟨S', ?_, ((a2.tr b2).tr c2).tr w2, w3⟩
    rw [show (0 : Int) + 1 = 1 from rfl] at a1
    rw [show (1 : Int) + 1 = 2 from rfl] at b1
    rw [show (2 : Int) + 1 = 3 from rfl] at c1
    have st : z_ev X d (223, 2, L223 how s x3 x4 x5, [], mk S) = z_ev X d (223, 14, L223 how s (vI 0) x4 x5, [], mk S) := by
      rw [B223_2]
      simp (disch := first | omega | assumption | exact b01_rng _ | exact st_5 | exact st_12 | exact st_19 | (simp only [isSt_sI, isSt_sJ, isSt_sF, isSt_sG, isSt_sA]; assumption)) only [↓B223_12, ↓a_103, ↓a_74, ↓n_103, ↓n_74, ↓o_72, ↓r_72_3, ↓r_72_55, ↓s_103, ↓s_74, i_lit, i_add, i_sub, i_mul, i_neg, i_lt, i_le, i_eq, i32_gI, i64_gJ, i32_id, i32_to, i64_to, sI_i32, sJ_i64, b01_t, b01_f, i32_b01, b01_0, ↓a_s0, ↓n_s0, ↓a_s1, ↓n_s1, Int.add_zero, t_lt, f_lt, t_le, f_le, t_eq, f_eq, true_and, and_true, false_and, and_false, and_self, ↓reduceIte, z_bool_of, or_true, true_or, or_false, false_or, Int.neg_neg, not_true_eq_false, not_false_eq_true, lg_lt, lg_le, lg_gt, lg_ge, lg_eq, j_lit, j_add, j_sub, j_mul, j_neg, j_eq, i64_id, ij, ji, z_rt, Nat.reduceEqDiff, Nat.reduceAdd, Int.reduceAdd, Int.reduceSub, Int.reduceMul, Int.reduceNeg, Int.reduceLT, Int.reduceLE, Int.reduceEq, e0]
    rw [st, a1, b1, c1, ← w1, B223_14]
    simp (disch := first | omega | assumption | exact b01_rng _ | exact st_5 | exact st_12 | exact st_19 | (simp only [isSt_sI, isSt_sJ, isSt_sF, isSt_sG, isSt_sA]; assumption)) only [↓B223_97, i_lit, i_add, i_sub, i_mul, i_neg, i_lt, i_le, i_eq, i32_gI, i64_gJ, i32_id, i32_to, i64_to, sI_i32, sJ_i64, b01_t, b01_f, i32_b01, b01_0, ↓a_s0, ↓n_s0, ↓a_s1, ↓n_s1, Int.add_zero, t_lt, f_lt, t_le, f_le, t_eq, f_eq, true_and, and_true, false_and, and_false, and_self, ↓reduceIte, z_bool_of, or_true, true_or, or_false, false_or, Int.neg_neg, not_true_eq_false, not_false_eq_true, lg_lt, lg_le, lg_gt, lg_ge, lg_eq, j_lit, j_add, j_sub, j_mul, j_neg, j_eq, i64_id, ij, ji, z_rt, Nat.reduceEqDiff, Nat.reduceAdd, Int.reduceAdd, Int.reduceSub, Int.reduceMul, Int.reduceNeg, Int.reduceLT, Int.reduceLE, Int.reduceEq]
theorem x223 (hd : 7 < d) {S : zS} {how : Int} (hh : 0 ≤ how ∧ how ≤ 2) (hG : GB (gI S 74)) (h1 : 0 ≤ gI S 74 1 ∧ gI S 74 1 ≤ 6) (h20 : gI S 72 20 = 0) (hL : LawR (gI S 74) (gI S 74 4) cls) : ∃ S' : zS, z_ev X d (z_entry 223 [.ref 72, .int (Int32.ofInt how)] (mk S)) = some (none, mk S') ∧ FrPc S S' ∧ PcR S' cls (gI S 74) how (gI S 74 0) := by
  have hg0 := hG.1
  obtain ⟨S', w1, w2, w3⟩ := l223 (X := X) (d := d) (cls := cls) hd hh hG h1 hL (gI S 74 0).toNat 0 S none none none (by omega) (by omega) rfl h20 (fun p v q1 q2 => by omega)
  refine ⟨S', ?_, w2, w3⟩
  rw [← w1]
  show z_ev X d (223, 0, [some (.ref 72), some (.int (Int32.ofInt how)), none, none, none, none], [], mk S) = _
  simp (disch := first | omega | assumption | exact b01_rng _ | exact st_5 | exact st_12 | exact st_19 | (simp only [isSt_sI, isSt_sJ, isSt_sF, isSt_sG, isSt_sA]; assumption)) only [↓B223_0, i_lit, i_add, i_sub, i_mul, i_neg, i_lt, i_le, i_eq, i32_gI, i64_gJ, i32_id, i32_to, i64_to, sI_i32, sJ_i64, b01_t, b01_f, i32_b01, b01_0, ↓a_s0, ↓n_s0, ↓a_s1, ↓n_s1, Int.add_zero, t_lt, f_lt, t_le, f_le, t_eq, f_eq, true_and, and_true, false_and, and_false, and_self, ↓reduceIte, z_bool_of, or_true, true_or, or_false, false_or, Int.neg_neg, not_true_eq_false, not_false_eq_true, lg_lt, lg_le, lg_gt, lg_ge, lg_eq, j_lit, j_add, j_sub, j_mul, j_neg, j_eq, i64_id, ij, ji, z_rt, Nat.reduceEqDiff, Nat.reduceAdd, Int.reduceAdd, Int.reduceSub, Int.reduceMul, Int.reduceNeg, Int.reduceLT, Int.reduceLE, Int.reduceEq]
end
def spR (S : zS) (s x : Int) : Int := if x = 0 then gI S 103 (3 * s + 1) else if x = 1 then gI S 103 (3 * s) else min (gI S 103 (3 * s + 1)) (gI S 103 (3 * s))
theorem e224 {X : zX} {d : Nat} (hd : 0 ≤ d) {S : zS} (s x : Int) (hs : 0 ≤ s ∧ s < 20) (hx : 0 ≤ x ∧ x ≤ 2) : z_ev X d (z_entry 224 [.ref 72, .int (Int32.ofInt s), .int (Int32.ofInt x)] (mk S)) = some (some (.int (Int32.ofInt (spR S s x))), mk S) := by
  show z_ev X d (224, 0, [some (.ref 72), some (.int (Int32.ofInt s)), some (.int (Int32.ofInt x)), none, none], [], mk S) = _
  unfold spR
  rcases (show x = 0 ∨ x = 1 ∨ x = 2 by omega) with rfl | rfl | rfl
  · rw [if_pos rfl]
    simp (disch := first | omega | assumption | exact b01_rng _ | exact st_5 | exact st_12 | exact st_19 | (simp only [isSt_sI, isSt_sJ, isSt_sF, isSt_sG, isSt_sA]; assumption)) only [↓B224_0, ↓B224_25, ↓B224_29, ↓B224_34, ↓B224_39, ↓B224_45, ↓B224_49, ↓B224_51, ↓a_103, ↓n_103, ↓r_72_55, ↓s_103, i_lit, i_add, i_sub, i_mul, i_neg, i_lt, i_le, i_eq, i32_gI, i64_gJ, i32_id, i32_to, i64_to, sI_i32, sJ_i64, b01_t, b01_f, i32_b01, b01_0, ↓a_s0, ↓n_s0, ↓a_s1, ↓n_s1, Int.add_zero, t_lt, f_lt, t_le, f_le, t_eq, f_eq, true_and, and_true, false_and, and_false, and_self, ↓reduceIte, z_bool_of, or_true, true_or, or_false, false_or, Int.neg_neg, not_true_eq_false, not_false_eq_true, lg_lt, lg_le, lg_gt, lg_ge, lg_eq, j_lit, j_add, j_sub, j_mul, j_neg, j_eq, i64_id, ij, ji, z_rt, Nat.reduceEqDiff, Nat.reduceAdd, Int.reduceAdd, Int.reduceSub, Int.reduceMul, Int.reduceNeg, Int.reduceLT, Int.reduceLE, Int.reduceEq]
  · rw [if_neg (by omega), if_pos rfl]
    simp (disch := first | omega | assumption | exact b01_rng _ | exact st_5 | exact st_12 | exact st_19 | (simp only [isSt_sI, isSt_sJ, isSt_sF, isSt_sG, isSt_sA]; assumption)) only [↓B224_0, ↓B224_25, ↓B224_29, ↓B224_34, ↓B224_39, ↓B224_45, ↓B224_49, ↓B224_51, ↓a_103, ↓n_103, ↓r_72_55, ↓s_103, i_lit, i_add, i_sub, i_mul, i_neg, i_lt, i_le, i_eq, i32_gI, i64_gJ, i32_id, i32_to, i64_to, sI_i32, sJ_i64, b01_t, b01_f, i32_b01, b01_0, ↓a_s0, ↓n_s0, ↓a_s1, ↓n_s1, Int.add_zero, t_lt, f_lt, t_le, f_le, t_eq, f_eq, true_and, and_true, false_and, and_false, and_self, ↓reduceIte, z_bool_of, or_true, true_or, or_false, false_or, Int.neg_neg, not_true_eq_false, not_false_eq_true, lg_lt, lg_le, lg_gt, lg_ge, lg_eq, j_lit, j_add, j_sub, j_mul, j_neg, j_eq, i64_id, ij, ji, z_rt, Nat.reduceEqDiff, Nat.reduceAdd, Int.reduceAdd, Int.reduceSub, Int.reduceMul, Int.reduceNeg, Int.reduceLT, Int.reduceLE, Int.reduceEq]
  · rw [if_neg (by omega), if_neg (by omega)]
    by_cases q : gI S 103 (3 * s) ≤ gI S 103 (3 * s + 1)
    · rw [show min (gI S 103 (3 * s + 1)) (gI S 103 (3 * s)) = gI S 103 (3 * s) by omega]
      simp (disch := first | omega | assumption | exact b01_rng _ | exact st_5 | exact st_12 | exact st_19 | (simp only [isSt_sI, isSt_sJ, isSt_sF, isSt_sG, isSt_sA]; assumption)) only [↓B224_0, ↓B224_25, ↓B224_29, ↓B224_34, ↓B224_39, ↓B224_45, ↓B224_49, ↓B224_51, ↓a_103, ↓n_103, ↓r_72_55, ↓s_103, i_lit, i_add, i_sub, i_mul, i_neg, i_lt, i_le, i_eq, i32_gI, i64_gJ, i32_id, i32_to, i64_to, sI_i32, sJ_i64, b01_t, b01_f, i32_b01, b01_0, ↓a_s0, ↓n_s0, ↓a_s1, ↓n_s1, Int.add_zero, t_lt, f_lt, t_le, f_le, t_eq, f_eq, true_and, and_true, false_and, and_false, and_self, ↓reduceIte, z_bool_of, or_true, true_or, or_false, false_or, Int.neg_neg, not_true_eq_false, not_false_eq_true, lg_lt, lg_le, lg_gt, lg_ge, lg_eq, j_lit, j_add, j_sub, j_mul, j_neg, j_eq, i64_id, ij, ji, z_rt, Nat.reduceEqDiff, Nat.reduceAdd, Int.reduceAdd, Int.reduceSub, Int.reduceMul, Int.reduceNeg, Int.reduceLT, Int.reduceLE, Int.reduceEq]
    · rw [show min (gI S 103 (3 * s + 1)) (gI S 103 (3 * s)) = gI S 103 (3 * s + 1) by omega]
      simp (disch := first | omega | assumption | exact b01_rng _ | exact st_5 | exact st_12 | exact st_19 | (simp only [isSt_sI, isSt_sJ, isSt_sF, isSt_sG, isSt_sA]; assumption)) only [↓B224_0, ↓B224_25, ↓B224_29, ↓B224_34, ↓B224_39, ↓B224_45, ↓B224_49, ↓B224_51, ↓a_103, ↓n_103, ↓r_72_55, ↓s_103, i_lit, i_add, i_sub, i_mul, i_neg, i_lt, i_le, i_eq, i32_gI, i64_gJ, i32_id, i32_to, i64_to, sI_i32, sJ_i64, b01_t, b01_f, i32_b01, b01_0, ↓a_s0, ↓n_s0, ↓a_s1, ↓n_s1, Int.add_zero, t_lt, f_lt, t_le, f_le, t_eq, f_eq, true_and, and_true, false_and, and_false, and_self, ↓reduceIte, z_bool_of, or_true, true_or, or_false, false_or, Int.neg_neg, not_true_eq_false, not_false_eq_true, lg_lt, lg_le, lg_gt, lg_ge, lg_eq, j_lit, j_add, j_sub, j_mul, j_neg, j_eq, i64_id, ij, ji, z_rt, Nat.reduceEqDiff, Nat.reduceAdd, Int.reduceAdd, Int.reduceSub, Int.reduceMul, Int.reduceNeg, Int.reduceLT, Int.reduceLE, Int.reduceEq]
theorem c224 {X : zX} {d : Nat} (hd : 0 < d) {S : zS} (s x : Int) (hs : 0 ≤ s ∧ s < 20) (hx : 0 ≤ x ∧ x ≤ 2) {cm cp : Nat} {L : zL} {st : List Value} : z_evc X d 224 [.ref 72, .int (Int32.ofInt s), .int (Int32.ofInt x)] (cm, cp, L, st, mk S) = z_ev X d (cm, cp, L, .int (Int32.ofInt (spR S s x)) :: st, mk S) := z_evc_of (r := (some (.int (Int32.ofInt (spR S s x))), mk S)) (ck := (cm, cp, L, st, mk S)) hd (e224 (X := X) (Nat.le_refl _) s x hs hx)
def cutB (g : Int → Int) (s : Int) : Prop := s = 0 ∨ (1 ≤ s ∧ s ≤ g 0 ∧ g (28 + (s - 1)) = 1)
theorem e225 {X : zX} {d : Nat} (hd : 0 ≤ d) {S : zS} (s : Int) (hs : 0 ≤ s ∧ s ≤ 20) : z_ev X d (z_entry 225 [.ref 72, .int (Int32.ofInt s)] (mk S)) = some (some (.int (Int32.ofInt (b01 (s = 0 ∨ gI S 74 (28 + (s - 1)) = 1)))), mk S) := by
  show z_ev X d (225, 0, [some (.ref 72), some (.int (Int32.ofInt s))], [], mk S) = _
  have e1 : 28 + s - 1 = 28 + (s - 1) := by omega
  by_cases q : s = 0
  · rw [show b01 (s = 0 ∨ gI S 74 (28 + (s - 1)) = 1) = 1 from if_pos (Or.inl q)]
    simp (disch := first | omega | assumption | exact b01_rng _ | exact st_5 | exact st_12 | exact st_19 | (simp only [isSt_sI, isSt_sJ, isSt_sF, isSt_sG, isSt_sA]; assumption)) only [↓B225_0, ↓B225_4, ↓B225_19, ↓B225_23, ↓B225_24, ↓a_74, ↓n_74, ↓r_72_3, ↓s_74, i_lit, i_add, i_sub, i_mul, i_neg, i_lt, i_le, i_eq, i32_gI, i64_gJ, i32_id, i32_to, i64_to, sI_i32, sJ_i64, b01_t, b01_f, i32_b01, b01_0, ↓a_s0, ↓n_s0, ↓a_s1, ↓n_s1, Int.add_zero, t_lt, f_lt, t_le, f_le, t_eq, f_eq, true_and, and_true, false_and, and_false, and_self, ↓reduceIte, z_bool_of, or_true, true_or, or_false, false_or, Int.neg_neg, not_true_eq_false, not_false_eq_true, lg_lt, lg_le, lg_gt, lg_ge, lg_eq, j_lit, j_add, j_sub, j_mul, j_neg, j_eq, i64_id, ij, ji, z_rt, Nat.reduceEqDiff, Nat.reduceAdd, Int.reduceAdd, Int.reduceSub, Int.reduceMul, Int.reduceNeg, Int.reduceLT, Int.reduceLE, Int.reduceEq, q]
  · by_cases w : gI S 74 (28 + (s - 1)) = 1
    · rw [show b01 (s = 0 ∨ gI S 74 (28 + (s - 1)) = 1) = 1 from if_pos (Or.inr w)]
      simp (disch := first | omega | assumption | exact b01_rng _ | exact st_5 | exact st_12 | exact st_19 | (simp only [isSt_sI, isSt_sJ, isSt_sF, isSt_sG, isSt_sA]; assumption)) only [↓B225_0, ↓B225_4, ↓B225_19, ↓B225_23, ↓B225_24, ↓a_74, ↓n_74, ↓r_72_3, ↓s_74, i_lit, i_add, i_sub, i_mul, i_neg, i_lt, i_le, i_eq, i32_gI, i64_gJ, i32_id, i32_to, i64_to, sI_i32, sJ_i64, b01_t, b01_f, i32_b01, b01_0, ↓a_s0, ↓n_s0, ↓a_s1, ↓n_s1, Int.add_zero, t_lt, f_lt, t_le, f_le, t_eq, f_eq, true_and, and_true, false_and, and_false, and_self, ↓reduceIte, z_bool_of, or_true, true_or, or_false, false_or, Int.neg_neg, not_true_eq_false, not_false_eq_true, lg_lt, lg_le, lg_gt, lg_ge, lg_eq, j_lit, j_add, j_sub, j_mul, j_neg, j_eq, i64_id, ij, ji, z_rt, Nat.reduceEqDiff, Nat.reduceAdd, Int.reduceAdd, Int.reduceSub, Int.reduceMul, Int.reduceNeg, Int.reduceLT, Int.reduceLE, Int.reduceEq, q, e1, w]
    · rw [show b01 (s = 0 ∨ gI S 74 (28 + (s - 1)) = 1) = 0 from if_neg (by omega)]
      simp (disch := first | omega | assumption | exact b01_rng _ | exact st_5 | exact st_12 | exact st_19 | (simp only [isSt_sI, isSt_sJ, isSt_sF, isSt_sG, isSt_sA]; assumption)) only [↓B225_0, ↓B225_4, ↓B225_19, ↓B225_23, ↓B225_24, ↓a_74, ↓n_74, ↓r_72_3, ↓s_74, i_lit, i_add, i_sub, i_mul, i_neg, i_lt, i_le, i_eq, i32_gI, i64_gJ, i32_id, i32_to, i64_to, sI_i32, sJ_i64, b01_t, b01_f, i32_b01, b01_0, ↓a_s0, ↓n_s0, ↓a_s1, ↓n_s1, Int.add_zero, t_lt, f_lt, t_le, f_le, t_eq, f_eq, true_and, and_true, false_and, and_false, and_self, ↓reduceIte, z_bool_of, or_true, true_or, or_false, false_or, Int.neg_neg, not_true_eq_false, not_false_eq_true, lg_lt, lg_le, lg_gt, lg_ge, lg_eq, j_lit, j_add, j_sub, j_mul, j_neg, j_eq, i64_id, ij, ji, z_rt, Nat.reduceEqDiff, Nat.reduceAdd, Int.reduceAdd, Int.reduceSub, Int.reduceMul, Int.reduceNeg, Int.reduceLT, Int.reduceLE, Int.reduceEq, q, e1, w]
theorem c225 {X : zX} {d : Nat} (hd : 0 < d) {S : zS} (s : Int) (hs : 0 ≤ s ∧ s ≤ 20) {cm cp : Nat} {L : zL} {st : List Value} : z_evc X d 225 [.ref 72, .int (Int32.ofInt s)] (cm, cp, L, st, mk S) = z_ev X d (cm, cp, L, .int (Int32.ofInt (b01 (s = 0 ∨ gI S 74 (28 + (s - 1)) = 1))) :: st, mk S) := z_evc_of (r := (some (.int (Int32.ofInt (b01 (s = 0 ∨ gI S 74 (28 + (s - 1)) = 1)))), mk S)) (ck := (cm, cp, L, st, mk S)) hd (e225 (X := X) (Nat.le_refl _) s hs)
theorem e222 {X : zX} {d : Nat} (hd : 0 ≤ d) {S : zS} (s : Int) (hs : 0 ≤ s ∧ s ≤ 200) (hb : 0 < s → gI S 102 s = 0 ∨ gI S 102 s = 1) : z_ev X d (z_entry 222 [.ref 72, .int (Int32.ofInt s)] (mk S)) = some (some (.int (Int32.ofInt (b01 (0 < s ∧ gI S 102 s = 1)))), mk S) := by
  show z_ev X d (222, 0, [some (.ref 72), some (.int (Int32.ofInt s))], [], mk S) = _
  by_cases q : 0 < s
  · rcases hb q with w | w
    · rw [show b01 (0 < s ∧ gI S 102 s = 1) = 0 from if_neg (by omega)]
      simp (disch := first | omega | assumption | exact b01_rng _ | exact st_5 | exact st_12 | exact st_19 | (simp only [isSt_sI, isSt_sJ, isSt_sF, isSt_sG, isSt_sA]; assumption)) only [↓B222_0, ↓B222_4, ↓B222_13, ↓B222_17, ↓B222_18, ↓a_102, ↓n_102, ↓r_72_54, ↓s_102, i_lit, i_add, i_sub, i_mul, i_neg, i_lt, i_le, i_eq, i32_gI, i64_gJ, i32_id, i32_to, i64_to, sI_i32, sJ_i64, b01_t, b01_f, i32_b01, b01_0, ↓a_s0, ↓n_s0, ↓a_s1, ↓n_s1, Int.add_zero, t_lt, f_lt, t_le, f_le, t_eq, f_eq, true_and, and_true, false_and, and_false, and_self, ↓reduceIte, z_bool_of, or_true, true_or, or_false, false_or, Int.neg_neg, not_true_eq_false, not_false_eq_true, lg_lt, lg_le, lg_gt, lg_ge, lg_eq, j_lit, j_add, j_sub, j_mul, j_neg, j_eq, i64_id, ij, ji, z_rt, Nat.reduceEqDiff, Nat.reduceAdd, Int.reduceAdd, Int.reduceSub, Int.reduceMul, Int.reduceNeg, Int.reduceLT, Int.reduceLE, Int.reduceEq, w]
    · rw [show b01 (0 < s ∧ gI S 102 s = 1) = 1 from if_pos ⟨q, w⟩]
      simp (disch := first | omega | assumption | exact b01_rng _ | exact st_5 | exact st_12 | exact st_19 | (simp only [isSt_sI, isSt_sJ, isSt_sF, isSt_sG, isSt_sA]; assumption)) only [↓B222_0, ↓B222_4, ↓B222_13, ↓B222_17, ↓B222_18, ↓a_102, ↓n_102, ↓r_72_54, ↓s_102, i_lit, i_add, i_sub, i_mul, i_neg, i_lt, i_le, i_eq, i32_gI, i64_gJ, i32_id, i32_to, i64_to, sI_i32, sJ_i64, b01_t, b01_f, i32_b01, b01_0, ↓a_s0, ↓n_s0, ↓a_s1, ↓n_s1, Int.add_zero, t_lt, f_lt, t_le, f_le, t_eq, f_eq, true_and, and_true, false_and, and_false, and_self, ↓reduceIte, z_bool_of, or_true, true_or, or_false, false_or, Int.neg_neg, not_true_eq_false, not_false_eq_true, lg_lt, lg_le, lg_gt, lg_ge, lg_eq, j_lit, j_add, j_sub, j_mul, j_neg, j_eq, i64_id, ij, ji, z_rt, Nat.reduceEqDiff, Nat.reduceAdd, Int.reduceAdd, Int.reduceSub, Int.reduceMul, Int.reduceNeg, Int.reduceLT, Int.reduceLE, Int.reduceEq, w]
  · rw [show b01 (0 < s ∧ gI S 102 s = 1) = 0 from if_neg (by omega)]
    simp (disch := first | omega | assumption | exact b01_rng _ | exact st_5 | exact st_12 | exact st_19 | (simp only [isSt_sI, isSt_sJ, isSt_sF, isSt_sG, isSt_sA]; assumption)) only [↓B222_0, ↓B222_4, ↓B222_13, ↓B222_17, ↓B222_18, ↓a_102, ↓n_102, ↓r_72_54, ↓s_102, i_lit, i_add, i_sub, i_mul, i_neg, i_lt, i_le, i_eq, i32_gI, i64_gJ, i32_id, i32_to, i64_to, sI_i32, sJ_i64, b01_t, b01_f, i32_b01, b01_0, ↓a_s0, ↓n_s0, ↓a_s1, ↓n_s1, Int.add_zero, t_lt, f_lt, t_le, f_le, t_eq, f_eq, true_and, and_true, false_and, and_false, and_self, ↓reduceIte, z_bool_of, or_true, true_or, or_false, false_or, Int.neg_neg, not_true_eq_false, not_false_eq_true, lg_lt, lg_le, lg_gt, lg_ge, lg_eq, j_lit, j_add, j_sub, j_mul, j_neg, j_eq, i64_id, ij, ji, z_rt, Nat.reduceEqDiff, Nat.reduceAdd, Int.reduceAdd, Int.reduceSub, Int.reduceMul, Int.reduceNeg, Int.reduceLT, Int.reduceLE, Int.reduceEq]

theorem c222 {X : zX} {d : Nat} (hd : 0 < d) {S : zS} (s : Int) (hs : 0 ≤ s ∧ s ≤ 200) (hb : 0 < s → gI S 102 s = 0 ∨ gI S 102 s = 1) {cm cp : Nat} {L : zL} {st : List Value} : z_evc X d 222 [.ref 72, .int (Int32.ofInt s)] (cm, cp, L, st, mk S) = z_ev X d (cm, cp, L, .int (Int32.ofInt (b01 (0 < s ∧ gI S 102 s = 1))) :: st, mk S) := z_evc_of (r := (some (.int (Int32.ofInt (b01 (0 < s ∧ gI S 102 s = 1)))), mk S)) (ck := (cm, cp, L, st, mk S)) hd (e222 (X := X) (Nat.le_refl _) s hs hb)