/-! the reference: tells, canRead, costsAs -/
/-- the law in force, as the reference has it -/
def LawR (g : Int → Int) (c : Int) (cls : List Cl) : Prop := ClB cls ∧ ((c = -1 ∧ cls = []) ∨ ((0 ≤ c ∧ c < 6) ∧ LwR g (2492 + 900 * c) cls))
section
variable {X : zX} {d : Nat} {cls : List Cl} {g : Int → Int} {s v : Int}
def telS (S : zS) (c s v : Int) : zS := sJ (sJ (sJ (sJ (sJ (sJ (sJ (sJ (sI S 72 34 (2492 + 900 * c)) 90 1 s) 90 2 (gI S 74 (8 + s))) 90 3 v) 90 4 (gI S 74 (28 + s))) 90 5 (gI S 74 (48 + s))) 90 6 (gI S 74 0)) 90 7 (gI S 74 5)) 90 8 (gI S 74 7)
theorem telS_fr {S : zS} {c : Int} : FrTl S (telS S c s v) := by
  refine ⟨?_, fun a i q => ?_, fun a i q1 q2 q3 => ?_, fun _ _ => rfl⟩
  · unfold telS; (repeat (first | exact Dyn.rf | refine Dyn.sI (by decide) ?_ | refine Dyn.sF (by decide) ?_ | refine Dyn.sJ ?_ | refine Dyn.sG ?_ | refine Dyn.sQ (by decide) ?_))
  · unfold telS; rw [gI_sJ, gI_sJ, gI_sJ, gI_sJ, gI_sJ, gI_sJ, gI_sJ, gI_sJ, gI_sI, if_neg (by omega)]
  · unfold telS; rw [gJ_sJ, if_neg (by omega), gJ_sJ, if_neg (by omega), gJ_sJ, if_neg (by omega), gJ_sJ, if_neg (by omega), gJ_sJ, if_neg (by omega), gJ_sJ, if_neg (by omega), gJ_sJ, if_neg (by omega), gJ_sJ, if_neg (by omega), gJ_sI]
theorem telS_w {S : zS} {c : Int} (hs : 0 ≤ s ∧ s < 20) (hv : 0 ≤ v ∧ v ≤ 2) : RWd 0 (telS S c s v) (lww (gI S 74) s v) := by
  refine ⟨fun _ i q1 q2 => ?_, fun q => by omega⟩
  have r0 := gI_rng S 74 (8 + s)
  have r1 := gI_rng S 74 (28 + s)
  have r2 := gI_rng S 74 (48 + s)
  have r3 := gI_rng S 74 0
  have r4 := gI_rng S 74 5
  have r5 := gI_rng S 74 7
  unfold telS lww
  rcases (show i = 0 ∨ i = 1 ∨ i = 2 ∨ i = 3 ∨ i = 4 ∨ i = 5 ∨ i = 6 ∨ i = 7 by omega) with rfl | rfl | rfl | rfl | rfl | rfl | rfl | rfl <;> simp (disch := first | omega | assumption | exact b01_rng _ | exact st_5 | exact st_12 | exact st_19 | (simp only [isSt_sI, isSt_sJ, isSt_sF, isSt_sG, isSt_sA]; assumption)) only [gJ_sJ, gJ_sI, i_lit, i_add, i_sub, i_mul, i_neg, i_lt, i_le, i_eq, i32_gI, i64_gJ, i32_id, i32_to, i64_to, sI_i32, sJ_i64, b01_t, b01_f, i32_b01, b01_0, ↓a_s0, ↓n_s0, ↓a_s1, ↓n_s1, Int.add_zero, t_lt, f_lt, t_le, f_le, t_eq, f_eq, true_and, and_true, false_and, and_false, and_self, ↓reduceIte, z_bool_of, or_true, true_or, or_false, false_or, Int.neg_neg, not_true_eq_false, not_false_eq_true, lg_lt, lg_le, lg_gt, lg_ge, lg_eq, j_lit, j_add, j_sub, j_mul, j_neg, j_eq, i64_id, ij, ji, z_rt, Nat.reduceEqDiff, Nat.reduceAdd, Int.reduceAdd, Int.reduceSub, Int.reduceMul, Int.reduceNeg, Int.reduceLT, Int.reduceLE, Int.reduceEq]
theorem x206 (hd : 5 < d) {S : zS} (hG : GB (gI S 74)) (h1 : 0 ≤ gI S 74 1 ∧ gI S 74 1 ≤ 6) (h20 : gI S 72 20 = 0) (hL : LawR (gI S 74) (gI S 74 4) cls) (hs : 0 ≤ s ∧ s < 20) (hv : 0 ≤ v ∧ v ≤ 2) {h wo : Int} (hh : 0 ≤ h ∧ h ≤ 2) : ∃ S' : zS, z_ev X d (z_entry 206 [.ref 72, .int (Int32.ofInt h), .int (Int32.ofInt s), .int (Int32.ofInt v), .long (Int64.ofInt wo)] (mk S)) = some (some (.long (Int64.ofInt (cls.foldl (tf h (lww (gI S 74) s v)) wo))), mk S') ∧ FrTl S S' := by
  show ∃ S' : zS, z_ev X d (206, 0, [some (.ref 72), some (.int (Int32.ofInt h)), some (.int (Int32.ofInt s)), some (.int (Int32.ofInt v)), some (.long (Int64.ofInt wo)), none, none, none, none, none], [], mk S) = _ ∧ _
  obtain ⟨hB, ⟨hc, rfl⟩ | ⟨hc, hL⟩⟩ := hL
  · refine ⟨S, ?_, FrTl.rf⟩
    simp (disch := first | omega | assumption | exact b01_rng _ | exact st_5 | exact st_12 | exact st_19 | (simp only [isSt_sI, isSt_sJ, isSt_sF, isSt_sG, isSt_sA]; assumption)) only [↓B206_0, ↓B206_10, ↓a_74, ↓a_90, ↓n_74, ↓n_90, ↓o_72, ↓r_72_3, ↓r_72_34, ↓r_72_35, ↓r_72_41, ↓s_74, ↓s_90, ↓w_72_34, i_lit, i_add, i_sub, i_mul, i_neg, i_lt, i_le, i_eq, i32_gI, i64_gJ, i32_id, i32_to, i64_to, sI_i32, sJ_i64, b01_t, b01_f, i32_b01, b01_0, ↓a_s0, ↓n_s0, ↓a_s1, ↓n_s1, Int.add_zero, t_lt, f_lt, t_le, f_le, t_eq, f_eq, true_and, and_true, false_and, and_false, and_self, ↓reduceIte, z_bool_of, or_true, true_or, or_false, false_or, Int.neg_neg, not_true_eq_false, not_false_eq_true, lg_lt, lg_le, lg_gt, lg_ge, lg_eq, j_lit, j_add, j_sub, j_mul, j_neg, j_eq, i64_id, ij, ji, z_rt, Nat.reduceEqDiff, Nat.reduceAdd, Int.reduceAdd, Int.reduceSub, Int.reduceMul, Int.reduceNeg, Int.reduceLT, Int.reduceLE, Int.reduceEq, hc]
    rfl
  · have f0 := telS_fr (S := S) (c := gI S 74 4) (s := s) (v := v)
    have e74 : gI (telS S (gI S 74 4) s v) 74 = gI S 74 := funext fun i => f0.2.1 74 i (by omega)
    obtain ⟨S', x1, x2⟩ := l206 (X := X) (d := d) (b := 2492 + 900 * gI S 74 4) (cls := cls) (w := lww (gI S 74) s v) (by omega) (by omega) hB (lww_b hG hs hv) (h := h) (s := s) (v := v) (wo := wo) hh cls 0 (telS S (gI S 74 4) s v) wo none (by unfold telS; rw [gI_sJ, gI_sJ, gI_sJ, gI_sJ, gI_sJ, gI_sJ, gI_sJ, gI_sJ, gI_sI, if_pos ⟨rfl, rfl⟩, i32_id (by omega) (by omega)]) (by rw [f0.2.1 72 20 (by omega)]; exact h20) (by rw [e74]; exact hL) (telS_w hs hv) (by rw [e74]; exact ⟨hG.1.1, hG.1.2, h1.1, h1.2⟩) (by omega) (fun j => by rw [Nat.zero_add])
    refine ⟨S', ?_, f0.tr x2.t⟩
    rw [← x1]
    have hc' : ¬ gI S 74 4 = -1 := by omega
    have g1 := hG.1
    have g2 := hG.2.1
    have g3 := hG.2.2.1
    have g4 := hG.2.2.2 s hs.1 hs.2
    unfold telS
    simp (disch := first | omega | assumption | exact b01_rng _ | exact st_5 | exact st_12 | exact st_19 | (simp only [isSt_sI, isSt_sJ, isSt_sF, isSt_sG, isSt_sA]; assumption)) only [↓B206_0, ↓B206_13, ↓a_74, ↓a_90, ↓n_74, ↓n_90, ↓o_72, ↓r_72_3, ↓r_72_34, ↓r_72_35, ↓r_72_41, ↓s_74, ↓s_90, ↓w_72_34, i_lit, i_add, i_sub, i_mul, i_neg, i_lt, i_le, i_eq, i32_gI, i64_gJ, i32_id, i32_to, i64_to, sI_i32, sJ_i64, b01_t, b01_f, i32_b01, b01_0, ↓a_s0, ↓n_s0, ↓a_s1, ↓n_s1, Int.add_zero, t_lt, f_lt, t_le, f_le, t_eq, f_eq, true_and, and_true, false_and, and_false, and_self, ↓reduceIte, z_bool_of, or_true, true_or, or_false, false_or, Int.neg_neg, not_true_eq_false, not_false_eq_true, lg_lt, lg_le, lg_gt, lg_ge, lg_eq, j_lit, j_add, j_sub, j_mul, j_neg, j_eq, i64_id, ij, ji, z_rt, Nat.reduceEqDiff, Nat.reduceAdd, Int.reduceAdd, Int.reduceSub, Int.reduceMul, Int.reduceNeg, Int.reduceLT, Int.reduceLE, Int.reduceEq, gI_sI, gI_sJ, gI_sF, gI_sG, gI_sQ, gI_sA, gJ_sI, gJ_sJ, gJ_sF, gJ_sG, gJ_sQ, gJ_sA, gQ_sI, gQ_sJ, gQ_sF, gQ_sG, gQ_sQ, gQ_sA, gH_sI, gH_sJ, gH_sF, gH_sG, gH_sQ, gH_sA, gN_sI, gN_sJ, gN_sF, gN_sG, gN_sQ, gN_sA, gW_sI, gW_sJ, gW_sF, gW_sG, gW_sQ, gW_sA, hc', Int.natCast_zero, Int.ofNat_zero]
theorem x207 (hd : 6 < d) {S : zS} (hG : GB (gI S 74)) (h1 : 0 ≤ gI S 74 1 ∧ gI S 74 1 ≤ 6) (h20 : gI S 72 20 = 0) (hL : LawR (gI S 74) (gI S 74 4) cls) (hs : 0 ≤ s ∧ s < 20) (hv : 0 ≤ v ∧ v ≤ 2) : ∃ S' : zS, z_ev X d (z_entry 207 [.ref 72, .int (Int32.ofInt s), .int (Int32.ofInt v)] (mk S)) = some (vI (b01 (CanR cls (gI S 74) s v)), mk S') ∧ FrTl S S' := by
  have hk := hL.1.1
  have g1 := hG.1
  have g4 := hG.2.2.2 s hs.1 hs.2
  -- the last part: whether it is barred
  have bar : ∀ (S1 : zS) (x3 : Int), FrTl S S1 → ∃ S' : zS, z_ev X d (207, 76, [some (.ref 72), some (.int (Int32.ofInt s)), some (.int (Int32.ofInt v)), some (.int (Int32.ofInt x3)), none], [.int (Int32.ofInt 1)], mk S1) = some (vI (b01 (cls.foldl (tf 2 (lww (gI S 74) s v)) 0 = 0)), mk S') ∧ FrTl S S' := by
    intro S1 x3 hF
    have e74 : gI S1 74 = gI S 74 := funext fun i => hF.2.1 74 i (by omega)
    obtain ⟨S2, y1, y2⟩ := x206 (X := X) (d := 6) (by omega) (S := S1) (cls := cls) (by rw [e74]; exact hG) (by rw [e74]; exact h1) (by rw [hF.2.1 72 20 (by omega)]; exact h20) (by rw [e74]; exact hL) hs hv (h := 2) (wo := 0) (by omega)
    rw [e74] at y1
    have ev := fun {cm cp : Nat} {L : zL} {st : List Value} => evJ (X := X) (d := d) hd y1 (cm := cm) (cp := cp) (L := L) (st := st)
    refine ⟨S2, ?_, hF.tr y2⟩
    rcases tf_01 (w := lww (gI S 74) s v) 2 (by omega) cls 0 (Or.inl rfl) with q | q
    · simp (disch := first | omega | assumption | exact b01_rng _ | exact st_5 | exact st_12 | exact st_19 | (simp only [isSt_sI, isSt_sJ, isSt_sF, isSt_sG, isSt_sA]; assumption)) only [↓B207_76, ↓B207_83, ↓B207_91, ↓B207_96, ↓B207_100, ↓B207_101, ↓a_74, ↓n_74, ↓o_72, ↓r_72_3, ↓s_74, ↓o_72, i_lit, i_add, i_sub, i_mul, i_neg, i_lt, i_le, i_eq, i32_gI, i64_gJ, i32_id, i32_to, i64_to, sI_i32, sJ_i64, b01_t, b01_f, i32_b01, b01_0, ↓a_s0, ↓n_s0, ↓a_s1, ↓n_s1, Int.add_zero, t_lt, f_lt, t_le, f_le, t_eq, f_eq, true_and, and_true, false_and, and_false, and_self, ↓reduceIte, z_bool_of, or_true, true_or, or_false, false_or, Int.neg_neg, not_true_eq_false, not_false_eq_true, lg_lt, lg_le, lg_gt, lg_ge, lg_eq, j_lit, j_add, j_sub, j_mul, j_neg, j_eq, i64_id, ij, ji, z_rt, Nat.reduceEqDiff, Nat.reduceAdd, Int.reduceAdd, Int.reduceSub, Int.reduceMul, Int.reduceNeg, Int.reduceLT, Int.reduceLE, Int.reduceEq, ev, q]
    · simp (disch := first | omega | assumption | exact b01_rng _ | exact st_5 | exact st_12 | exact st_19 | (simp only [isSt_sI, isSt_sJ, isSt_sF, isSt_sG, isSt_sA]; assumption)) only [↓B207_76, ↓B207_83, ↓B207_91, ↓B207_96, ↓B207_100, ↓B207_101, ↓a_74, ↓n_74, ↓o_72, ↓r_72_3, ↓s_74, ↓o_72, i_lit, i_add, i_sub, i_mul, i_neg, i_lt, i_le, i_eq, i32_gI, i64_gJ, i32_id, i32_to, i64_to, sI_i32, sJ_i64, b01_t, b01_f, i32_b01, b01_0, ↓a_s0, ↓n_s0, ↓a_s1, ↓n_s1, Int.add_zero, t_lt, f_lt, t_le, f_le, t_eq, f_eq, true_and, and_true, false_and, and_false, and_self, ↓reduceIte, z_bool_of, or_true, true_or, or_false, false_or, Int.neg_neg, not_true_eq_false, not_false_eq_true, lg_lt, lg_le, lg_gt, lg_ge, lg_eq, j_lit, j_add, j_sub, j_mul, j_neg, j_eq, i64_id, ij, ji, z_rt, Nat.reduceEqDiff, Nat.reduceAdd, Int.reduceAdd, Int.reduceSub, Int.reduceMul, Int.reduceNeg, Int.reduceLT, Int.reduceLE, Int.reduceEq, ev, q]
  have non : ∀ (S1 : zS) (x3 : Int), z_ev X d (207, 76, [some (.ref 72), some (.int (Int32.ofInt s)), some (.int (Int32.ofInt v)), some (.int (Int32.ofInt x3)), none], [.int (Int32.ofInt 0)], mk S1) = some (vI 0, mk S1) := by
    intro S1 x3
    simp (disch := first | omega | assumption | exact b01_rng _ | exact st_5 | exact st_12 | exact st_19 | (simp only [isSt_sI, isSt_sJ, isSt_sF, isSt_sG, isSt_sA]; assumption)) only [↓B207_76, ↓B207_100, ↓B207_101, i_lit, i_add, i_sub, i_mul, i_neg, i_lt, i_le, i_eq, i32_gI, i64_gJ, i32_id, i32_to, i64_to, sI_i32, sJ_i64, b01_t, b01_f, i32_b01, b01_0, ↓a_s0, ↓n_s0, ↓a_s1, ↓n_s1, Int.add_zero, t_lt, f_lt, t_le, f_le, t_eq, f_eq, true_and, and_true, false_and, and_false, and_self, ↓reduceIte, z_bool_of, or_true, true_or, or_false, false_or, Int.neg_neg, not_true_eq_false, not_false_eq_true, lg_lt, lg_le, lg_gt, lg_ge, lg_eq, j_lit, j_add, j_sub, j_mul, j_neg, j_eq, i64_id, ij, ji, z_rt, Nat.reduceEqDiff, Nat.reduceAdd, Int.reduceAdd, Int.reduceSub, Int.reduceMul, Int.reduceNeg, Int.reduceLT, Int.reduceLE, Int.reduceEq]
  show ∃ S' : zS, z_ev X d (207, 0, [some (.ref 72), some (.int (Int32.ofInt s)), some (.int (Int32.ofInt v)), none, none], [], mk S) = _ ∧ _
  unfold CanR
  rw [jud_tf hk]
  simp only []
  by_cases q2 : v = 2
  · rw [if_pos q2]
    by_cases qa : gI S 74 (48 + s) = 1 ∧ s + 1 < gI S 74 0
    · have a1 : b01 (abl (gI S 74) s v) = 1 := if_pos (Or.inl ⟨q2, qa⟩)
      obtain ⟨S', z1, z2⟩ := bar S (gI S 74 (8 + s)) FrTl.rf
      refine ⟨S', ?_, z2⟩
      rw [a1, show (b01 ((1 : Int) ≠ 0 ∧ cls.foldl (tf 2 (lww (gI S 74) s v)) 0 = 0)) = b01 (cls.foldl (tf 2 (lww (gI S 74) s v)) 0 = 0) from by unfold b01; simp only [ne_eq, Int.reduceEq, not_false_eq_true, true_and], ← z1]
      subst q2
      obtain ⟨qa1, qa2⟩ := qa
      simp (disch := first | omega | assumption | exact b01_rng _ | exact st_5 | exact st_12 | exact st_19 | (simp only [isSt_sI, isSt_sJ, isSt_sF, isSt_sG, isSt_sA]; assumption)) only [↓B207_0, ↓B207_15, ↓B207_28, ↓B207_40, ↓B207_44, ↓a_74, ↓n_74, ↓o_72, ↓r_72_3, ↓s_74, i_lit, i_add, i_sub, i_mul, i_neg, i_lt, i_le, i_eq, i32_gI, i64_gJ, i32_id, i32_to, i64_to, sI_i32, sJ_i64, b01_t, b01_f, i32_b01, b01_0, ↓a_s0, ↓n_s0, ↓a_s1, ↓n_s1, Int.add_zero, t_lt, f_lt, t_le, f_le, t_eq, f_eq, true_and, and_true, false_and, and_false, and_self, ↓reduceIte, z_bool_of, or_true, true_or, or_false, false_or, Int.neg_neg, not_true_eq_false, not_false_eq_true, lg_lt, lg_le, lg_gt, lg_ge, lg_eq, j_lit, j_add, j_sub, j_mul, j_neg, j_eq, i64_id, ij, ji, z_rt, Nat.reduceEqDiff, Nat.reduceAdd, Int.reduceAdd, Int.reduceSub, Int.reduceMul, Int.reduceNeg, Int.reduceLT, Int.reduceLE, Int.reduceEq, qa1]
    · have a1 : b01 (abl (gI S 74) s v) = 0 := if_neg (by
        rintro (w | w)
        · exact qa w.2
        · exact w.1 q2)
      refine ⟨S, ?_, FrTl.rf⟩
      rw [a1, show (b01 ((0 : Int) ≠ 0 ∧ cls.foldl (tf 2 (lww (gI S 74) s v)) 0 = 0)) = 0 from if_neg (fun w => w.1 rfl), ← non S (gI S 74 (8 + s))]
      subst q2
      by_cases qb : gI S 74 (48 + s) = 1
      · have qc : ¬ s + 1 < gI S 74 0 := fun w => qa ⟨qb, w⟩
        simp (disch := first | omega | assumption | exact b01_rng _ | exact st_5 | exact st_12 | exact st_19 | (simp only [isSt_sI, isSt_sJ, isSt_sF, isSt_sG, isSt_sA]; assumption)) only [↓B207_0, ↓B207_15, ↓B207_28, ↓B207_40, ↓B207_44, ↓a_74, ↓n_74, ↓o_72, ↓r_72_3, ↓s_74, i_lit, i_add, i_sub, i_mul, i_neg, i_lt, i_le, i_eq, i32_gI, i64_gJ, i32_id, i32_to, i64_to, sI_i32, sJ_i64, b01_t, b01_f, i32_b01, b01_0, ↓a_s0, ↓n_s0, ↓a_s1, ↓n_s1, Int.add_zero, t_lt, f_lt, t_le, f_le, t_eq, f_eq, true_and, and_true, false_and, and_false, and_self, ↓reduceIte, z_bool_of, or_true, true_or, or_false, false_or, Int.neg_neg, not_true_eq_false, not_false_eq_true, lg_lt, lg_le, lg_gt, lg_ge, lg_eq, j_lit, j_add, j_sub, j_mul, j_neg, j_eq, i64_id, ij, ji, z_rt, Nat.reduceEqDiff, Nat.reduceAdd, Int.reduceAdd, Int.reduceSub, Int.reduceMul, Int.reduceNeg, Int.reduceLT, Int.reduceLE, Int.reduceEq, qb]
      · simp (disch := first | omega | assumption | exact b01_rng _ | exact st_5 | exact st_12 | exact st_19 | (simp only [isSt_sI, isSt_sJ, isSt_sF, isSt_sG, isSt_sA]; assumption)) only [↓B207_0, ↓B207_15, ↓B207_28, ↓B207_40, ↓B207_44, ↓a_74, ↓n_74, ↓o_72, ↓r_72_3, ↓s_74, i_lit, i_add, i_sub, i_mul, i_neg, i_lt, i_le, i_eq, i32_gI, i64_gJ, i32_id, i32_to, i64_to, sI_i32, sJ_i64, b01_t, b01_f, i32_b01, b01_0, ↓a_s0, ↓n_s0, ↓a_s1, ↓n_s1, Int.add_zero, t_lt, f_lt, t_le, f_le, t_eq, f_eq, true_and, and_true, false_and, and_false, and_self, ↓reduceIte, z_bool_of, or_true, true_or, or_false, false_or, Int.neg_neg, not_true_eq_false, not_false_eq_true, lg_lt, lg_le, lg_gt, lg_ge, lg_eq, j_lit, j_add, j_sub, j_mul, j_neg, j_eq, i64_id, ij, ji, z_rt, Nat.reduceEqDiff, Nat.reduceAdd, Int.reduceAdd, Int.reduceSub, Int.reduceMul, Int.reduceNeg, Int.reduceLT, Int.reduceLE, Int.reduceEq, qb]
  · rw [if_neg q2]
    by_cases qn : gI S 74 (8 + s) = v ∨ gI S 74 (8 + s) = 2
    · have a1 : b01 (abl (gI S 74) s v) = 1 := if_pos (Or.inr ⟨q2, qn⟩)
      obtain ⟨S', z1, z2⟩ := bar S (gI S 74 (8 + s)) FrTl.rf
      refine ⟨S', ?_, z2⟩
      rw [a1, tf_1 1 (by omega), show (b01 ((1 : Int) ≠ 0 ∧ cls.foldl (tf 2 (lww (gI S 74) s v)) 0 = 0)) = b01 (cls.foldl (tf 2 (lww (gI S 74) s v)) 0 = 0) from by unfold b01; simp only [ne_eq, Int.reduceEq, not_false_eq_true, true_and], ← z1]
      by_cases qb : gI S 74 (8 + s) = v
      · simp (disch := first | omega | assumption | exact b01_rng _ | exact st_5 | exact st_12 | exact st_19 | (simp only [isSt_sI, isSt_sJ, isSt_sF, isSt_sG, isSt_sA]; assumption)) only [↓B207_0, ↓B207_48, ↓B207_53, ↓B207_71, ↓a_74, ↓n_74, ↓o_72, ↓r_72_3, ↓s_74, i_lit, i_add, i_sub, i_mul, i_neg, i_lt, i_le, i_eq, i32_gI, i64_gJ, i32_id, i32_to, i64_to, sI_i32, sJ_i64, b01_t, b01_f, i32_b01, b01_0, ↓a_s0, ↓n_s0, ↓a_s1, ↓n_s1, Int.add_zero, t_lt, f_lt, t_le, f_le, t_eq, f_eq, true_and, and_true, false_and, and_false, and_self, ↓reduceIte, z_bool_of, or_true, true_or, or_false, false_or, Int.neg_neg, not_true_eq_false, not_false_eq_true, lg_lt, lg_le, lg_gt, lg_ge, lg_eq, j_lit, j_add, j_sub, j_mul, j_neg, j_eq, i64_id, ij, ji, z_rt, Nat.reduceEqDiff, Nat.reduceAdd, Int.reduceAdd, Int.reduceSub, Int.reduceMul, Int.reduceNeg, Int.reduceLT, Int.reduceLE, Int.reduceEq, q2, qb]
      · have qc : gI S 74 (8 + s) = 2 := by omega
        have qd : ¬ (2 : Int) = v := by omega
        simp (disch := first | omega | assumption | exact b01_rng _ | exact st_5 | exact st_12 | exact st_19 | (simp only [isSt_sI, isSt_sJ, isSt_sF, isSt_sG, isSt_sA]; assumption)) only [↓B207_0, ↓B207_48, ↓B207_53, ↓B207_71, ↓a_74, ↓n_74, ↓o_72, ↓r_72_3, ↓s_74, i_lit, i_add, i_sub, i_mul, i_neg, i_lt, i_le, i_eq, i32_gI, i64_gJ, i32_id, i32_to, i64_to, sI_i32, sJ_i64, b01_t, b01_f, i32_b01, b01_0, ↓a_s0, ↓n_s0, ↓a_s1, ↓n_s1, Int.add_zero, t_lt, f_lt, t_le, f_le, t_eq, f_eq, true_and, and_true, false_and, and_false, and_self, ↓reduceIte, z_bool_of, or_true, true_or, or_false, false_or, Int.neg_neg, not_true_eq_false, not_false_eq_true, lg_lt, lg_le, lg_gt, lg_ge, lg_eq, j_lit, j_add, j_sub, j_mul, j_neg, j_eq, i64_id, ij, ji, z_rt, Nat.reduceEqDiff, Nat.reduceAdd, Int.reduceAdd, Int.reduceSub, Int.reduceMul, Int.reduceNeg, Int.reduceLT, Int.reduceLE, Int.reduceEq, q2, qc, qd]
    · have a1 : b01 (abl (gI S 74) s v) = 0 := if_neg (by
        rintro (w | w)
        · exact q2 w.1
        · exact qn w.2)
      rw [a1]
      obtain ⟨S2, y1, y2⟩ := x206 (X := X) (d := 6) (by omega) (S := S) (cls := cls) hG h1 h20 hL hs hv (h := 1) (wo := 0) (by omega)
      have ev := fun {cm cp : Nat} {L : zL} {st : List Value} => evJ (X := X) (d := d) hd y1 (cm := cm) (cp := cp) (L := L) (st := st)
      have qb : ¬ gI S 74 (8 + s) = v := fun w => qn (Or.inl w)
      have qc : ¬ gI S 74 (8 + s) = 2 := fun w => qn (Or.inr w)
      rcases tf_01 (w := lww (gI S 74) s v) 1 (by omega) cls 0 (Or.inl rfl) with q | q
      · refine ⟨S2, ?_, y2⟩
        rw [q, show (b01 ((0 : Int) ≠ 0 ∧ cls.foldl (tf 2 (lww (gI S 74) s v)) 0 = 0)) = 0 from if_neg (fun w => w.1 rfl), ← non S2 (gI S 74 (8 + s))]
        simp (disch := first | omega | assumption | exact b01_rng _ | exact st_5 | exact st_12 | exact st_19 | (simp only [isSt_sI, isSt_sJ, isSt_sF, isSt_sG, isSt_sA]; assumption)) only [↓B207_0, ↓B207_48, ↓B207_53, ↓B207_58, ↓B207_66, ↓B207_71, ↓B207_75, ↓a_74, ↓n_74, ↓o_72, ↓r_72_3, ↓s_74, ↓o_72, i_lit, i_add, i_sub, i_mul, i_neg, i_lt, i_le, i_eq, i32_gI, i64_gJ, i32_id, i32_to, i64_to, sI_i32, sJ_i64, b01_t, b01_f, i32_b01, b01_0, ↓a_s0, ↓n_s0, ↓a_s1, ↓n_s1, Int.add_zero, t_lt, f_lt, t_le, f_le, t_eq, f_eq, true_and, and_true, false_and, and_false, and_self, ↓reduceIte, z_bool_of, or_true, true_or, or_false, false_or, Int.neg_neg, not_true_eq_false, not_false_eq_true, lg_lt, lg_le, lg_gt, lg_ge, lg_eq, j_lit, j_add, j_sub, j_mul, j_neg, j_eq, i64_id, ij, ji, z_rt, Nat.reduceEqDiff, Nat.reduceAdd, Int.reduceAdd, Int.reduceSub, Int.reduceMul, Int.reduceNeg, Int.reduceLT, Int.reduceLE, Int.reduceEq, q2, qb, qc, ev, q]
      · obtain ⟨S', z1, z2⟩ := bar S2 (gI S 74 (8 + s)) y2
        refine ⟨S', ?_, z2⟩
        rw [q, show (b01 ((1 : Int) ≠ 0 ∧ cls.foldl (tf 2 (lww (gI S 74) s v)) 0 = 0)) = b01 (cls.foldl (tf 2 (lww (gI S 74) s v)) 0 = 0) from by unfold b01; simp only [ne_eq, Int.reduceEq, not_false_eq_true, true_and], ← z1]
        simp (disch := first | omega | assumption | exact b01_rng _ | exact st_5 | exact st_12 | exact st_19 | (simp only [isSt_sI, isSt_sJ, isSt_sF, isSt_sG, isSt_sA]; assumption)) only [↓B207_0, ↓B207_48, ↓B207_53, ↓B207_58, ↓B207_66, ↓B207_71, ↓B207_75, ↓a_74, ↓n_74, ↓o_72, ↓r_72_3, ↓s_74, ↓o_72, i_lit, i_add, i_sub, i_mul, i_neg, i_lt, i_le, i_eq, i32_gI, i64_gJ, i32_id, i32_to, i64_to, sI_i32, sJ_i64, b01_t, b01_f, i32_b01, b01_0, ↓a_s0, ↓n_s0, ↓a_s1, ↓n_s1, Int.add_zero, t_lt, f_lt, t_le, f_le, t_eq, f_eq, true_and, and_true, false_and, and_false, and_self, ↓reduceIte, z_bool_of, or_true, true_or, or_false, false_or, Int.neg_neg, not_true_eq_false, not_false_eq_true, lg_lt, lg_le, lg_gt, lg_ge, lg_eq, j_lit, j_add, j_sub, j_mul, j_neg, j_eq, i64_id, ij, ji, z_rt, Nat.reduceEqDiff, Nat.reduceAdd, Int.reduceAdd, Int.reduceSub, Int.reduceMul, Int.reduceNeg, Int.reduceLT, Int.reduceLE, Int.reduceEq, q2, qb, qc, ev, q]
theorem tf_b {w : Int → Int} (hW : WB w) : ∀ (cls : List Cl) (x : Int), ClB cls → (-1000000000 ≤ x ∧ x ≤ 1000000000) → -1000000000 ≤ cls.foldl (tf 0 w) x ∧ cls.foldl (tf 0 w) x ≤ 1000000000 := by
  intro cls
  induction cls with
  | nil => intro x _ h; exact h
  | cons cl cls ih =>
    intro x hB h
    refine ih (tf 0 w x cl) ⟨fun c hc => hB.1 c (List.mem_cons_of_mem _ hc), fun c hc => hB.2 c (List.mem_cons_of_mem _ hc)⟩ ?_
    have hb := eV_b (x := cl.2.2.1) hW (hB.2 cl (List.mem_cons_self ..)).1
    by_cases q : cl.1 - 262 = 0 ∧ hlb cl w = true ∧ ((0 : Int) = 0 → eV cl.2.2.1 w ≠ -2000000000)
    · have e : tf 0 w x cl = eV cl.2.2.1 w := by unfold tf; rw [if_pos q, if_pos rfl]
      have := q.2.2 rfl
      rw [e]; omega
    · have e : tf 0 w x cl = x := by unfold tf; rw [if_neg q]
      rw [e]; exact h
theorem x208 (hd : 6 < d) {S : zS} (hG : GB (gI S 74)) (h1 : 0 ≤ gI S 74 1 ∧ gI S 74 1 ≤ 6) (h20 : gI S 72 20 = 0) (hL : LawR (gI S 74) (gI S 74 4) cls) (hs : 0 ≤ s ∧ s < 20) (hv : 0 ≤ v ∧ v ≤ 2) : ∃ S' : zS, z_ev X d (z_entry 208 [.ref 72, .int (Int32.ofInt s), .int (Int32.ofInt v)] (mk S)) = some (vI (CstR cls (gI S 74) s v), mk S') ∧ FrTl S S' := by
  have hk := hL.1.1
  have g4 := hG.2.2.2 s hs.1 hs.2
  have hn := b01_rng (ntr (gI S 74) s v)
  obtain ⟨S2, y1, y2⟩ := x206 (X := X) (d := 6) (by omega) (S := S) (cls := cls) hG h1 h20 hL hs hv (h := 0) (wo := 1 - b01 (ntr (gI S 74) s v)) (by omega)
  have ev := fun {cm cp : Nat} {L : zL} {st : List Value} => evJ (X := X) (d := d) hd y1 (cm := cm) (cp := cp) (L := L) (st := st)
  have hb := tf_b (lww_b hG hs hv) cls (1 - b01 (ntr (gI S 74) s v)) hL.1 (by omega)
  refine ⟨S2, ?_, y2⟩
  have e : CstR cls (gI S 74) s v = clp (cls.foldl (tf 0 (lww (gI S 74) s v)) (1 - b01 (ntr (gI S 74) s v))) := by unfold CstR; rw [jud_tf hk]
  have fin : z_ev X d (208, 34, [some (.ref 72), some (.int (Int32.ofInt s)), some (.int (Int32.ofInt v)), some (.int (Int32.ofInt (gI S 74 (8 + s))))], [.long (Int64.ofInt (1 - b01 (ntr (gI S 74) s v))), .int (Int32.ofInt v), .int (Int32.ofInt s), .int (Int32.ofInt 0), .ref 72], mk S) = some (vI (CstR cls (gI S 74) s v), mk S2) := by
    rw [e]
    generalize cls.foldl (tf 0 (lww (gI S 74) s v)) (1 - b01 (ntr (gI S 74) s v)) = z at *
    generalize 1 - b01 (ntr (gI S 74) s v) = wo at *
    rw [show clp z = (if z < 0 then 0 else if 99 < z then 99 else z) from by unfold clp; split; omega; split; omega; omega]
    simp (disch := first | omega | assumption | exact b01_rng _ | exact st_5 | exact st_12 | exact st_19 | (simp only [isSt_sI, isSt_sJ, isSt_sF, isSt_sG, isSt_sA]; assumption)) only [↓B208_34, ↓B208_37, ↓B208_43, ↓a_74, ↓n_74, ↓o_72, ↓r_72_3, ↓s_74, ↓o_72, c152, i_lit, i_add, i_sub, i_mul, i_neg, i_lt, i_le, i_eq, i32_gI, i64_gJ, i32_id, i32_to, i64_to, sI_i32, sJ_i64, b01_t, b01_f, i32_b01, b01_0, ↓a_s0, ↓n_s0, ↓a_s1, ↓n_s1, Int.add_zero, t_lt, f_lt, t_le, f_le, t_eq, f_eq, true_and, and_true, false_and, and_false, and_self, ↓reduceIte, z_bool_of, or_true, true_or, or_false, false_or, Int.neg_neg, not_true_eq_false, not_false_eq_true, lg_lt, lg_le, lg_gt, lg_ge, lg_eq, j_lit, j_add, j_sub, j_mul, j_neg, j_eq, i64_id, ij, ji, z_rt, Nat.reduceEqDiff, Nat.reduceAdd, Int.reduceAdd, Int.reduceSub, Int.reduceMul, Int.reduceNeg, Int.reduceLT, Int.reduceLE, Int.reduceEq, ev]
  show z_ev X d (208, 0, [some (.ref 72), some (.int (Int32.ofInt s)), some (.int (Int32.ofInt v)), none], [], mk S) = _
  rw [← fin]
  by_cases q2 : v = 2
  · have n0 : b01 (ntr (gI S 74) s v) = 0 := if_neg (fun w => w.1 q2)
    rw [n0]
    simp (disch := first | omega | assumption | exact b01_rng _ | exact st_5 | exact st_12 | exact st_19 | (simp only [isSt_sI, isSt_sJ, isSt_sF, isSt_sG, isSt_sA]; assumption)) only [↓B208_0, ↓B208_33, ↓a_74, ↓n_74, ↓o_72, ↓r_72_3, ↓s_74, i_lit, i_add, i_sub, i_mul, i_neg, i_lt, i_le, i_eq, i32_gI, i64_gJ, i32_id, i32_to, i64_to, sI_i32, sJ_i64, b01_t, b01_f, i32_b01, b01_0, ↓a_s0, ↓n_s0, ↓a_s1, ↓n_s1, Int.add_zero, t_lt, f_lt, t_le, f_le, t_eq, f_eq, true_and, and_true, false_and, and_false, and_self, ↓reduceIte, z_bool_of, or_true, true_or, or_false, false_or, Int.neg_neg, not_true_eq_false, not_false_eq_true, lg_lt, lg_le, lg_gt, lg_ge, lg_eq, j_lit, j_add, j_sub, j_mul, j_neg, j_eq, i64_id, ij, ji, z_rt, Nat.reduceEqDiff, Nat.reduceAdd, Int.reduceAdd, Int.reduceSub, Int.reduceMul, Int.reduceNeg, Int.reduceLT, Int.reduceLE, Int.reduceEq, q2]
  · by_cases qb : gI S 74 (8 + s) = v
    · have n0 : b01 (ntr (gI S 74) s v) = 1 := if_pos ⟨q2, Or.inl qb⟩
      rw [n0]
      simp (disch := first | omega | assumption | exact b01_rng _ | exact st_5 | exact st_12 | exact st_19 | (simp only [isSt_sI, isSt_sJ, isSt_sF, isSt_sG, isSt_sA]; assumption)) only [↓B208_0, ↓B208_19, ↓B208_24, ↓B208_29, ↓B208_33, ↓a_74, ↓n_74, ↓o_72, ↓r_72_3, ↓s_74, i_lit, i_add, i_sub, i_mul, i_neg, i_lt, i_le, i_eq, i32_gI, i64_gJ, i32_id, i32_to, i64_to, sI_i32, sJ_i64, b01_t, b01_f, i32_b01, b01_0, ↓a_s0, ↓n_s0, ↓a_s1, ↓n_s1, Int.add_zero, t_lt, f_lt, t_le, f_le, t_eq, f_eq, true_and, and_true, false_and, and_false, and_self, ↓reduceIte, z_bool_of, or_true, true_or, or_false, false_or, Int.neg_neg, not_true_eq_false, not_false_eq_true, lg_lt, lg_le, lg_gt, lg_ge, lg_eq, j_lit, j_add, j_sub, j_mul, j_neg, j_eq, i64_id, ij, ji, z_rt, Nat.reduceEqDiff, Nat.reduceAdd, Int.reduceAdd, Int.reduceSub, Int.reduceMul, Int.reduceNeg, Int.reduceLT, Int.reduceLE, Int.reduceEq, q2, qb]
    · by_cases qc : gI S 74 (8 + s) = 2
      · have n0 : b01 (ntr (gI S 74) s v) = 1 := if_pos ⟨q2, Or.inr qc⟩
        have qd : ¬ (2 : Int) = v := by omega
        rw [n0]
        simp (disch := first | omega | assumption | exact b01_rng _ | exact st_5 | exact st_12 | exact st_19 | (simp only [isSt_sI, isSt_sJ, isSt_sF, isSt_sG, isSt_sA]; assumption)) only [↓B208_0, ↓B208_19, ↓B208_24, ↓B208_29, ↓B208_33, ↓a_74, ↓n_74, ↓o_72, ↓r_72_3, ↓s_74, i_lit, i_add, i_sub, i_mul, i_neg, i_lt, i_le, i_eq, i32_gI, i64_gJ, i32_id, i32_to, i64_to, sI_i32, sJ_i64, b01_t, b01_f, i32_b01, b01_0, ↓a_s0, ↓n_s0, ↓a_s1, ↓n_s1, Int.add_zero, t_lt, f_lt, t_le, f_le, t_eq, f_eq, true_and, and_true, false_and, and_false, and_self, ↓reduceIte, z_bool_of, or_true, true_or, or_false, false_or, Int.neg_neg, not_true_eq_false, not_false_eq_true, lg_lt, lg_le, lg_gt, lg_ge, lg_eq, j_lit, j_add, j_sub, j_mul, j_neg, j_eq, i64_id, ij, ji, z_rt, Nat.reduceEqDiff, Nat.reduceAdd, Int.reduceAdd, Int.reduceSub, Int.reduceMul, Int.reduceNeg, Int.reduceLT, Int.reduceLE, Int.reduceEq, q2, qc, qd]
      · have n0 : b01 (ntr (gI S 74) s v) = 0 := if_neg (fun w => by rcases w.2 with w | w; exact qb w; exact qc w)
        rw [n0]
        simp (disch := first | omega | assumption | exact b01_rng _ | exact st_5 | exact st_12 | exact st_19 | (simp only [isSt_sI, isSt_sJ, isSt_sF, isSt_sG, isSt_sA]; assumption)) only [↓B208_0, ↓B208_19, ↓B208_24, ↓B208_29, ↓B208_33, ↓a_74, ↓n_74, ↓o_72, ↓r_72_3, ↓s_74, i_lit, i_add, i_sub, i_mul, i_neg, i_lt, i_le, i_eq, i32_gI, i64_gJ, i32_id, i32_to, i64_to, sI_i32, sJ_i64, b01_t, b01_f, i32_b01, b01_0, ↓a_s0, ↓n_s0, ↓a_s1, ↓n_s1, Int.add_zero, t_lt, f_lt, t_le, f_le, t_eq, f_eq, true_and, and_true, false_and, and_false, and_self, ↓reduceIte, z_bool_of, or_true, true_or, or_false, false_or, Int.neg_neg, not_true_eq_false, not_false_eq_true, lg_lt, lg_le, lg_gt, lg_ge, lg_eq, j_lit, j_add, j_sub, j_mul, j_neg, j_eq, i64_id, ij, ji, z_rt, Nat.reduceEqDiff, Nat.reduceAdd, Int.reduceAdd, Int.reduceSub, Int.reduceMul, Int.reduceNeg, Int.reduceLT, Int.reduceLE, Int.reduceEq, q2, qb, qc]
end
