/-! the class: flowThrough -/
def MtC (S : zS) (a m : Nat) : Prop := 114 ≤ a ∧ gH S a = some (.inl 3) ∧ (gH S (a + 1) = some (.inr (0, m)) ∧ gH S (a + 2) = some (.inr (0, m)) ∧ gH S (a + 3) = some (.inr (0, m))) ∧ (gQ S a 0 = some (a + 1) ∧ gQ S a 1 = some (a + 2) ∧ gQ S a 2 = some (a + 3)) ∧ (1 ≤ m ∧ m ≤ 400)
theorem MtC.fr {S T : zS} {a m : Nat} (h : MtC S a m) (hD : Dyn S T) : MtC T a m := by
  obtain ⟨h1, h2, ⟨h3, h4, h5⟩, ⟨h6, h7, h8⟩, h9⟩ := h
  exact ⟨h1, by rw [(hD.1 a h1).2.2]; exact h2, ⟨by rw [(hD.1 (a + 1) (by omega)).2.2]; exact h3, by rw [(hD.1 (a + 2) (by omega)).2.2]; exact h4, by rw [(hD.1 (a + 3) (by omega)).2.2]; exact h5⟩, ⟨by rw [(hD.1 a h1).2.1]; exact h6, by rw [(hD.1 a h1).2.1]; exact h7, by rw [(hD.1 a h1).2.1]; exact h8⟩, h9⟩
theorem mt_z {S : zS} {a m : Nat} (h : MtC S a m) : zdes S a = some (.inl (3, [2, 2, 2, 0, 0, 0])) := by rw [zdes_dyn h.1, h.2.1]; rfl
theorem mt_1 {S : zS} {a m : Nat} (h : MtC S a m) : zdes S (a + 1) = some (.inr (0, m)) := zdes_arr (by have := h.1; omega) h.2.2.1.1
theorem mt_2 {S : zS} {a m : Nat} (h : MtC S a m) : zdes S (a + 2) = some (.inr (0, m)) := zdes_arr (by have := h.1; omega) h.2.2.1.2.1
theorem mt_3 {S : zS} {a m : Nat} (h : MtC S a m) : zdes S (a + 3) = some (.inr (0, m)) := zdes_arr (by have := h.1; omega) h.2.2.1.2.2
/-- the line as bits -/
def BtL (S : zS) (E : Ln) : Prop := gI S 58 8 = E.1 ∧ (0 ≤ E.1 ∧ E.1 ≤ 20) ∧ (∀ i : Nat, i < 32 → (bt (gI S 58 9) i = true ↔ E.2.1 i)) ∧ (∀ u : Int, 0 ≤ u → u ≤ 2 → ∀ i : Nat, i < 32 → (bt (gI S 62 u) i = true ↔ E.2.2 i u)) ∧ ∀ p v, E.2.2 p v → 0 ≤ p ∧ p < E.1
def FrFw (S S' : zS) : Prop := Dyn S S' ∧ (∀ a i, a ≠ 65 → ¬ (a = 58 ∧ i = 10) → gI S' a i = gI S a i) ∧ (∀ a i, gJ S' a i = gJ S a i) ∧ (∀ a i, gQ S' a i = gQ S a i)
theorem FrFw.rf {S : zS} : FrFw S S := ⟨Dyn.rf, fun _ _ _ _ => rfl, fun _ _ => rfl, fun _ _ => rfl⟩
theorem FrFw.tr {A B C : zS} (h1 : FrFw A B) (h2 : FrFw B C) : FrFw A C := ⟨h1.1.tr h2.1, fun a i q r => (h2.2.1 a i q r).trans (h1.2.1 a i q r), fun a i => (h2.2.2.1 a i).trans (h1.2.2.1 a i), fun a i => (h2.2.2.2 a i).trans (h1.2.2.2 a i)⟩
theorem FrFw.I {S : zS} {i x : Int} : FrFw S (sI S 65 i x) := ⟨Dyn.sI (by decide) Dyn.rf, fun b j q _ => by rw [gI_sI, if_neg (by omega)], fun _ _ => rfl, fun _ _ => rfl⟩
theorem FrFw.R {S : zS} {x : Int} : FrFw S (sI S 58 10 x) := ⟨Dyn.sI (by decide) Dyn.rf, fun b j _ q => by rw [gI_sI, if_neg q], fun _ _ => rfl, fun _ _ => rfl⟩
theorem BtL.fr {S S' : zS} {E : Ln} (h : BtL S E) (hF : FrFw S S') : BtL S' E := by
  obtain ⟨h1, h2, h3, h4, h5⟩ := h
  exact ⟨by rw [hF.2.1 58 8 (by omega) (by omega)]; exact h1, h2, fun i hi => by rw [hF.2.1 58 9 (by omega) (by omega)]; exact h3 i hi, fun u u1 u2 i hi => by rw [hF.2.1 62 u (by omega) (by omega)]; exact h4 u u1 u2 i hi, h5⟩
def elI (P C : Int32) : Int32 := (((P &&& C) + C) ^^^ C) ||| P
section
variable {X : zX} {d : Nat} {S : zS} {a m : Nat}
/-- a metre's own looks at its rows -/
theorem mt_o (hM : MtC S a m) {k : Option (Option Value × zM)} : z_obj none (mk S) (.ref a) 3 k = k := L_obj (mt_z hM)
theorem c279 (hd : 0 < d) (hM : MtC S a m) {cm cp : Nat} {L : zL} {st : List Value} : z_evc X d 279 [.ref a] (cm, cp, L, st, mk S) = z_ev X d (cm, cp, L, .int (Int32.ofInt ((m : Int) - 1)) :: st, mk S) := by
  have hm := hM.2.2.2.2
  have h4 : 4 ≤ a + 1 := by have := hM.1; omega
  refine evI (k := 0) hd ?_
  show z_ev X 0 (279, 0, [some (.ref a)], [], mk S) = _
  simp (disch := first | omega | assumption | exact b01_rng _ | exact st_5 | exact st_12 | exact st_19 | (simp only [isSt_sI, isSt_sJ, isSt_sF, isSt_sG, isSt_sA]; assumption)) only [↓B279_0, ↓L_fldQ (j := 0) (r := a + 1) (mt_z hM) rfl hM.2.2.2.1.1, ↓L_len (X := X) h4 (show 0 < 6 by decide) (mt_1 hM), i_lit, i_add, i_sub, i_mul, i_neg, i_lt, i_le, i_eq, i32_gI, i64_gJ, i32_id, i32_to, i64_to, sI_i32, sJ_i64, b01_t, b01_f, i32_b01, b01_0, ↓a_s0, ↓n_s0, ↓a_s1, ↓n_s1, Int.add_zero, t_lt, f_lt, t_le, f_le, t_eq, f_eq, true_and, and_true, false_and, and_false, and_self, ↓reduceIte, z_bool_of, or_true, true_or, or_false, false_or, Int.neg_neg, not_true_eq_false, not_false_eq_true, lg_lt, lg_le, lg_gt, lg_ge, lg_eq, j_lit, j_add, j_sub, j_mul, j_neg, j_eq, i64_id, ij, ji, z_rt, Nat.reduceEqDiff, Nat.reduceAdd, Int.reduceAdd, Int.reduceSub, Int.reduceMul, Int.reduceNeg, Int.reduceLT, Int.reduceLE, Int.reduceEq]
theorem c280 (hd : 0 < d) (hM : MtC S a m) {j : Int} (hj : 0 ≤ j ∧ j < m) {cm cp : Nat} {L : zL} {st : List Value} : z_evc X d 280 [.ref a, .int (Int32.ofInt j)] (cm, cp, L, st, mk S) = z_ev X d (cm, cp, L, .int (Int32.ofInt (gI S (a + 1) j)) :: st, mk S) := by
  have hm := hM.2.2.2.2
  have h4 : 4 ≤ a + 1 := by have := hM.1; omega
  refine evI (k := 0) hd ?_
  show z_ev X 0 (280, 0, [some (.ref a), some (.int (Int32.ofInt j))], [], mk S) = _
  simp (disch := first | omega | assumption | exact b01_rng _ | exact st_5 | exact st_12 | exact st_19 | (simp only [isSt_sI, isSt_sJ, isSt_sF, isSt_sG, isSt_sA]; assumption)) only [↓B280_0, ↓B280_4, ↓B280_13, ↓B280_23, ↓L_fldQ (j := 0) (r := a + 1) (mt_z hM) rfl hM.2.2.2.1.1, ↓L_len (X := X) h4 (show 0 < 6 by decide) (mt_1 hM), ↓G_ald (X := X) h4 (Or.inl rfl) (mt_1 hM), i_lit, i_add, i_sub, i_mul, i_neg, i_lt, i_le, i_eq, i32_gI, i64_gJ, i32_id, i32_to, i64_to, sI_i32, sJ_i64, b01_t, b01_f, i32_b01, b01_0, ↓a_s0, ↓n_s0, ↓a_s1, ↓n_s1, Int.add_zero, t_lt, f_lt, t_le, f_le, t_eq, f_eq, true_and, and_true, false_and, and_false, and_self, ↓reduceIte, z_bool_of, or_true, true_or, or_false, false_or, Int.neg_neg, not_true_eq_false, not_false_eq_true, lg_lt, lg_le, lg_gt, lg_ge, lg_eq, j_lit, j_add, j_sub, j_mul, j_neg, j_eq, i64_id, ij, ji, z_rt, Nat.reduceEqDiff, Nat.reduceAdd, Int.reduceAdd, Int.reduceSub, Int.reduceMul, Int.reduceNeg, Int.reduceLT, Int.reduceLE, Int.reduceEq]
theorem c281 (hd : 0 < d) (hM : MtC S a m) {j : Int} (hj : 0 ≤ j ∧ j < m) {cm cp : Nat} {L : zL} {st : List Value} : z_evc X d 281 [.ref a, .int (Int32.ofInt j)] (cm, cp, L, st, mk S) = z_ev X d (cm, cp, L, .int (Int32.ofInt (gI S (a + 2) j)) :: st, mk S) := by
  have hm := hM.2.2.2.2
  have h4 : 4 ≤ a + 2 := by have := hM.1; omega
  refine evI (k := 0) hd ?_
  show z_ev X 0 (281, 0, [some (.ref a), some (.int (Int32.ofInt j))], [], mk S) = _
  simp (disch := first | omega | assumption | exact b01_rng _ | exact st_5 | exact st_12 | exact st_19 | (simp only [isSt_sI, isSt_sJ, isSt_sF, isSt_sG, isSt_sA]; assumption)) only [↓B281_0, ↓B281_4, ↓B281_13, ↓B281_23, ↓L_fldQ (j := 1) (r := a + 2) (mt_z hM) rfl hM.2.2.2.1.2.1, ↓L_len (X := X) h4 (show 0 < 6 by decide) (mt_2 hM), ↓G_ald (X := X) h4 (Or.inl rfl) (mt_2 hM), i_lit, i_add, i_sub, i_mul, i_neg, i_lt, i_le, i_eq, i32_gI, i64_gJ, i32_id, i32_to, i64_to, sI_i32, sJ_i64, b01_t, b01_f, i32_b01, b01_0, ↓a_s0, ↓n_s0, ↓a_s1, ↓n_s1, Int.add_zero, t_lt, f_lt, t_le, f_le, t_eq, f_eq, true_and, and_true, false_and, and_false, and_self, ↓reduceIte, z_bool_of, or_true, true_or, or_false, false_or, Int.neg_neg, not_true_eq_false, not_false_eq_true, lg_lt, lg_le, lg_gt, lg_ge, lg_eq, j_lit, j_add, j_sub, j_mul, j_neg, j_eq, i64_id, ij, ji, z_rt, Nat.reduceEqDiff, Nat.reduceAdd, Int.reduceAdd, Int.reduceSub, Int.reduceMul, Int.reduceNeg, Int.reduceLT, Int.reduceLE, Int.reduceEq]
theorem c282 (hd : 0 < d) (hM : MtC S a m) {j : Int} (hj : 0 ≤ j ∧ j < m) {cm cp : Nat} {L : zL} {st : List Value} : z_evc X d 282 [.ref a, .int (Int32.ofInt j)] (cm, cp, L, st, mk S) = z_ev X d (cm, cp, L, .int (Int32.ofInt (gI S (a + 3) j)) :: st, mk S) := by
  have hm := hM.2.2.2.2
  have h4 : 4 ≤ a + 3 := by have := hM.1; omega
  refine evI (k := 0) hd ?_
  show z_ev X 0 (282, 0, [some (.ref a), some (.int (Int32.ofInt j))], [], mk S) = _
  simp (disch := first | omega | assumption | exact b01_rng _ | exact st_5 | exact st_12 | exact st_19 | (simp only [isSt_sI, isSt_sJ, isSt_sF, isSt_sG, isSt_sA]; assumption)) only [↓B282_0, ↓B282_4, ↓B282_13, ↓B282_23, ↓L_fldQ (j := 2) (r := a + 3) (mt_z hM) rfl hM.2.2.2.1.2.2, ↓L_len (X := X) h4 (show 0 < 6 by decide) (mt_3 hM), ↓G_ald (X := X) h4 (Or.inl rfl) (mt_3 hM), i_lit, i_add, i_sub, i_mul, i_neg, i_lt, i_le, i_eq, i32_gI, i64_gJ, i32_id, i32_to, i64_to, sI_i32, sJ_i64, b01_t, b01_f, i32_b01, b01_0, ↓a_s0, ↓n_s0, ↓a_s1, ↓n_s1, Int.add_zero, t_lt, f_lt, t_le, f_le, t_eq, f_eq, true_and, and_true, false_and, and_false, and_self, ↓reduceIte, z_bool_of, or_true, true_or, or_false, false_or, Int.neg_neg, not_true_eq_false, not_false_eq_true, lg_lt, lg_le, lg_gt, lg_ge, lg_eq, j_lit, j_add, j_sub, j_mul, j_neg, j_eq, i64_id, ij, ji, z_rt, Nat.reduceEqDiff, Nat.reduceAdd, Int.reduceAdd, Int.reduceSub, Int.reduceMul, Int.reduceNeg, Int.reduceLT, Int.reduceLE, Int.reduceEq]
theorem c52 (hd : 0 < d) {q : Int} (hq : 0 ≤ q ∧ q < 400) {P : Int32} {cm cp : Nat} {L : zL} {st : List Value} : z_evc X d 52 [.ref 58, .int (Int32.ofInt q), .int P] (cm, cp, L, st, mk S) = z_ev X d (cm, cp, L, st, mk (sI S 65 q (Int32.ofInt (gI S 65 q) ||| P).toInt)) := by
  refine evV (k := 0) hd ?_
  show z_ev X 0 (52, 0, [some (.ref 58), some (.int (Int32.ofInt q)), some (.int P)], [], mk S) = _
  simp (disch := first | omega | assumption | exact b01_rng _ | exact st_5 | exact st_12 | exact st_19 | (simp only [isSt_sI, isSt_sJ, isSt_sF, isSt_sG, isSt_sA]; assumption)) only [↓B52_0, ↓B52_4, ↓B52_13, ↓B52_23, ↓a_65, ↓n_65, ↓r_58_5, ↓s_65, i_lit, i_add, i_sub, i_mul, i_neg, i_lt, i_le, i_eq, i32_gI, i64_gJ, i32_id, i32_to, i64_to, sI_i32, sJ_i64, b01_t, b01_f, i32_b01, b01_0, ↓a_s0, ↓n_s0, ↓a_s1, ↓n_s1, Int.add_zero, t_lt, f_lt, t_le, f_le, t_eq, f_eq, true_and, and_true, false_and, and_false, and_self, ↓reduceIte, z_bool_of, or_true, true_or, or_false, false_or, Int.neg_neg, not_true_eq_false, not_false_eq_true, lg_lt, lg_le, lg_gt, lg_ge, lg_eq, j_lit, j_add, j_sub, j_mul, j_neg, j_eq, i64_id, ij, ji, z_rt, Nat.reduceEqDiff, Nat.reduceAdd, Int.reduceAdd, Int.reduceSub, Int.reduceMul, Int.reduceNeg, Int.reduceLT, Int.reduceLE, Int.reduceEq]
theorem c53 (hd : 0 < d) {P : Int32} {cm cp : Nat} {L : zL} {st : List Value} : z_evc X d 53 [.ref 58, .int P] (cm, cp, L, st, mk S) = z_ev X d (cm, cp, L, .int (elI P (Int32.ofInt (gI S 62 2))) :: st, mk S) := by
  refine z_evc_of (k := 0) (r := (some (.int (elI P (Int32.ofInt (gI S 62 2)))), mk S)) (ck := (cm, cp, L, st, mk S)) hd ?_
  show z_ev X 0 (53, 0, [some (.ref 58), some (.int P), none], [], mk S) = _
  unfold elI
  simp (disch := first | omega | assumption | exact b01_rng _ | exact st_5 | exact st_12 | exact st_19 | (simp only [isSt_sI, isSt_sJ, isSt_sF, isSt_sG, isSt_sA]; assumption)) only [↓B53_0, ↓a_62, ↓n_62, ↓r_58_2, ↓s_62, i_lit, i_add, i_sub, i_mul, i_neg, i_lt, i_le, i_eq, i32_gI, i64_gJ, i32_id, i32_to, i64_to, sI_i32, sJ_i64, b01_t, b01_f, i32_b01, b01_0, ↓a_s0, ↓n_s0, ↓a_s1, ↓n_s1, Int.add_zero, t_lt, f_lt, t_le, f_le, t_eq, f_eq, true_and, and_true, false_and, and_false, and_self, ↓reduceIte, z_bool_of, or_true, true_or, or_false, false_or, Int.neg_neg, not_true_eq_false, not_false_eq_true, lg_lt, lg_le, lg_gt, lg_ge, lg_eq, j_lit, j_add, j_sub, j_mul, j_neg, j_eq, i64_id, ij, ji, z_rt, Nat.reduceEqDiff, Nat.reduceAdd, Int.reduceAdd, Int.reduceSub, Int.reduceMul, Int.reduceNeg, Int.reduceLT, Int.reduceLE, Int.reduceEq]
abbrev L51 (a : Nat) (st j : Int) (x4 x5 : Option Value) : zL := [some (.ref 58), some (.ref a), some (.int (Int32.ofInt st)), some (.int (Int32.ofInt j)), x4, x5]
/-- a node's places with those behind elided ones -/
def clI (S : zS) (j : Int) : Int32 := elI (Int32.ofInt (gI S 65 j)) (Int32.ofInt (gI S 62 2))
def clS (S : zS) (j : Int) : zS := sI (sI S 65 j (clI S j).toInt) 58 10 (Int32.ofInt (gI S 58 10) ||| clI S j).toInt
def spS (S : zS) (q : Int) (P : Int32) : zS := sI S 65 q (Int32.ofInt (gI S 65 q) ||| P).toInt
/-- how far a node's way is the same for all -/
theorem h51 (hd : 0 < d) (hM : MtC S a m) {j : Int} (hj : 0 ≤ j ∧ j < m) {st : Int} {x4 x5 : Option Value} : z_ev X d (51, 26, L51 a st j x4 x5, [], mk S) = z_ev X d (51, 82, L51 a st j (some (.int (clI S j))) (vI (gI S (a + 2) j)), [.int (Int32.ofInt (gI S (a + 1) j))], mk (clS S j)) := by
  have hm := hM.2.2.2.2
  have ha := hM.1
  have n1 : ¬ (a + 2 = 65) := by omega
  have n2 : ¬ (a + 2 = 58) := by omega
  have n3 : ¬ (a + 1 = 65) := by omega
  have n4 : ¬ (a + 1 = 58) := by omega
  have hM1 : MtC (clS S j) a m := hM.fr (by unfold clS; (repeat (first | exact Dyn.rf | refine Dyn.sI (by decide) ?_ | refine Dyn.sF (by decide) ?_ | refine Dyn.sJ ?_ | refine Dyn.sG ?_ | refine Dyn.sQ (by decide) ?_)))
  have e1 : gI (clS S j) (a + 2) j = gI S (a + 2) j := by unfold clS; rw [gI_sI, if_neg (by omega), gI_sI, if_neg (by omega)]
  have e2 : gI (clS S j) (a + 1) j = gI S (a + 1) j := by unfold clS; rw [gI_sI, if_neg (by omega), gI_sI, if_neg (by omega)]
  have k0 := fun (k : Option (Option Value × zM)) => mt_o hM1 (k := k)
  have k1 := fun {cm cp : Nat} {L : zL} {st : List Value} => c281 (X := X) hd hM1 hj (cm := cm) (cp := cp) (L := L) (st := st)
  have k2 := fun {cm cp : Nat} {L : zL} {st : List Value} => c280 (X := X) hd hM1 hj (cm := cm) (cp := cp) (L := L) (st := st)
  rw [e1] at k1
  rw [e2] at k2
  unfold clS clI at *
  rw [B51_26]
  simp (disch := first | omega | assumption | exact b01_rng _ | exact st_5 | exact st_12 | exact st_19 | (simp only [isSt_sI, isSt_sJ, isSt_sF, isSt_sG, isSt_sA]; assumption)) only [↓B51_30, ↓B51_39, ↓B51_49, ↓B51_75, ↓a_62, ↓a_65, ↓n_62, ↓n_65, ↓o_58, ↓r_58_10, ↓r_58_2, ↓r_58_5, ↓r_58_9, ↓s_62, ↓s_65, ↓w_58_10, ↓o_58, ↓k0, k1, k2, c53, i_lit, i_add, i_sub, i_mul, i_neg, i_lt, i_le, i_eq, i32_gI, i64_gJ, i32_id, i32_to, i64_to, sI_i32, sJ_i64, b01_t, b01_f, i32_b01, b01_0, ↓a_s0, ↓n_s0, ↓a_s1, ↓n_s1, Int.add_zero, t_lt, f_lt, t_le, f_le, t_eq, f_eq, true_and, and_true, false_and, and_false, and_self, ↓reduceIte, z_bool_of, or_true, true_or, or_false, false_or, Int.neg_neg, not_true_eq_false, not_false_eq_true, lg_lt, lg_le, lg_gt, lg_ge, lg_eq, j_lit, j_add, j_sub, j_mul, j_neg, j_eq, i64_id, ij, ji, z_rt, Nat.reduceEqDiff, Nat.reduceAdd, Int.reduceAdd, Int.reduceSub, Int.reduceMul, Int.reduceNeg, Int.reduceLT, Int.reduceLE, Int.reduceEq, gI_sI, gI_sJ, gI_sF, gI_sG, gI_sQ, gI_sA, gJ_sI, gJ_sJ, gJ_sF, gJ_sG, gJ_sQ, gJ_sA, gQ_sI, gQ_sJ, gQ_sF, gQ_sG, gQ_sQ, gQ_sA, gH_sI, gH_sJ, gH_sF, gH_sG, gH_sQ, gH_sA, gN_sI, gN_sJ, gN_sF, gN_sG, gN_sQ, gN_sA, gW_sI, gW_sJ, gW_sF, gW_sG, gW_sQ, gW_sA, e1, e2, n1, n2, n3, n4]
def shI (C D : Int32) : Int32 := (C &&& D) <<< (Int32.ofInt 1 &&& Int32.ofInt 31)
/-- what a node gives on -/
def nxS (S : zS) (a : Nat) (j : Int) (C : Int32) : zS := if gI S (a + 1) j = 1 then spS S (gI S (a + 2) j) (shI C (Int32.ofInt (gI S 62 1))) else if gI S (a + 1) j = 2 then spS S (gI S (a + 2) j) (shI C (Int32.ofInt (gI S 62 0))) else if gI S (a + 1) j = 3 then spS S (gI S (a + 2) j) (shI C (Int32.ofInt (gI S 62 0) ||| Int32.ofInt (gI S 62 1))) else if gI S (a + 1) j = 4 then spS S (gI S (a + 2) j) (C &&& Int32.ofInt (gI S 58 9)) else if gI S (a + 1) j = 5 then spS (spS S (gI S (a + 2) j) C) (gI S (a + 3) j) C else S
theorem g51 (hd : 0 < d) (hM : MtC S a m) {j : Int} (hj : 0 ≤ j ∧ j < m) {st : Int} {C : Int32} (hk : 0 ≤ gI S (a + 1) j ∧ gI S (a + 1) j ≤ 5) (hn : gI S (a + 1) j ≠ 0 → 0 ≤ gI S (a + 2) j ∧ gI S (a + 2) j < 400) (ho : gI S (a + 1) j = 5 → 0 ≤ gI S (a + 3) j ∧ gI S (a + 3) j < 400) : z_ev X d (51, 82, L51 a st j (some (.int C)) (vI (gI S (a + 2) j)), [.int (Int32.ofInt (gI S (a + 1) j))], mk S) = z_ev X d (51, 26, L51 a st (j - 1) (some (.int C)) (vI (gI S (a + 2) j)), [], mk (nxS S a j C)) := by
  have hm := hM.2.2.2.2
  have ha := hM.1
  have e1 : j + -1 = j - 1 := by omega
  have m1 : ∀ x : Int32, MtC (spS S (gI S (a + 2) j) x) a m := fun x => hM.fr (by unfold spS; (repeat (first | exact Dyn.rf | refine Dyn.sI (by decide) ?_ | refine Dyn.sF (by decide) ?_ | refine Dyn.sJ ?_ | refine Dyn.sG ?_ | refine Dyn.sQ (by decide) ?_)))
  have m2 : ∀ x : Int32, gI (spS S (gI S (a + 2) j) x) (a + 3) j = gI S (a + 3) j := fun x => by unfold spS; rw [gI_sI, if_neg (by omega)]
  unfold nxS
  rcases (show gI S (a + 1) j = 0 ∨ gI S (a + 1) j = 1 ∨ gI S (a + 1) j = 2 ∨ gI S (a + 1) j = 3 ∨ gI S (a + 1) j = 4 ∨ gI S (a + 1) j = 5 by omega) with q | q | q | q | q | q
  · rw [q, if_neg (by omega), if_neg (by omega), if_neg (by omega), if_neg (by omega), if_neg (by omega)]
    simp (disch := first | omega | assumption | exact b01_rng _ | exact st_5 | exact st_12 | exact st_19 | (simp only [isSt_sI, isSt_sJ, isSt_sF, isSt_sG, isSt_sA]; assumption)) only [↓B51_82, ↓B51_221, i_lit, i_add, i_sub, i_mul, i_neg, i_lt, i_le, i_eq, i32_gI, i64_gJ, i32_id, i32_to, i64_to, sI_i32, sJ_i64, b01_t, b01_f, i32_b01, b01_0, ↓a_s0, ↓n_s0, ↓a_s1, ↓n_s1, Int.add_zero, t_lt, f_lt, t_le, f_le, t_eq, f_eq, true_and, and_true, false_and, and_false, and_self, ↓reduceIte, z_bool_of, or_true, true_or, or_false, false_or, Int.neg_neg, not_true_eq_false, not_false_eq_true, lg_lt, lg_le, lg_gt, lg_ge, lg_eq, j_lit, j_add, j_sub, j_mul, j_neg, j_eq, i64_id, ij, ji, z_rt, Nat.reduceEqDiff, Nat.reduceAdd, Int.reduceAdd, Int.reduceSub, Int.reduceMul, Int.reduceNeg, Int.reduceLT, Int.reduceLE, Int.reduceEq, q, e1]
  · have hn := hn (by omega)
    rw [q, if_pos rfl]
    unfold spS shI
    simp (disch := first | omega | assumption | exact b01_rng _ | exact st_5 | exact st_12 | exact st_19 | (simp only [isSt_sI, isSt_sJ, isSt_sF, isSt_sG, isSt_sA]; assumption)) only [↓B51_82, ↓B51_116, ↓B51_133, ↓B51_221, ↓a_62, ↓a_65, ↓n_62, ↓n_65, ↓o_58, ↓r_58_10, ↓r_58_2, ↓r_58_5, ↓r_58_9, ↓s_62, ↓s_65, ↓w_58_10, ↓o_58, c52, i_lit, i_add, i_sub, i_mul, i_neg, i_lt, i_le, i_eq, i32_gI, i64_gJ, i32_id, i32_to, i64_to, sI_i32, sJ_i64, b01_t, b01_f, i32_b01, b01_0, ↓a_s0, ↓n_s0, ↓a_s1, ↓n_s1, Int.add_zero, t_lt, f_lt, t_le, f_le, t_eq, f_eq, true_and, and_true, false_and, and_false, and_self, ↓reduceIte, z_bool_of, or_true, true_or, or_false, false_or, Int.neg_neg, not_true_eq_false, not_false_eq_true, lg_lt, lg_le, lg_gt, lg_ge, lg_eq, j_lit, j_add, j_sub, j_mul, j_neg, j_eq, i64_id, ij, ji, z_rt, Nat.reduceEqDiff, Nat.reduceAdd, Int.reduceAdd, Int.reduceSub, Int.reduceMul, Int.reduceNeg, Int.reduceLT, Int.reduceLE, Int.reduceEq, q, e1]
  · have hn := hn (by omega)
    rw [q, if_neg (by omega), if_pos rfl]
    unfold spS shI
    simp (disch := first | omega | assumption | exact b01_rng _ | exact st_5 | exact st_12 | exact st_19 | (simp only [isSt_sI, isSt_sJ, isSt_sF, isSt_sG, isSt_sA]; assumption)) only [↓B51_82, ↓B51_136, ↓B51_153, ↓B51_221, ↓a_62, ↓a_65, ↓n_62, ↓n_65, ↓o_58, ↓r_58_10, ↓r_58_2, ↓r_58_5, ↓r_58_9, ↓s_62, ↓s_65, ↓w_58_10, ↓o_58, c52, i_lit, i_add, i_sub, i_mul, i_neg, i_lt, i_le, i_eq, i32_gI, i64_gJ, i32_id, i32_to, i64_to, sI_i32, sJ_i64, b01_t, b01_f, i32_b01, b01_0, ↓a_s0, ↓n_s0, ↓a_s1, ↓n_s1, Int.add_zero, t_lt, f_lt, t_le, f_le, t_eq, f_eq, true_and, and_true, false_and, and_false, and_self, ↓reduceIte, z_bool_of, or_true, true_or, or_false, false_or, Int.neg_neg, not_true_eq_false, not_false_eq_true, lg_lt, lg_le, lg_gt, lg_ge, lg_eq, j_lit, j_add, j_sub, j_mul, j_neg, j_eq, i64_id, ij, ji, z_rt, Nat.reduceEqDiff, Nat.reduceAdd, Int.reduceAdd, Int.reduceSub, Int.reduceMul, Int.reduceNeg, Int.reduceLT, Int.reduceLE, Int.reduceEq, q, e1]
  · have hn := hn (by omega)
    rw [q, if_neg (by omega), if_neg (by omega), if_pos rfl]
    unfold spS shI
    simp (disch := first | omega | assumption | exact b01_rng _ | exact st_5 | exact st_12 | exact st_19 | (simp only [isSt_sI, isSt_sJ, isSt_sF, isSt_sG, isSt_sA]; assumption)) only [↓B51_82, ↓B51_156, ↓B51_180, ↓B51_221, ↓a_62, ↓a_65, ↓n_62, ↓n_65, ↓o_58, ↓r_58_10, ↓r_58_2, ↓r_58_5, ↓r_58_9, ↓s_62, ↓s_65, ↓w_58_10, ↓o_58, c52, i_lit, i_add, i_sub, i_mul, i_neg, i_lt, i_le, i_eq, i32_gI, i64_gJ, i32_id, i32_to, i64_to, sI_i32, sJ_i64, b01_t, b01_f, i32_b01, b01_0, ↓a_s0, ↓n_s0, ↓a_s1, ↓n_s1, Int.add_zero, t_lt, f_lt, t_le, f_le, t_eq, f_eq, true_and, and_true, false_and, and_false, and_self, ↓reduceIte, z_bool_of, or_true, true_or, or_false, false_or, Int.neg_neg, not_true_eq_false, not_false_eq_true, lg_lt, lg_le, lg_gt, lg_ge, lg_eq, j_lit, j_add, j_sub, j_mul, j_neg, j_eq, i64_id, ij, ji, z_rt, Nat.reduceEqDiff, Nat.reduceAdd, Int.reduceAdd, Int.reduceSub, Int.reduceMul, Int.reduceNeg, Int.reduceLT, Int.reduceLE, Int.reduceEq, q, e1]
  · have hn := hn (by omega)
    rw [q, if_neg (by omega), if_neg (by omega), if_neg (by omega), if_pos rfl]
    unfold spS
    simp (disch := first | omega | assumption | exact b01_rng _ | exact st_5 | exact st_12 | exact st_19 | (simp only [isSt_sI, isSt_sJ, isSt_sF, isSt_sG, isSt_sA]; assumption)) only [↓B51_82, ↓B51_183, ↓B51_196, ↓B51_221, ↓a_62, ↓a_65, ↓n_62, ↓n_65, ↓o_58, ↓r_58_10, ↓r_58_2, ↓r_58_5, ↓r_58_9, ↓s_62, ↓s_65, ↓w_58_10, ↓o_58, c52, i_lit, i_add, i_sub, i_mul, i_neg, i_lt, i_le, i_eq, i32_gI, i64_gJ, i32_id, i32_to, i64_to, sI_i32, sJ_i64, b01_t, b01_f, i32_b01, b01_0, ↓a_s0, ↓n_s0, ↓a_s1, ↓n_s1, Int.add_zero, t_lt, f_lt, t_le, f_le, t_eq, f_eq, true_and, and_true, false_and, and_false, and_self, ↓reduceIte, z_bool_of, or_true, true_or, or_false, false_or, Int.neg_neg, not_true_eq_false, not_false_eq_true, lg_lt, lg_le, lg_gt, lg_ge, lg_eq, j_lit, j_add, j_sub, j_mul, j_neg, j_eq, i64_id, ij, ji, z_rt, Nat.reduceEqDiff, Nat.reduceAdd, Int.reduceAdd, Int.reduceSub, Int.reduceMul, Int.reduceNeg, Int.reduceLT, Int.reduceLE, Int.reduceEq, q, e1]
  · have hn := hn (by omega)
    have ho := ho q
    rw [q, if_neg (by omega), if_neg (by omega), if_neg (by omega), if_neg (by omega), if_pos rfl]
    unfold spS at m1 m2 ⊢
    have k0 := fun (x : Int32) (k : Option (Option Value × zM)) => mt_o (m1 x) (k := k)
    have k1 := fun (x : Int32) {cm cp : Nat} {L : zL} {st : List Value} => c282 (X := X) hd (m1 x) hj (cm := cm) (cp := cp) (L := L) (st := st)
    simp (disch := first | omega | assumption | exact b01_rng _ | exact st_5 | exact st_12 | exact st_19 | (simp only [isSt_sI, isSt_sJ, isSt_sF, isSt_sG, isSt_sA]; assumption)) only [↓B51_82, ↓B51_199, ↓B51_207, ↓B51_213, ↓B51_218, ↓B51_221, ↓a_62, ↓a_65, ↓n_62, ↓n_65, ↓o_58, ↓r_58_10, ↓r_58_2, ↓r_58_5, ↓r_58_9, ↓s_62, ↓s_65, ↓w_58_10, ↓o_58, c52, ↓k0, k1, m2, i_lit, i_add, i_sub, i_mul, i_neg, i_lt, i_le, i_eq, i32_gI, i64_gJ, i32_id, i32_to, i64_to, sI_i32, sJ_i64, b01_t, b01_f, i32_b01, b01_0, ↓a_s0, ↓n_s0, ↓a_s1, ↓n_s1, Int.add_zero, t_lt, f_lt, t_le, f_le, t_eq, f_eq, true_and, and_true, false_and, and_false, and_self, ↓reduceIte, z_bool_of, or_true, true_or, or_false, false_or, Int.neg_neg, not_true_eq_false, not_false_eq_true, lg_lt, lg_le, lg_gt, lg_ge, lg_eq, j_lit, j_add, j_sub, j_mul, j_neg, j_eq, i64_id, ij, ji, z_rt, Nat.reduceEqDiff, Nat.reduceAdd, Int.reduceAdd, Int.reduceSub, Int.reduceMul, Int.reduceNeg, Int.reduceLT, Int.reduceLE, Int.reduceEq, q, e1]
/-- places at a node -/
def Qs (S : zS) (i : Nat) (p : Int) : Prop := ∃ n : Nat, p = n ∧ n < 32 ∧ bt (gI S 65 i) n = true
theorem Qs_sp {q i : Nat} {P : Int32} {p : Int} : Qs (spS S q P) i p ↔ Qs S i p ∨ (i = q ∧ ∃ n : Nat, p = n ∧ n < 32 ∧ P.toBitVec.getLsbD n = true) := by
  unfold Qs spS
  by_cases e : i = q
  · subst e
    constructor
    · rintro ⟨n, h1, h2, h3⟩
      rw [gI_sI, if_pos ⟨rfl, rfl⟩, bt_i32, bt_to, or_b, Bool.or_eq_true] at h3
      rcases h3 with h | h
      · exact Or.inl ⟨n, h1, h2, h⟩
      · exact Or.inr ⟨rfl, n, h1, h2, h⟩
    · rintro (⟨n, h1, h2, h3⟩ | ⟨-, n, h1, h2, h3⟩)
      · exact ⟨n, h1, h2, by rw [gI_sI, if_pos ⟨rfl, rfl⟩, bt_i32, bt_to, or_b, Bool.or_eq_true]; exact Or.inl h3⟩
      · exact ⟨n, h1, h2, by rw [gI_sI, if_pos ⟨rfl, rfl⟩, bt_i32, bt_to, or_b, Bool.or_eq_true]; exact Or.inr h3⟩
  · rw [gI_sI, if_neg (by omega)]
    exact ⟨Or.inl, fun h => h.elim id (fun h => absurd h.1 e)⟩
theorem Qs_cl {E : Ln} (hL : BtL S E) {j : Nat} {p : Int} : (∃ n : Nat, p = n ∧ n < 32 ∧ (clI S j).toBitVec.getLsbD n = true) ↔ cle E (Qs S j) p := by
  obtain ⟨h1, h2, h3, h4, h5⟩ := hL
  have el : ∀ i : Nat, i < 32 → ((Int32.ofInt (gI S 62 2)).toBitVec.getLsbD i = true ↔ E.2.2 i 2) := fun i hi => h4 2 (by omega) (by omega) i hi
  unfold clI elI
  constructor
  · rintro ⟨n, rfl, hn, h⟩
    obtain ⟨p0, q1, q2, q3⟩ := (elided_all _ _ n hn).mp h
    refine ⟨p0, ⟨p0, rfl, by omega, q2⟩, by omega, fun i w1 w2 => ?_⟩
    have := (el i.toNat (by omega)).mp (q3 i.toNat (by omega) (by omega))
    rw [show ((i.toNat : Nat) : Int) = i by omega] at this
    exact ⟨(h5 i 2 this).2, this⟩
  · rintro ⟨p0, ⟨k, rfl, hk, hb⟩, g1, g2⟩
    have hp : p < 32 := by
      by_cases e : (k : Int) = p
      · omega
      · have := (g2 (p - 1) (by omega) (by omega)).1; omega
    refine ⟨p.toNat, by omega, by omega, (elided_all _ _ p.toNat (by omega)).mpr ⟨k, by omega, hb, fun i w1 w2 => ?_⟩⟩
    exact (el i (by omega)).mpr (g2 i (by omega) (by omega)).2
theorem sh_bit {C D : Int32} {n : Nat} (hn : n < 32) : (shI C D).toBitVec.getLsbD n = true ↔ 1 ≤ n ∧ C.toBitVec.getLsbD (n - 1) = true ∧ D.toBitVec.getLsbD (n - 1) = true := by
  unfold shI
  have := shl_b (C &&& D) (s := 1) (by omega) n
  rw [show (((1 : Nat) : Int)) = (1 : Int) from rfl] at this
  rw [this, and_b, decide_eq_true hn]
  by_cases q : n < 1
  · rw [decide_eq_true q]
    constructor
    · intro h; cases h
    · intro h; omega
  · rw [decide_eq_false q]
    show (C.toBitVec.getLsbD (n - 1) && D.toBitVec.getLsbD (n - 1)) = true ↔ _
    rw [Bool.and_eq_true]
    exact ⟨fun h => ⟨by omega, h⟩, fun h => h.2⟩
/-- a step moves places on -/
theorem giv_sh {E : Ln} {P : Int → Prop} {C D : Int32} {v : Int} (hC : ∀ p : Int, (∃ n : Nat, p = n ∧ n < 32 ∧ C.toBitVec.getLsbD n = true) ↔ cle E P p) (hD : ∀ i : Nat, i < 32 → (D.toBitVec.getLsbD i = true ↔ E.2.2 i v)) (h5 : ∀ p v, E.2.2 p v → 0 ≤ p ∧ p < E.1) (hE : E.1 ≤ 20) {p : Int} : (∃ n : Nat, p = n ∧ n < 32 ∧ (shI C D).toBitVec.getLsbD n = true) ↔ (p - 1 < E.1 ∧ E.2.2 (p - 1) v ∧ cle E P (p - 1)) := by
  constructor
  · rintro ⟨n, rfl, hn, h⟩
    obtain ⟨h1, h2, h3⟩ := (sh_bit hn).mp h
    have e : ((n - 1 : Nat) : Int) = (n : Int) - 1 := by omega
    have w := (hD (n - 1) (by omega)).mp h3
    rw [e] at w
    exact ⟨(h5 _ _ w).2, w, (hC _).mp ⟨n - 1, e.symm, by omega, h2⟩⟩
  · rintro ⟨w1, w2, w3⟩
    obtain ⟨n, h1, h2, h3⟩ := (hC _).mpr w3
    have := h5 _ _ w2
    refine ⟨n + 1, by omega, by omega, (sh_bit (by omega)).mpr ⟨by omega, ?_, ?_⟩⟩
    · rw [Nat.add_sub_cancel]; exact h3
    · rw [Nat.add_sub_cancel]; exact (hD n h2).mpr (by rw [← h1]; exact w2)
end
