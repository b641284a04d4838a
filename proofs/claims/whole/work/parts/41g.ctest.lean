/-! the class reads tests, alive -/
def TsC (X : zX) (b : Int → Int) (n : Int) (T : Nat) (d : Nat) (dp ord : Int) (f : Rdr) : Prop := ∀ (S : zS) (t : Nat) (p : Nat × Int), AlT S b n T t → LK S ord p → 0 ≤ gI S 53 3 ∧ gI S 53 3 + T ≤ 436 + t → OutK b n T S t ord p (f p t) (z_ev X d (z_entry 4 [.ref 52, .ref 37, .int (Int32.ofInt dp)] (mk S))) E01
/-- a plain test: z goes to pc 91, or all ends -/
def OutP (X : zX) (d : Nat) (b : Int → Int) (n : Int) (T : Nat) (S : zS) (t : Nat) (ord dp o a k x7 : Int) (p : Nat × Int) (r : pE) (z : Option (Option Value × zM)) : Prop := match r with
  | .inl e => ∃ (S' : zS) (t' : Nat), z = some (none, mk S') ∧ Dead S' b n T t' (tpos b n e) ∧ FrK S S' ∧ KB S' ord
  | .inr (e, p1, t1) => ∃ (S' : zS) (x8 : Option Value), z = z_ev X d (4, 91, L4 dp o a k (some (.int (Int32.ofInt x7))) x8 1, [], mk S') ∧ GoodK b n T S t ord p e p1 t1 S' ∧ E01 e
theorem plain_al {X : zX} {d : Nat} (hd : 9 ≤ d) {b : Int → Int} {n : Int} {T t : Nat} (hn : 0 ≤ n ∧ n ≤ 400) {S : zS} (h : AlT S b n T t) {ord : Int} {p : Nat × Int} (hL : LK S ord p) (hk : 0 ≤ gI S 53 3 ∧ gI S 53 3 + T ≤ 436 + t) {dp : Int} (hdp : 0 ≤ dp ∧ dp ≤ 8) {Sm : Rdr} (hS : SmC X b n T (d - 1) dp ord Sm) {M : Option Rdr} (hM : (dp = 8 ∧ M = none) ∨ (dp < 8 ∧ ∃ f, M = some f ∧ TsC X b n T (d - 1) (dp + 1) ord f)) {o a k x7 : Int} {y7 x8 : Option Value} (ho : -1 ≤ o ∧ o ≤ 436) (ha : -1 ≤ a ∧ a ≤ 436) (hkk : 0 ≤ k ∧ k < 1000) (h7 : x7 = 0 ∨ x7 = 1) : OutP X d b n T S t ord dp o a k x7 p (pPlain (tc b n) Sm M p t) (z_ev X d (4, 28, L4 dp o a k y7 x8 1, [.int (Int32.ofInt x7)], mk S)) := by
  have hT4 := h.1.1.2.2.1
  have htT := h.1.2.2
  have hrt := h.1.1.rg htT
  by_cases q : tc b n t = 40 ∧ dp < 8
  · obtain ⟨q1, q2⟩ := q
    rcases hM with ⟨w, -⟩ | ⟨-, f, rfl, hf⟩
    · omega
    · have ht := h.lt (by omega)
      have h1 := h.go (t' := t + 1) (by omega)
      have kc := fun {cm cp : Nat} {L : zL} {s : List Value} => a93c (X := X) (d := d) (by omega) h (c := 40) q1 (by omega) (cm := cm) (cp := cp) (L := L) (st := s)
      have hF1 : FrK S (sI S 37 4 (t + 1 : Nat)) := FrK.I (by omega)
      have e53 : gI (sI S 37 4 (t + 1 : Nat)) 53 3 = gI S 53 3 := by (repeat (first | rw [gI_sI, if_neg (by omega)] | rw [gI_sF, if_neg (by omega)] | rw [gI_sJ] | rw [gI_sG] | rw [gI_sQ]))
      have e54 : ∀ i, gI (sI S 37 4 (t + 1 : Nat)) 54 i = gI S 54 i := fun i => by (repeat (first | rw [gI_sI, if_neg (by omega)] | rw [gI_sF, if_neg (by omega)] | rw [gI_sJ] | rw [gI_sG] | rw [gI_sQ]))
      have hL1 : LK (sI S 37 4 (t + 1 : Nat)) ord p := hL.fr (by (repeat (first | rw [gI_sI, if_neg (by omega)] | rw [gI_sF, if_neg (by omega)] | rw [gI_sJ] | rw [gI_sG] | rw [gI_sQ]))) (by (repeat (first | rw [gI_sI, if_neg (by omega)] | rw [gI_sF, if_neg (by omega)] | rw [gI_sJ] | rw [gI_sG] | rw [gI_sQ]))) (by (repeat (first | rw [gI_sI, if_neg (by omega)] | rw [gI_sF, if_neg (by omega)] | rw [gI_sJ] | rw [gI_sG] | rw [gI_sQ])))
      have hf1 := hf (sI S 37 4 (t + 1 : Nat)) (t + 1) p h1 hL1 (by rw [e53]; omega)
      have eP : pPlain (tc b n) Sm (some f) p t = (match f p (t + 1) with | .inl e => .inl e | .inr (e, p1, t1) => if tc b n t1 = 41 then .inr (e, p1, t1 + 1) else .inl t1) := by
        show (if tc b n t = 40 then _ else _) = _
        rw [if_pos q1]
        cases f p (t + 1) with
        | inl e => rfl
        | inr x => rfl
      rw [eP]
      cases hp : f p (t + 1) with
      | inl e =>
        rw [hp] at hf1
        obtain ⟨S1, t', a1, a2, a3, a4⟩ := hf1
        have k4 : ∀ {cm cp : Nat} {L : zL} {s : List Value}, z_evc X d 4 [.ref 52, .ref 37, .int (Int32.ofInt (dp + 1))] (cm, cp, L, s, mk (sI S 37 4 (t + 1 : Nat))) = z_ev X d (cm, cp, L, s, mk S1) := fun {cm cp L s} => z_evc_of (r := (none, mk S1)) (ck := (cm, cp, L, s, mk (sI S 37 4 (t + 1 : Nat)))) (show d - 1 < d by omega) a1
        have hf : gI S1 37 5 ≠ -1 := by rw [a2.2.1]; exact a2.2.2
        obtain ⟨S2, e2, g2⟩ := dead_t91 (X := X) (d := d) (by omega) (dp := dp) (o := o) (a := a) (k := k) (x7 := x7) (x8 := x8) a2 a4 ho ha hkk h7
        refine ⟨S2, t', ?_, g2.1, (hF1.tr a3).tr g2.2.1, g2.2.2⟩
        rw [← e2]
        simp (disch := first | omega | assumption | exact b01_rng _ | exact st_5 | exact st_12 | exact st_19 | (simp only [isSt_sI, isSt_sJ, isSt_sF, isSt_sG, isSt_sA]; assumption)) only [↓B4_28, ↓B4_36, ↓B4_42, ↓B4_45, ↓B4_53, ↓B4_59, ↓o_37, ↓o_52, ↓o_53, ↓r_52_0, kc, k4, c94a, i_lit, i_add, i_sub, i_mul, i_neg, i_lt, i_le, i_eq, i32_gI, i64_gJ, i32_id, i32_to, i64_to, sI_i32, sJ_i64, b01_t, b01_f, i32_b01, b01_0, ↓a_s0, ↓n_s0, ↓a_s1, ↓n_s1, Int.add_zero, t_lt, f_lt, t_le, f_le, t_eq, f_eq, true_and, and_true, false_and, and_false, and_self, ↓reduceIte, z_bool_of, or_true, true_or, or_false, false_or, Int.neg_neg, not_true_eq_false, not_false_eq_true, lg_lt, lg_le, lg_gt, lg_ge, lg_eq, j_lit, j_add, j_sub, j_mul, j_neg, j_eq, i64_id, ij, ji, z_rt, Nat.reduceEqDiff, Nat.reduceAdd, Int.reduceAdd, Int.reduceSub, Int.reduceMul, Int.reduceNeg, Int.reduceLT, Int.reduceLE, Int.reduceEq]
      | inr x =>
        obtain ⟨e, p1, t1⟩ := x
        rw [hp] at hf1
        obtain ⟨S1, a1, a2, a3, a4, a5, a6, a7, a8, a9, a10, a11, a12, a13⟩ := hf1
        rw [e53] at a5 a6 a7 a10
        have k4 : ∀ {cm cp : Nat} {L : zL} {s : List Value}, z_evc X d 4 [.ref 52, .ref 37, .int (Int32.ofInt (dp + 1))] (cm, cp, L, s, mk (sI S 37 4 (t + 1 : Nat))) = z_ev X d (cm, cp, L, s, mk S1) := fun {cm cp L s} => z_evc_of (r := (none, mk S1)) (ck := (cm, cp, L, s, mk (sI S 37 4 (t + 1 : Nat)))) (show d - 1 < d by omega) a1
        have hG : GoodK b n T S t ord p e p1 t1 S1 := ⟨a2, hF1.tr a3, a4, a5, by omega, fun i hi => by rw [a7 i hi, e54], a8, a9, a10, a11, a12⟩
        simp only []
        by_cases q4 : tc b n t1 = 41
        · rw [if_pos q4]
          have ht1 := a2.lt (by omega)
          have k94 := fun {cm cp : Nat} {L : zL} {s : List Value} => a94c (X := X) (d := d) (by omega) a2 (c := 41) q4 (by omega) (cm := cm) (cp := cp) (L := L) (st := s)
          exact ⟨sI S1 37 4 (t1 + 1 : Nat), x8, by simp (disch := first | omega | assumption | exact b01_rng _ | exact st_5 | exact st_12 | exact st_19 | (simp only [isSt_sI, isSt_sJ, isSt_sF, isSt_sG, isSt_sA]; assumption)) only [↓B4_28, ↓B4_36, ↓B4_42, ↓B4_45, ↓B4_53, ↓B4_59, ↓o_37, ↓o_52, ↓o_53, ↓r_52_0, kc, k4, k94, i_lit, i_add, i_sub, i_mul, i_neg, i_lt, i_le, i_eq, i32_gI, i64_gJ, i32_id, i32_to, i64_to, sI_i32, sJ_i64, b01_t, b01_f, i32_b01, b01_0, ↓a_s0, ↓n_s0, ↓a_s1, ↓n_s1, Int.add_zero, t_lt, f_lt, t_le, f_le, t_eq, f_eq, true_and, and_true, false_and, and_false, and_self, ↓reduceIte, z_bool_of, or_true, true_or, or_false, false_or, Int.neg_neg, not_true_eq_false, not_false_eq_true, lg_lt, lg_le, lg_gt, lg_ge, lg_eq, j_lit, j_add, j_sub, j_mul, j_neg, j_eq, i64_id, ij, ji, z_rt, Nat.reduceEqDiff, Nat.reduceAdd, Int.reduceAdd, Int.reduceSub, Int.reduceMul, Int.reduceNeg, Int.reduceLT, Int.reduceLE, Int.reduceEq], hG.go ht1, a13⟩
        · rw [if_neg q4]
          have k94 := fun {cm cp : Nat} {L : zL} {s : List Value} => a94b (X := X) (d := d) (by omega) a2 hn (c := 41) (by omega) q4 (cm := cm) (cp := cp) (L := L) (st := s)
          have ht1 := a2.1.2.2
          have hKB : KB (sI S1 37 5 (tpos b n t1)) ord := (a4.fr (by (repeat (first | rw [gI_sI, if_neg (by omega)] | rw [gI_sF, if_neg (by omega)] | rw [gI_sJ] | rw [gI_sG] | rw [gI_sQ]))) (by (repeat (first | rw [gI_sI, if_neg (by omega)] | rw [gI_sF, if_neg (by omega)] | rw [gI_sJ] | rw [gI_sG] | rw [gI_sQ]))) (by (repeat (first | rw [gI_sI, if_neg (by omega)] | rw [gI_sF, if_neg (by omega)] | rw [gI_sJ] | rw [gI_sG] | rw [gI_sQ])))).kb (by (repeat (first | rw [gI_sI, if_neg (by omega)] | rw [gI_sF, if_neg (by omega)] | rw [gI_sJ] | rw [gI_sG] | rw [gI_sQ])); omega)
          obtain ⟨S2, e2, g2⟩ := dead_t91 (X := X) (d := d) (by omega) (dp := dp) (o := o) (a := a) (k := k) (x7 := x7) (x8 := x8) (a2.die hn) hKB ho ha hkk h7
          refine ⟨S2, t1, ?_, g2.1, ((hF1.tr a3).tr (FrK.I (by omega))).tr g2.2.1, g2.2.2⟩
          rw [← e2]
          simp (disch := first | omega | assumption | exact b01_rng _ | exact st_5 | exact st_12 | exact st_19 | (simp only [isSt_sI, isSt_sJ, isSt_sF, isSt_sG, isSt_sA]; assumption)) only [↓B4_28, ↓B4_36, ↓B4_42, ↓B4_45, ↓B4_53, ↓B4_59, ↓o_37, ↓o_52, ↓o_53, ↓r_52_0, kc, k4, k94, i_lit, i_add, i_sub, i_mul, i_neg, i_lt, i_le, i_eq, i32_gI, i64_gJ, i32_id, i32_to, i64_to, sI_i32, sJ_i64, b01_t, b01_f, i32_b01, b01_0, ↓a_s0, ↓n_s0, ↓a_s1, ↓n_s1, Int.add_zero, t_lt, f_lt, t_le, f_le, t_eq, f_eq, true_and, and_true, false_and, and_false, and_self, ↓reduceIte, z_bool_of, or_true, true_or, or_false, false_or, Int.neg_neg, not_true_eq_false, not_false_eq_true, lg_lt, lg_le, lg_gt, lg_ge, lg_eq, j_lit, j_add, j_sub, j_mul, j_neg, j_eq, i64_id, ij, ji, z_rt, Nat.reduceEqDiff, Nat.reduceAdd, Int.reduceAdd, Int.reduceSub, Int.reduceMul, Int.reduceNeg, Int.reduceLT, Int.reduceLE, Int.reduceEq]
  · have eP : pPlain (tc b n) Sm M p t = pCmp (tc b n) Sm p t := by
      rcases hM with ⟨-, rfl⟩ | ⟨w, f, rfl, -⟩
      · rfl
      · show (if tc b n t = 40 then _ else _) = _; rw [if_neg (by omega)]
    have kn := fun {c : Int} (hc : r32 c) (hne : tc b n t ≠ c) {cm cp : Nat} {L : zL} {s : List Value} => a93b (X := X) (d := d) (by omega) h hc hne (cm := cm) (cp := cp) (L := L) (st := s)
    rw [eP, show z_ev X d (4, 28, L4 dp o a k y7 x8 1, [.int (Int32.ofInt x7)], mk S) = z_ev X d (4, 62, L4 dp o a k (some (.int (Int32.ofInt x7))) x8 1, [], mk S) from by
      by_cases q1 : dp < 8
      · simp (disch := first | omega | assumption | exact b01_rng _ | exact st_5 | exact st_12 | exact st_19 | (simp only [isSt_sI, isSt_sJ, isSt_sF, isSt_sG, isSt_sA]; assumption)) only [↓B4_28, ↓B4_36, ↓B4_42, ↓o_37, ↓o_52, ↓o_53, ↓r_52_0, kn, i_lit, i_add, i_sub, i_mul, i_neg, i_lt, i_le, i_eq, i32_gI, i64_gJ, i32_id, i32_to, i64_to, sI_i32, sJ_i64, b01_t, b01_f, i32_b01, b01_0, ↓a_s0, ↓n_s0, ↓a_s1, ↓n_s1, Int.add_zero, t_lt, f_lt, t_le, f_le, t_eq, f_eq, true_and, and_true, false_and, and_false, and_self, ↓reduceIte, z_bool_of, or_true, true_or, or_false, false_or, Int.neg_neg, not_true_eq_false, not_false_eq_true, lg_lt, lg_le, lg_gt, lg_ge, lg_eq, j_lit, j_add, j_sub, j_mul, j_neg, j_eq, i64_id, ij, ji, z_rt, Nat.reduceEqDiff, Nat.reduceAdd, Int.reduceAdd, Int.reduceSub, Int.reduceMul, Int.reduceNeg, Int.reduceLT, Int.reduceLE, Int.reduceEq]
      · simp (disch := first | omega | assumption | exact b01_rng _ | exact st_5 | exact st_12 | exact st_19 | (simp only [isSt_sI, isSt_sJ, isSt_sF, isSt_sG, isSt_sA]; assumption)) only [↓B4_28, i_lit, i_add, i_sub, i_mul, i_neg, i_lt, i_le, i_eq, i32_gI, i64_gJ, i32_id, i32_to, i64_to, sI_i32, sJ_i64, b01_t, b01_f, i32_b01, b01_0, ↓a_s0, ↓n_s0, ↓a_s1, ↓n_s1, Int.add_zero, t_lt, f_lt, t_le, f_le, t_eq, f_eq, true_and, and_true, false_and, and_false, and_self, ↓reduceIte, z_bool_of, or_true, true_or, or_false, false_or, Int.neg_neg, not_true_eq_false, not_false_eq_true, lg_lt, lg_le, lg_gt, lg_ge, lg_eq, j_lit, j_add, j_sub, j_mul, j_neg, j_eq, i64_id, ij, ji, z_rt, Nat.reduceEqDiff, Nat.reduceAdd, Int.reduceAdd, Int.reduceSub, Int.reduceMul, Int.reduceNeg, Int.reduceLT, Int.reduceLE, Int.reduceEq]]
    have hs1 := hS S t p h hL hk
    unfold pCmp
    cases hp : Sm p t with
    | inl e =>
      rw [hp] at hs1
      obtain ⟨S1, t', a1, a2, a3, a4⟩ := hs1
      have k7 : ∀ {cm cp : Nat} {L : zL} {s : List Value}, z_evc X d 7 [.ref 52, .ref 37, .int (Int32.ofInt dp)] (cm, cp, L, s, mk S) = z_ev X d (cm, cp, L, s, mk S1) := fun {cm cp L s} => z_evc_of (r := (none, mk S1)) (ck := (cm, cp, L, s, mk S)) (show d - 1 < d by omega) a1
      obtain ⟨S2, e2, g2⟩ := dead_t68 (X := X) (d := d) (by omega) (dp := dp) (o := o) (a := a) (k := k) (x7 := x7) (x8 := x8) a2 a4 hdp ho ha hkk h7
      refine ⟨S2, t', ?_, g2.1, a3.tr g2.2.1, g2.2.2⟩
      rw [← e2]
      simp (disch := first | omega | assumption | exact b01_rng _ | exact st_5 | exact st_12 | exact st_19 | (simp only [isSt_sI, isSt_sJ, isSt_sF, isSt_sG, isSt_sA]; assumption)) only [↓B4_62, ↓o_37, ↓o_52, ↓o_53, ↓r_52_0, k7, i_lit, i_add, i_sub, i_mul, i_neg, i_lt, i_le, i_eq, i32_gI, i64_gJ, i32_id, i32_to, i64_to, sI_i32, sJ_i64, b01_t, b01_f, i32_b01, b01_0, ↓a_s0, ↓n_s0, ↓a_s1, ↓n_s1, Int.add_zero, t_lt, f_lt, t_le, f_le, t_eq, f_eq, true_and, and_true, false_and, and_false, and_self, ↓reduceIte, z_bool_of, or_true, true_or, or_false, false_or, Int.neg_neg, not_true_eq_false, not_false_eq_true, lg_lt, lg_le, lg_gt, lg_ge, lg_eq, j_lit, j_add, j_sub, j_mul, j_neg, j_eq, i64_id, ij, ji, z_rt, Nat.reduceEqDiff, Nat.reduceAdd, Int.reduceAdd, Int.reduceSub, Int.reduceMul, Int.reduceNeg, Int.reduceLT, Int.reduceLE, Int.reduceEq]
    | inr x =>
      obtain ⟨l, p1, t1⟩ := x
      rw [hp] at hs1
      obtain ⟨S1, a1, a2, a3, a4, a5, a6, a7, a8, a9, a10, a11, a12, -⟩ := hs1
      have k7 : ∀ {cm cp : Nat} {L : zL} {s : List Value}, z_evc X d 7 [.ref 52, .ref 37, .int (Int32.ofInt dp)] (cm, cp, L, s, mk S) = z_ev X d (cm, cp, L, s, mk S1) := fun {cm cp L s} => z_evc_of (r := (none, mk S1)) (ck := (cm, cp, L, s, mk S)) (show d - 1 < d by omega) a1
      obtain ⟨c1, c2⟩ := cmp_al (X := X) (d := d - 1) (by omega) hn a2
      have ht1T := a2.1.2.2
      simp only []
      by_cases q5 : cmpOp (tc b n t1) = -1
      · rw [if_pos q5]
        have k6 : ∀ {cm cp : Nat} {L : zL} {s : List Value}, z_evc X d 6 [.ref 37] (cm, cp, L, s, mk S1) = z_ev X d (cm, cp, L, .int (Int32.ofInt 9) :: s, mk (sI S1 37 5 (tpos b n t1))) := fun {cm cp L s} => z_evc_of (r := (some (.int (Int32.ofInt 9)), mk (sI S1 37 5 (tpos b n t1)))) (ck := (cm, cp, L, s, mk S1)) (show d - 1 < d by omega) (c2 q5)
        have hKB : KB (sI S1 37 5 (tpos b n t1)) ord := (a4.fr (by (repeat (first | rw [gI_sI, if_neg (by omega)] | rw [gI_sF, if_neg (by omega)] | rw [gI_sJ] | rw [gI_sG] | rw [gI_sQ]))) (by (repeat (first | rw [gI_sI, if_neg (by omega)] | rw [gI_sF, if_neg (by omega)] | rw [gI_sJ] | rw [gI_sG] | rw [gI_sQ]))) (by (repeat (first | rw [gI_sI, if_neg (by omega)] | rw [gI_sF, if_neg (by omega)] | rw [gI_sJ] | rw [gI_sG] | rw [gI_sQ])))).kb (by (repeat (first | rw [gI_sI, if_neg (by omega)] | rw [gI_sF, if_neg (by omega)] | rw [gI_sJ] | rw [gI_sG] | rw [gI_sQ])); omega)
        obtain ⟨S2, e2, g2⟩ := dead_t72 (X := X) (d := d) (by omega) (dp := dp) (o := o) (a := a) (k := k) (x7 := x7) (op := 9) (x8 := x8) (a2.die hn) hKB hdp ho ha hkk h7 (by omega)
        refine ⟨S2, t1, ?_, g2.1, (a3.tr (FrK.I (by omega))).tr g2.2.1, g2.2.2⟩
        rw [← e2]
        simp (disch := first | omega | assumption | exact b01_rng _ | exact st_5 | exact st_12 | exact st_19 | (simp only [isSt_sI, isSt_sJ, isSt_sF, isSt_sG, isSt_sA]; assumption)) only [↓B4_62, ↓B4_68, ↓o_37, ↓o_52, ↓o_53, ↓r_52_0, k7, k6, i_lit, i_add, i_sub, i_mul, i_neg, i_lt, i_le, i_eq, i32_gI, i64_gJ, i32_id, i32_to, i64_to, sI_i32, sJ_i64, b01_t, b01_f, i32_b01, b01_0, ↓a_s0, ↓n_s0, ↓a_s1, ↓n_s1, Int.add_zero, t_lt, f_lt, t_le, f_le, t_eq, f_eq, true_and, and_true, false_and, and_false, and_self, ↓reduceIte, z_bool_of, or_true, true_or, or_false, false_or, Int.neg_neg, not_true_eq_false, not_false_eq_true, lg_lt, lg_le, lg_gt, lg_ge, lg_eq, j_lit, j_add, j_sub, j_mul, j_neg, j_eq, i64_id, ij, ji, z_rt, Nat.reduceEqDiff, Nat.reduceAdd, Int.reduceAdd, Int.reduceSub, Int.reduceMul, Int.reduceNeg, Int.reduceLT, Int.reduceLE, Int.reduceEq]
      · rw [if_neg q5]
        obtain ⟨c3, c4, c5, c6⟩ := c1 q5
        have k6 : ∀ {cm cp : Nat} {L : zL} {s : List Value}, z_evc X d 6 [.ref 37] (cm, cp, L, s, mk S1) = z_ev X d (cm, cp, L, .int (Int32.ofInt (cmpOp (tc b n t1))) :: s, mk (sI S1 37 4 (t1 + 1 : Nat))) := fun {cm cp L s} => z_evc_of (r := (some (.int (Int32.ofInt (cmpOp (tc b n t1)))), mk (sI S1 37 4 (t1 + 1 : Nat)))) (ck := (cm, cp, L, s, mk S1)) (show d - 1 < d by omega) c3
        have h2 := a2.go (t' := t1 + 1) (by omega)
        have hF2 : FrK S (sI S1 37 4 (t1 + 1 : Nat)) := a3.tr (FrK.I (by omega))
        have e53 : gI (sI S1 37 4 (t1 + 1 : Nat)) 53 3 = gI S1 53 3 := by (repeat (first | rw [gI_sI, if_neg (by omega)] | rw [gI_sF, if_neg (by omega)] | rw [gI_sJ] | rw [gI_sG] | rw [gI_sQ]))
        have e54 : ∀ i, gI (sI S1 37 4 (t1 + 1 : Nat)) 54 i = gI S1 54 i := fun i => by (repeat (first | rw [gI_sI, if_neg (by omega)] | rw [gI_sF, if_neg (by omega)] | rw [gI_sJ] | rw [gI_sG] | rw [gI_sQ]))
        have hL2 : LK (sI S1 37 4 (t1 + 1 : Nat)) ord p1 := a4.fr (by (repeat (first | rw [gI_sI, if_neg (by omega)] | rw [gI_sF, if_neg (by omega)] | rw [gI_sJ] | rw [gI_sG] | rw [gI_sQ]))) (by (repeat (first | rw [gI_sI, if_neg (by omega)] | rw [gI_sF, if_neg (by omega)] | rw [gI_sJ] | rw [gI_sG] | rw [gI_sQ]))) (by (repeat (first | rw [gI_sI, if_neg (by omega)] | rw [gI_sF, if_neg (by omega)] | rw [gI_sJ] | rw [gI_sG] | rw [gI_sQ])))
        have hs2 := hS (sI S1 37 4 (t1 + 1 : Nat)) (t1 + 1) p1 h2 hL2 (by rw [e53]; omega)
        cases hp2 : Sm p1 (t1 + 1) with
        | inl e =>
          rw [hp2] at hs2
          obtain ⟨S2, t', b1, b2, b3, b4⟩ := hs2
          have k7' : ∀ {cm cp : Nat} {L : zL} {s : List Value}, z_evc X d 7 [.ref 52, .ref 37, .int (Int32.ofInt dp)] (cm, cp, L, s, mk (sI S1 37 4 (t1 + 1 : Nat))) = z_ev X d (cm, cp, L, s, mk S2) := fun {cm cp L s} => z_evc_of (r := (none, mk S2)) (ck := (cm, cp, L, s, mk (sI S1 37 4 (t1 + 1 : Nat)))) (show d - 1 < d by omega) b1
          obtain ⟨S3, e3, g3⟩ := dead_t80 (X := X) (d := d) (by omega) (dp := dp) (o := o) (a := a) (k := k) (x7 := x7) (op := cmpOp (tc b n t1)) b2 b4 ho ha hkk h7 (by omega)
          refine ⟨S3, t', ?_, g3.1, (hF2.tr b3).tr g3.2.1, g3.2.2⟩
          rw [← e3]
          simp (disch := first | omega | assumption | exact b01_rng _ | exact st_5 | exact st_12 | exact st_19 | (simp only [isSt_sI, isSt_sJ, isSt_sF, isSt_sG, isSt_sA]; assumption)) only [↓B4_62, ↓B4_68, ↓B4_72, ↓o_37, ↓o_52, ↓o_53, ↓r_52_0, k7, k6, k7', i_lit, i_add, i_sub, i_mul, i_neg, i_lt, i_le, i_eq, i32_gI, i64_gJ, i32_id, i32_to, i64_to, sI_i32, sJ_i64, b01_t, b01_f, i32_b01, b01_0, ↓a_s0, ↓n_s0, ↓a_s1, ↓n_s1, Int.add_zero, t_lt, f_lt, t_le, f_le, t_eq, f_eq, true_and, and_true, false_and, and_false, and_self, ↓reduceIte, z_bool_of, or_true, true_or, or_false, false_or, Int.neg_neg, not_true_eq_false, not_false_eq_true, lg_lt, lg_le, lg_gt, lg_ge, lg_eq, j_lit, j_add, j_sub, j_mul, j_neg, j_eq, i64_id, ij, ji, z_rt, Nat.reduceEqDiff, Nat.reduceAdd, Int.reduceAdd, Int.reduceSub, Int.reduceMul, Int.reduceNeg, Int.reduceLT, Int.reduceLE, Int.reduceEq]
        | inr y =>
          obtain ⟨r, p2, t2⟩ := y
          rw [hp2] at hs2
          obtain ⟨S2, b1, b2, b3, b4, b5, b6, b7, b8, b9, b10, b11, b12, -⟩ := hs2
          rw [e53] at b5 b6 b7 b10
          have k7' : ∀ {cm cp : Nat} {L : zL} {s : List Value}, z_evc X d 7 [.ref 52, .ref 37, .int (Int32.ofInt dp)] (cm, cp, L, s, mk (sI S1 37 4 (t1 + 1 : Nat))) = z_ev X d (cm, cp, L, s, mk S2) := fun {cm cp L s} => z_evc_of (r := (none, mk S2)) (ck := (cm, cp, L, s, mk (sI S1 37 4 (t1 + 1 : Nat)))) (show d - 1 < d by omega) b1
          have ht2T := b2.1.2.2
          have k16 := fun {cm cp : Nat} {L : zL} {s : List Value} => c16a (X := X) (d := d) (S := S2) (by omega) (cmpOp (tc b n t1)) 0 (by omega) (by omega) (by omega) (cm := cm) (cp := cp) (L := L) (st := s)
          have hz : p2.2 = 0 → p1.2 = 0 := fun w => by have := a4.2.2.2.2.2; omega
          refine ⟨wrS S2 (cmpOp (tc b n t1)) 0, some (.int (Int32.ofInt (cmpOp (tc b n t1)))), ?_, ⟨b2.fr (fun a i q => wrS_o (by omega) (by omega)), (hF2.tr b3).tr FrK.wr, b4.fr (wrS_o (by omega) (by omega)) (wrS_o (by omega) (by omega)) (wrS_o (by omega) (by omega)), by rw [wrS_k (by omega)]; omega, by rw [wrS_k (by omega)]; omega, fun i hi => ?_, by omega, by omega, ?_, eB_b, fun w => NS.b (a12 (hz w)) (b12 w)⟩, eB_01 c5⟩
          · simp (disch := first | omega | assumption | exact b01_rng _ | exact st_5 | exact st_12 | exact st_19 | (simp only [isSt_sI, isSt_sJ, isSt_sF, isSt_sG, isSt_sA]; assumption)) only [↓B4_62, ↓B4_68, ↓B4_72, ↓B4_80, ↓B4_90, ↓o_37, ↓o_52, ↓o_53, ↓r_52_0, k7, k6, k7', k16, i_lit, i_add, i_sub, i_mul, i_neg, i_lt, i_le, i_eq, i32_gI, i64_gJ, i32_id, i32_to, i64_to, sI_i32, sJ_i64, b01_t, b01_f, i32_b01, b01_0, ↓a_s0, ↓n_s0, ↓a_s1, ↓n_s1, Int.add_zero, t_lt, f_lt, t_le, f_le, t_eq, f_eq, true_and, and_true, false_and, and_false, and_self, ↓reduceIte, z_bool_of, or_true, true_or, or_false, false_or, Int.neg_neg, not_true_eq_false, not_false_eq_true, lg_lt, lg_le, lg_gt, lg_ge, lg_eq, j_lit, j_add, j_sub, j_mul, j_neg, j_eq, i64_id, ij, ji, z_rt, Nat.reduceEqDiff, Nat.reduceAdd, Int.reduceAdd, Int.reduceSub, Int.reduceMul, Int.reduceNeg, Int.reduceLT, Int.reduceLE, Int.reduceEq]
          · rw [wrS_c (by omega), b7 i (by omega), e54, a7 i hi]
          · rw [wrS_k (by omega), show p2.1 - p.1 = (p1.1 - p.1) + (p2.1 - p1.1) by omega]
            refine Seg.bin (b := gI S1 53 3) (x := 0) (a10.cg (fun i _ hi => ?_)) (b10.cg (fun i _ hi => wrS_lo hi)) (by omega) (wrS_i (by omega) (by omega) (by omega))
            rw [wrS_lo (by omega)]
            unfold IC; rw [b7 i (by omega), e54, b4.1, a4.1]
/-- what waits in a test: an or, then an and -/
def OSg (I : Ins) (k0 s1 : Int) (n1 : Nat) (o : Option Ev) (io : Int) : Prop := match o with | none => io = -1 ∧ s1 = k0 ∧ n1 = 0 | some e => Seg I k0 io n1 e ∧ I io = (11, 0) ∧ s1 = io + 1
def ASg (I : Ins) (s1 k : Int) (n2 : Nat) (a : Option Ev) (ia : Int) : Prop := match a with | none => ia = -1 ∧ k = s1 ∧ n2 = 0 | some e => Seg I s1 ia n2 e ∧ I ia = (12, 0) ∧ k = ia + 1
def TSg (I : Ins) (k0 k : Int) (n : Nat) (o a : Option Ev) (io ia : Int) : Prop := ∃ (s1 : Int) (n1 n2 : Nat), n = n1 + n2 ∧ OSg I k0 s1 n1 o io ∧ ASg I s1 k n2 a ia
theorem OSg.cg {I I' : Ins} {k0 s1 : Int} {n1 : Nat} {o : Option Ev} {io : Int} (h : OSg I k0 s1 n1 o io) (hI : ∀ i, i < s1 → I' i = I i) : OSg I' k0 s1 n1 o io := by
  cases o with
  | none => obtain ⟨v1, v2, v3⟩ := h; exact ⟨v1, v2, v3⟩
  | some eo =>
    obtain ⟨v1, v2, v3⟩ := h
    exact ⟨v1.cg (fun i _ hi => hI i (by omega)), by rw [hI io (by omega)]; exact v2, v3⟩
def tOK (x : Option Ev) (z : Int) : Prop := ∀ e, x = some e → E01 e ∧ (z = 0 → NS e)
theorem tOK.mono {x : Option Ev} {z z' : Int} (h : tOK x z) (hz : z' = 0 → z = 0) : tOK x z' := fun e q => ⟨(h e q).1, fun w => (h e q).2 (hz w)⟩
theorem jn_01 {op : Int} {x : Option Ev} {z : Int} {e : Ev} (h : tOK x z) (he : E01 e) : E01 (jn op x e) := by
  cases x with
  | none => exact he
  | some l => exact eJ_01 (h l rfl).1 he
theorem jn_ns {op : Int} {x : Option Ev} {z : Int} {e : Ev} (h : tOK x z) (hz : z = 0) (he : NS e) : NS (jn op x e) := by
  cases x with
  | none => exact he
  | some l => exact NS.j ((h l rfl).2 hz) he
theorem trn_01 {x : Bool} {e : Ev} (h : E01 e) : E01 (trn x e) := by
  cases x with
  | false => exact h
  | true => exact eN_01 h
theorem trn_ns {x : Bool} {e : Ev} (h : NS e) : NS (trn x e) := by
  cases x with
  | false => exact h
  | true => exact NS.n h
/-- aiming: one instruction is changed -/
theorem aimS_o {S : zS} {i : Int} {a : Nat} {j : Int} (h : a ≠ 54) : gI (aimS S i) a j = gI S a j := by
  unfold aimS; split
  · rfl
  · rw [gI_sI, if_neg (by omega)]
theorem aimS_c {S : zS} {i j : Int} (h : j ≠ i) : gI (aimS S i) 54 j = gI S 54 j := by
  unfold aimS; split
  · rfl
  · rw [gI_sI, if_neg (by omega)]
theorem FrK.aim {S : zS} {i : Int} : FrK S (aimS S i) := by
  unfold aimS; split
  · exact FrK.rf
  · exact FrK.I (by omega)
theorem aimS_i {S : zS} {i op : Int} (hi : 0 ≤ i) (h : IC S i = (op, 0)) (ho : 2 ≤ op ∧ op < 13) (hk : 0 ≤ gI S 53 3 ∧ gI S 53 3 ≤ 436) : IC (aimS S i) i = (op, gI S 53 3) ∧ 0 ≤ gI S 54 i ∧ gI S 54 i < 1000000 := by
  have h12 : gI S 54 i % 16 = op ∧ gI S 54 i / 16 = 0 := by
    unfold IC dC at h
    split at h
    · exact absurd (congrArg Prod.fst h) (by show ¬ (13 : Int) = op; omega)
    · exact ⟨congrArg Prod.fst h, congrArg Prod.snd h⟩
  obtain ⟨h1, h2⟩ := h12
  have e : gI (aimS S i) 54 i = gI S 54 i + gI S 53 3 * 16 := by
    unfold aimS; rw [if_neg (by omega), gI_sI, if_pos ⟨rfl, rfl⟩, i32_id (by omega) (by omega)]
  refine ⟨?_, by omega, by omega⟩
  unfold IC dC; rw [e, show (gI S 54 i + gI S 53 3 * 16) % 16 = op by omega, show (gI S 54 i + gI S 53 3 * 16) / 16 = gI S 53 3 by omega, if_neg (fun w => w.elim (fun w => by omega) (fun w => absurd w.1 (by omega)))]
/-- a plain test is behind what waits: the and is aimed -/
theorem TSg.aimA {S : zS} {I0 : Ins} {k0 k k1 : Int} {n n' : Nat} {o a : Option Ev} {io ia : Int} {e : Ev} (h : TSg I0 k0 k n o a io ia) (hI : ∀ i, i < k → IC S i = I0 i) (hk0 : 0 ≤ k0) (he : Seg (IC S) k k1 n' e) (hk : gI S 53 3 = k1) (hk2 : k1 ≤ 436) : (-1 ≤ ia ∧ ia < k ∧ (0 ≤ ia → k0 ≤ ia) ∧ (0 ≤ ia → 0 ≤ gI S 54 ia ∧ gI S 54 ia < 1000000)) ∧ ∃ (s1 : Int) (n1 n2 : Nat), n + n' = n1 + n2 ∧ OSg (IC (aimS S ia)) k0 s1 n1 o io ∧ Seg (IC (aimS S ia)) s1 k1 n2 (jn 12 a e) := by
  obtain ⟨s1, n1, n2, h1, h2, h3⟩ := h
  have hek := he.1
  have hs1 : k0 ≤ s1 := by
    cases o with
    | none => have := h2.2.1; omega
    | some eo => have := h2.1.1; have := h2.2.2; omega
  cases a with
  | none =>
    obtain ⟨w1, w2, w3⟩ := h3
    subst w1; subst w2; subst w3
    have eA : aimS S (-1) = S := by unfold aimS; rw [if_pos (by omega)]
    rw [eA]
    refine ⟨⟨by omega, by omega, fun w => by omega, fun w => by omega⟩, k, n1, n', by omega, ?_, he⟩
    exact h2.cg (fun i q => hI i (by omega))
  | some ea =>
    obtain ⟨w1, w2, w3⟩ := h3
    have hia := w1.1
    have hc : IC S ia = (12, 0) := by rw [hI ia (by omega)]; exact w2
    obtain ⟨c1, c2, c3⟩ := aimS_i (S := S) (i := ia) (op := 12) (by omega) hc (by omega) (by omega)
    have hlo : ∀ i, i ≠ ia → IC (aimS S ia) i = IC S i := fun i q => by unfold IC; rw [aimS_c q, aimS_o (by omega)]
    refine ⟨⟨by omega, by omega, fun _ => by omega, fun _ => ⟨c2, c3⟩⟩, s1, n1, n2 + n', by omega, ?_, ?_⟩
    · exact h2.cg (fun i q => by rw [hlo i (by omega), hI i (by omega)])
    · show Seg (IC (aimS S ia)) s1 k1 (n2 + n') (eJ 12 ea e)
      refine Seg.join (b := ia) (w1.cg (fun i _ q => by rw [hlo i (by omega), hI i (by omega)])) ?_ (Or.inr rfl) (by rw [c1, hk])
      rw [← w3]
      exact he.cg (fun i q _ => hlo i (by omega))
/-- .. and the or -/
theorem aimO {S : zS} {k0 k1 s1 : Int} {n1 n2 : Nat} {o : Option Ev} {io : Int} {e : Ev} (hk0 : 0 ≤ k0) (hk : gI S 53 3 = k1) (hk2 : k1 ≤ 436) (h : OSg (IC S) k0 s1 n1 o io) (he : Seg (IC S) s1 k1 n2 e) : (-1 ≤ io ∧ io < k1 ∧ (0 ≤ io → k0 ≤ io) ∧ (0 ≤ io → 0 ≤ gI S 54 io ∧ gI S 54 io < 1000000)) ∧ Seg (IC (aimS S io)) k0 k1 (n1 + n2) (jn 11 o e) := by
  have hek := he.1
  cases o with
  | none =>
    obtain ⟨w1, w2, w3⟩ := h
    subst w1; subst w2; subst w3
    have eA : aimS S (-1) = S := by unfold aimS; rw [if_pos (by omega)]
    rw [eA, Nat.zero_add]
    exact ⟨⟨by omega, by omega, fun w => by omega, fun w => by omega⟩, he⟩
  | some eo =>
    obtain ⟨w1, w2, w3⟩ := h
    have hio := w1.1
    obtain ⟨c1, c2, c3⟩ := aimS_i (S := S) (i := io) (op := 11) (by omega) w2 (by omega) (by omega)
    have hlo : ∀ i, i ≠ io → IC (aimS S io) i = IC S i := fun i q => by unfold IC; rw [aimS_c q, aimS_o (by omega)]
    refine ⟨⟨by omega, by omega, fun _ => by omega, fun _ => ⟨c2, c3⟩⟩, ?_⟩
    show Seg (IC (aimS S io)) k0 k1 (n1 + n2) (eJ 11 eo e)
    refine Seg.join (b := io) (w1.cg (fun i _ q => hlo i (by omega))) ?_ (Or.inl rfl) (by rw [c1, hk])
    rw [← w3]
    exact he.cg (fun i q _ => hlo i (by omega))
