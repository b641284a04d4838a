/-! the class reads sums, alive -/
theorem OutK.go {b : Int → Int} {n : Int} {T : Nat} {S S1 : zS} {t t1 : Nat} {ord : Int} {p p1 : Nat × Int} {e : Ev} {C : Ev → Prop} (h : OutK b n T S t ord p (.inr (e, p1, t1)) (some (none, mk S1)) C) (hm : ∀ Z, mk Z = mk S1 → Z = S1) (ht : t1 < T) : OutK b n T S t ord p (.inr (e, p1, t1 + 1)) (some (none, mk (sI S1 37 4 (t1 + 1 : Nat)))) C := by
  obtain ⟨Z, a1, a2, a3, a4, a5, a6, a7, a8⟩ := h
  have hz : Z = S1 := hm Z (by have := Option.some.inj a1; exact (Prod.ext_iff.mp this).2.symm)
  subst hz
  have e54 : ∀ i, gI (sI Z 37 4 (t1 + 1 : Nat)) 54 i = gI Z 54 i := fun i => by (repeat (first | rw [gI_sI, if_neg (by omega)] | rw [gI_sF, if_neg (by omega)] | rw [gI_sJ] | rw [gI_sG] | rw [gI_sQ]))
  have eI : IC (sI Z 37 4 (t1 + 1 : Nat)) = IC Z := IC_fr e54 (by (repeat (first | rw [gI_sI, if_neg (by omega)] | rw [gI_sF, if_neg (by omega)] | rw [gI_sJ] | rw [gI_sG] | rw [gI_sQ])))
  have e53 : gI (sI Z 37 4 (t1 + 1 : Nat)) 53 3 = gI Z 53 3 := by (repeat (first | rw [gI_sI, if_neg (by omega)] | rw [gI_sF, if_neg (by omega)] | rw [gI_sJ] | rw [gI_sG] | rw [gI_sQ]))
  exact ⟨_, rfl, a2.go (by omega), a3.tr (FrK.I (by omega)), a4.fr (by (repeat (first | rw [gI_sI, if_neg (by omega)] | rw [gI_sF, if_neg (by omega)] | rw [gI_sJ] | rw [gI_sG] | rw [gI_sQ]))) (by (repeat (first | rw [gI_sI, if_neg (by omega)] | rw [gI_sF, if_neg (by omega)] | rw [gI_sJ] | rw [gI_sG] | rw [gI_sQ]))) (by (repeat (first | rw [gI_sI, if_neg (by omega)] | rw [gI_sF, if_neg (by omega)] | rw [gI_sJ] | rw [gI_sG] | rw [gI_sQ]))), by rw [e53]; exact a5, by rw [e53]; omega, fun i hi => by rw [e54]; exact a7 i hi, by rw [eI, e53]; exact a8⟩
/-- the parts of OutK, as they are used -/
def GoodK (b : Int → Int) (n : Int) (T : Nat) (S : zS) (t : Nat) (ord : Int) (p : Nat × Int) (e : Ev) (p1 : Nat × Int) (t1 : Nat) (S' : zS) : Prop := AlT S' b n T t1 ∧ FrK S S' ∧ LK S' ord p1 ∧ gI S 53 3 < gI S' 53 3 ∧ gI S' 53 3 + t ≤ gI S 53 3 + t1 ∧ Low S S' (gI S 53 3) ∧ p.1 < p1.1 ∧ p.2 ≤ p1.2 ∧ Seg (IC S') (gI S 53 3) (gI S' 53 3) (p1.1 - p.1) e ∧ EB e ∧ (p1.2 = 0 → NS e)
theorem GoodK.out {b : Int → Int} {n : Int} {T : Nat} {S S' : zS} {t t1 : Nat} {ord : Int} {p p1 : Nat × Int} {e : Ev} (h : GoodK b n T S t ord p e p1 t1 S') {C : Ev → Prop} (hC : C e) : OutK b n T S t ord p (.inr (e, p1, t1)) (some (none, mk S')) C := by
  obtain ⟨a1, a2, a3, a4, a5, a6, a7, a8, a9, a10, a11⟩ := h
  exact ⟨S', rfl, a1, a2, a3, a4, a5, a6, a7, a8, a9, a10, a11, hC⟩
theorem GoodK.go {b : Int → Int} {n : Int} {T : Nat} {S S' : zS} {t t1 : Nat} {ord : Int} {p p1 : Nat × Int} {e : Ev} (h : GoodK b n T S t ord p e p1 t1 S') (ht : t1 < T) : GoodK b n T S t ord p e p1 (t1 + 1) (sI S' 37 4 (t1 + 1 : Nat)) := by
  obtain ⟨a1, a2, a3, a4, a5, a6, a7, a8, a9, a10, a11⟩ := h
  have e54 : ∀ i, gI (sI S' 37 4 (t1 + 1 : Nat)) 54 i = gI S' 54 i := fun i => by (repeat (first | rw [gI_sI, if_neg (by omega)] | rw [gI_sF, if_neg (by omega)] | rw [gI_sJ] | rw [gI_sG] | rw [gI_sQ]))
  have eI : IC (sI S' 37 4 (t1 + 1 : Nat)) = IC S' := IC_fr e54 (by (repeat (first | rw [gI_sI, if_neg (by omega)] | rw [gI_sF, if_neg (by omega)] | rw [gI_sJ] | rw [gI_sG] | rw [gI_sQ])))
  have e53 : gI (sI S' 37 4 (t1 + 1 : Nat)) 53 3 = gI S' 53 3 := by (repeat (first | rw [gI_sI, if_neg (by omega)] | rw [gI_sF, if_neg (by omega)] | rw [gI_sJ] | rw [gI_sG] | rw [gI_sQ]))
  exact ⟨a1.go (by omega), a2.tr (FrK.I (by omega)), a3.fr (by (repeat (first | rw [gI_sI, if_neg (by omega)] | rw [gI_sF, if_neg (by omega)] | rw [gI_sJ] | rw [gI_sG] | rw [gI_sQ]))) (by (repeat (first | rw [gI_sI, if_neg (by omega)] | rw [gI_sF, if_neg (by omega)] | rw [gI_sJ] | rw [gI_sG] | rw [gI_sQ]))) (by (repeat (first | rw [gI_sI, if_neg (by omega)] | rw [gI_sF, if_neg (by omega)] | rw [gI_sJ] | rw [gI_sG] | rw [gI_sQ]))), by rw [e53]; exact a4, by rw [e53]; omega, fun i hi => by rw [e54]; exact a6 i hi, a7, a8, by rw [eI, e53]; exact a9, a10, a11⟩
/-- a sum is read by f -/
def SmC (X : zX) (b : Int → Int) (n : Int) (T : Nat) (d : Nat) (dp ord : Int) (f : Rdr) : Prop := ∀ (S : zS) (t : Nat) (p : Nat × Int), AlT S b n T t → LK S ord p → 0 ≤ gI S 53 3 ∧ gI S 53 3 + T ≤ 436 + t → OutK b n T S t ord p (f p t) (z_ev X d (z_entry 7 [.ref 52, .ref 37, .int (Int32.ofInt dp)] (mk S))) (fun _ => True)
theorem part_al {X : zX} {d : Nat} (hd : 6 ≤ d) {b : Int → Int} {n : Int} {T t : Nat} (hn : 0 ≤ n ∧ n ≤ 400) {S : zS} (h : AlT S b n T t) {ord : Int} {p : Nat × Int} (hL : LK S ord p) (hk : 0 ≤ gI S 53 3 ∧ gI S 53 3 + T ≤ 436 + t) {dp : Int} (hdp : 0 ≤ dp ∧ dp ≤ 8) {M : Option Rdr} (hM : (dp = 8 ∧ M = none) ∨ (dp < 8 ∧ ∃ f, M = some f ∧ SmC X b n T (d - 1) (dp + 1) ord f)) : OutK b n T S t ord p (pPart (tc b n) (tv b n) ord M p t) (z_ev X d (z_entry 9 [.ref 52, .ref 37, .int (Int32.ofInt dp)] (mk S))) (fun _ => True) := by
  have hT4 := h.1.1.2.2.1
  have htT := h.1.2.2
  have hrt := h.1.1.rg htT
  have e0 : z_ev X d (z_entry 9 [.ref 52, .ref 37, .int (Int32.ofInt dp)] (mk S)) = z_ev X d (9, 0, [some (.ref 52), some (.ref 37), some (.int (Int32.ofInt dp)), none], [], mk S) := rfl
  have kn := fun {c : Int} (hc : r32 c) (hne : tc b n t ≠ c) {cm cp : Nat} {L : zL} {s : List Value} => a93b (X := X) (d := d) (by omega) h hc hne (cm := cm) (cp := cp) (L := L) (st := s)
  by_cases q : tc b n t = 91 ∧ dp < 8
  · obtain ⟨q1, q2⟩ := q
    rcases hM with ⟨w, -⟩ | ⟨-, f, rfl, hf⟩
    · omega
    · have ht := h.lt (by omega)
      have h1 := h.go (t' := t + 1) (by omega)
      have kc := fun {cm cp : Nat} {L : zL} {s : List Value} => a93c (X := X) (d := d) (by omega) h (c := 91) q1 (by omega) (cm := cm) (cp := cp) (L := L) (st := s)
      have hF1 : FrK S (sI S 37 4 (t + 1 : Nat)) := FrK.I (by omega)
      have e53 : gI (sI S 37 4 (t + 1 : Nat)) 53 3 = gI S 53 3 := by (repeat (first | rw [gI_sI, if_neg (by omega)] | rw [gI_sF, if_neg (by omega)] | rw [gI_sJ] | rw [gI_sG] | rw [gI_sQ]))
      have e54 : ∀ i, gI (sI S 37 4 (t + 1 : Nat)) 54 i = gI S 54 i := fun i => by (repeat (first | rw [gI_sI, if_neg (by omega)] | rw [gI_sF, if_neg (by omega)] | rw [gI_sJ] | rw [gI_sG] | rw [gI_sQ]))
      have hL1 : LK (sI S 37 4 (t + 1 : Nat)) ord p := hL.fr (by (repeat (first | rw [gI_sI, if_neg (by omega)] | rw [gI_sF, if_neg (by omega)] | rw [gI_sJ] | rw [gI_sG] | rw [gI_sQ]))) (by (repeat (first | rw [gI_sI, if_neg (by omega)] | rw [gI_sF, if_neg (by omega)] | rw [gI_sJ] | rw [gI_sG] | rw [gI_sQ]))) (by (repeat (first | rw [gI_sI, if_neg (by omega)] | rw [gI_sF, if_neg (by omega)] | rw [gI_sJ] | rw [gI_sG] | rw [gI_sQ])))
      have hf1 := hf (sI S 37 4 (t + 1 : Nat)) (t + 1) p h1 hL1 (by rw [e53]; omega)
      have eP : pPart (tc b n) (tv b n) ord (some f) p t = (match f p (t + 1) with | .inl e => .inl e | .inr (e, p1, t1) => if tc b n t1 = 93 then .inr (e, p1, t1 + 1) else .inl t1) := by
        show (if tc b n t = 91 then _ else _) = _
        rw [if_pos q1]
        cases f p (t + 1) with
        | inl e => rfl
        | inr x => rfl
      rw [eP, e0]
      cases hp : f p (t + 1) with
      | inl e =>
        rw [hp] at hf1
        obtain ⟨S1, t', a1, a2, a3, a4⟩ := hf1
        have k7 : ∀ {cm cp : Nat} {L : zL} {s : List Value}, z_evc X d 7 [.ref 52, .ref 37, .int (Int32.ofInt (dp + 1))] (cm, cp, L, s, mk (sI S 37 4 (t + 1 : Nat))) = z_ev X d (cm, cp, L, s, mk S1) := fun {cm cp L s} => z_evc_of (r := (none, mk S1)) (ck := (cm, cp, L, s, mk (sI S 37 4 (t + 1 : Nat)))) (show d - 1 < d by omega) a1
        have hf : gI S1 37 5 ≠ -1 := by rw [a2.2.1]; exact a2.2.2
        exact ⟨S1, t', by simp (disch := first | omega | assumption | exact b01_rng _ | exact st_5 | exact st_12 | exact st_19 | (simp only [isSt_sI, isSt_sJ, isSt_sF, isSt_sG, isSt_sA]; assumption)) only [↓B9_0, ↓B9_6, ↓B9_12, ↓B9_15, ↓B9_23, ↓B9_29, ↓B9_30, ↓B9_39, ↓B9_43, ↓B9_44, ↓B9_62, ↓B9_68, ↓B9_77, ↓B9_81, ↓B9_88, ↓B9_93, ↓B9_96, ↓B9_101, ↓o_37, ↓o_52, ↓o_53, ↓r_52_0, ↓r_52_1, ↓r_52_2, ↓w_52_2, kc, k7, c94a, i_lit, i_add, i_sub, i_mul, i_neg, i_lt, i_le, i_eq, i32_gI, i64_gJ, i32_id, i32_to, i64_to, sI_i32, sJ_i64, b01_t, b01_f, i32_b01, b01_0, ↓a_s0, ↓n_s0, ↓a_s1, ↓n_s1, Int.add_zero, t_lt, f_lt, t_le, f_le, t_eq, f_eq, true_and, and_true, false_and, and_false, and_self, ↓reduceIte, z_bool_of, or_true, true_or, or_false, false_or, Int.neg_neg, not_true_eq_false, not_false_eq_true, lg_lt, lg_le, lg_gt, lg_ge, lg_eq, j_lit, j_add, j_sub, j_mul, j_neg, j_eq, i64_id, ij, ji, z_rt, Nat.reduceEqDiff, Nat.reduceAdd, Int.reduceAdd, Int.reduceSub, Int.reduceMul, Int.reduceNeg, Int.reduceLT, Int.reduceLE, Int.reduceEq], a2, hF1.tr a3, a4⟩
      | inr x =>
        obtain ⟨e, p1, t1⟩ := x
        rw [hp] at hf1
        obtain ⟨S1, a1, a2, a3, a4, a5, a6, a7, a8, a9, a10, a11, a12, -⟩ := hf1
        rw [e53] at a5 a6 a7 a10
        have k7 : ∀ {cm cp : Nat} {L : zL} {s : List Value}, z_evc X d 7 [.ref 52, .ref 37, .int (Int32.ofInt (dp + 1))] (cm, cp, L, s, mk (sI S 37 4 (t + 1 : Nat))) = z_ev X d (cm, cp, L, s, mk S1) := fun {cm cp L s} => z_evc_of (r := (none, mk S1)) (ck := (cm, cp, L, s, mk (sI S 37 4 (t + 1 : Nat)))) (show d - 1 < d by omega) a1
        have hG : GoodK b n T S t ord p e p1 t1 S1 := ⟨a2, hF1.tr a3, a4, a5, by omega, fun i hi => by rw [a7 i hi, e54], a8, a9, a10, a11, a12⟩
        simp only []
        by_cases q4 : tc b n t1 = 93
        · rw [if_pos q4]
          have ht1 := a2.lt (by omega)
          have k94 := fun {cm cp : Nat} {L : zL} {s : List Value} => a94c (X := X) (d := d) (by omega) a2 (c := 93) q4 (by omega) (cm := cm) (cp := cp) (L := L) (st := s)
          rw [show z_ev X d (9, 0, [some (.ref 52), some (.ref 37), some (.int (Int32.ofInt dp)), none], [], mk S) = some (none, mk (sI S1 37 4 (t1 + 1 : Nat))) from by simp (disch := first | omega | assumption | exact b01_rng _ | exact st_5 | exact st_12 | exact st_19 | (simp only [isSt_sI, isSt_sJ, isSt_sF, isSt_sG, isSt_sA]; assumption)) only [↓B9_0, ↓B9_6, ↓B9_12, ↓B9_15, ↓B9_23, ↓B9_29, ↓B9_30, ↓B9_39, ↓B9_43, ↓B9_44, ↓B9_62, ↓B9_68, ↓B9_77, ↓B9_81, ↓B9_88, ↓B9_93, ↓B9_96, ↓B9_101, ↓o_37, ↓o_52, ↓o_53, ↓r_52_0, ↓r_52_1, ↓r_52_2, ↓w_52_2, kc, k7, k94, i_lit, i_add, i_sub, i_mul, i_neg, i_lt, i_le, i_eq, i32_gI, i64_gJ, i32_id, i32_to, i64_to, sI_i32, sJ_i64, b01_t, b01_f, i32_b01, b01_0, ↓a_s0, ↓n_s0, ↓a_s1, ↓n_s1, Int.add_zero, t_lt, f_lt, t_le, f_le, t_eq, f_eq, true_and, and_true, false_and, and_false, and_self, ↓reduceIte, z_bool_of, or_true, true_or, or_false, false_or, Int.neg_neg, not_true_eq_false, not_false_eq_true, lg_lt, lg_le, lg_gt, lg_ge, lg_eq, j_lit, j_add, j_sub, j_mul, j_neg, j_eq, i64_id, ij, ji, z_rt, Nat.reduceEqDiff, Nat.reduceAdd, Int.reduceAdd, Int.reduceSub, Int.reduceMul, Int.reduceNeg, Int.reduceLT, Int.reduceLE, Int.reduceEq]]
          exact (hG.go ht1).out trivial
        · rw [if_neg q4]
          have k94 := fun {cm cp : Nat} {L : zL} {s : List Value} => a94b (X := X) (d := d) (by omega) a2 hn (c := 93) (by omega) q4 (cm := cm) (cp := cp) (L := L) (st := s)
          have ht1 := a2.1.2.2
          refine ⟨sI S1 37 5 (tpos b n t1), t1, by simp (disch := first | omega | assumption | exact b01_rng _ | exact st_5 | exact st_12 | exact st_19 | (simp only [isSt_sI, isSt_sJ, isSt_sF, isSt_sG, isSt_sA]; assumption)) only [↓B9_0, ↓B9_6, ↓B9_12, ↓B9_15, ↓B9_23, ↓B9_29, ↓B9_30, ↓B9_39, ↓B9_43, ↓B9_44, ↓B9_62, ↓B9_68, ↓B9_77, ↓B9_81, ↓B9_88, ↓B9_93, ↓B9_96, ↓B9_101, ↓o_37, ↓o_52, ↓o_53, ↓r_52_0, ↓r_52_1, ↓r_52_2, ↓w_52_2, kc, k7, k94, i_lit, i_add, i_sub, i_mul, i_neg, i_lt, i_le, i_eq, i32_gI, i64_gJ, i32_id, i32_to, i64_to, sI_i32, sJ_i64, b01_t, b01_f, i32_b01, b01_0, ↓a_s0, ↓n_s0, ↓a_s1, ↓n_s1, Int.add_zero, t_lt, f_lt, t_le, f_le, t_eq, f_eq, true_and, and_true, false_and, and_false, and_self, ↓reduceIte, z_bool_of, or_true, true_or, or_false, false_or, Int.neg_neg, not_true_eq_false, not_false_eq_true, lg_lt, lg_le, lg_gt, lg_ge, lg_eq, j_lit, j_add, j_sub, j_mul, j_neg, j_eq, i64_id, ij, ji, z_rt, Nat.reduceEqDiff, Nat.reduceAdd, Int.reduceAdd, Int.reduceSub, Int.reduceMul, Int.reduceNeg, Int.reduceLT, Int.reduceLE, Int.reduceEq], a2.die hn, (hF1.tr a3).tr (FrK.I (by omega)), (a4.fr (by (repeat (first | rw [gI_sI, if_neg (by omega)] | rw [gI_sF, if_neg (by omega)] | rw [gI_sJ] | rw [gI_sG] | rw [gI_sQ]))) (by (repeat (first | rw [gI_sI, if_neg (by omega)] | rw [gI_sF, if_neg (by omega)] | rw [gI_sJ] | rw [gI_sG] | rw [gI_sQ]))) (by (repeat (first | rw [gI_sI, if_neg (by omega)] | rw [gI_sF, if_neg (by omega)] | rw [gI_sJ] | rw [gI_sG] | rw [gI_sQ])))).kb (by (repeat (first | rw [gI_sI, if_neg (by omega)] | rw [gI_sF, if_neg (by omega)] | rw [gI_sJ] | rw [gI_sG] | rw [gI_sQ])); omega)⟩
  · have eP : pPart (tc b n) (tv b n) ord M p t = pLeaf (tc b n) (tv b n) ord p t := by
      rcases hM with ⟨-, rfl⟩ | ⟨w, f, rfl, -⟩
      · rfl
      · show (if tc b n t = 91 then _ else _) = _; rw [if_neg (by omega)]
    rw [eP, e0, show z_ev X d (9, 0, [some (.ref 52), some (.ref 37), some (.int (Int32.ofInt dp)), none], [], mk S) = z_ev X d (9, 30, [some (.ref 52), some (.ref 37), some (.int (Int32.ofInt dp)), none], [], mk S) from by
      by_cases q1 : dp < 8
      · simp (disch := first | omega | assumption | exact b01_rng _ | exact st_5 | exact st_12 | exact st_19 | (simp only [isSt_sI, isSt_sJ, isSt_sF, isSt_sG, isSt_sA]; assumption)) only [↓B9_0, ↓B9_6, ↓B9_12, ↓o_37, ↓o_52, ↓o_53, ↓r_52_0, ↓r_52_1, ↓r_52_2, ↓w_52_2, kn, i_lit, i_add, i_sub, i_mul, i_neg, i_lt, i_le, i_eq, i32_gI, i64_gJ, i32_id, i32_to, i64_to, sI_i32, sJ_i64, b01_t, b01_f, i32_b01, b01_0, ↓a_s0, ↓n_s0, ↓a_s1, ↓n_s1, Int.add_zero, t_lt, f_lt, t_le, f_le, t_eq, f_eq, true_and, and_true, false_and, and_false, and_self, ↓reduceIte, z_bool_of, or_true, true_or, or_false, false_or, Int.neg_neg, not_true_eq_false, not_false_eq_true, lg_lt, lg_le, lg_gt, lg_ge, lg_eq, j_lit, j_add, j_sub, j_mul, j_neg, j_eq, i64_id, ij, ji, z_rt, Nat.reduceEqDiff, Nat.reduceAdd, Int.reduceAdd, Int.reduceSub, Int.reduceMul, Int.reduceNeg, Int.reduceLT, Int.reduceLE, Int.reduceEq]
      · simp (disch := first | omega | assumption | exact b01_rng _ | exact st_5 | exact st_12 | exact st_19 | (simp only [isSt_sI, isSt_sJ, isSt_sF, isSt_sG, isSt_sA]; assumption)) only [↓B9_0, ↓B9_6, ↓B9_12, ↓o_37, ↓o_52, ↓o_53, ↓r_52_0, ↓r_52_1, ↓r_52_2, ↓w_52_2, i_lit, i_add, i_sub, i_mul, i_neg, i_lt, i_le, i_eq, i32_gI, i64_gJ, i32_id, i32_to, i64_to, sI_i32, sJ_i64, b01_t, b01_f, i32_b01, b01_0, ↓a_s0, ↓n_s0, ↓a_s1, ↓n_s1, Int.add_zero, t_lt, f_lt, t_le, f_le, t_eq, f_eq, true_and, and_true, false_and, and_false, and_self, ↓reduceIte, z_bool_of, or_true, true_or, or_false, false_or, Int.neg_neg, not_true_eq_false, not_false_eq_true, lg_lt, lg_le, lg_gt, lg_ge, lg_eq, j_lit, j_add, j_sub, j_mul, j_neg, j_eq, i64_id, ij, ji, z_rt, Nat.reduceEqDiff, Nat.reduceAdd, Int.reduceAdd, Int.reduceSub, Int.reduceMul, Int.reduceNeg, Int.reduceLT, Int.reduceLE, Int.reduceEq]]
    exact leaf_al (by omega) hn h hL hk
/-! what waits -/
def wI (x : Wt) : Int := match x with | none => -1 | some (op, _) => op
def wC (x : Wt) : Int := match x with | none => 0 | some _ => 1
/-- a sign is 2 .. 6, what stands ahead asks for no scans if none was asked -/
def wOK (x : Wt) (z : Int) (lo hi : Int) : Prop := ∀ op l, x = some (op, l) → lo ≤ op ∧ op ≤ hi ∧ (z = 0 → NS l)
/-- the code of what waits, and of what stands behind it -/
def WA (I : Ins) (k0 k : Int) (n : Nat) (ad : Wt) (e : Ev) : Prop := match ad with
  | none => Seg I k0 k n e
  | some (_, l) => ∃ (m : Int) (n1 n2 : Nat), n = n1 + n2 ∧ Seg I k0 m n1 l ∧ Seg I m k n2 e
def WSg (I : Ins) (k0 k : Int) (n : Nat) (ad sc : Wt) : Prop := match sc with
  | some (_, l) => WA I k0 k n ad l
  | none => match ad with
    | none => k = k0 ∧ n = 0
    | some (_, l) => Seg I k0 k n l
theorem WA.cg {I I' : Ins} {k0 k : Int} {n : Nat} {ad : Wt} {e : Ev} (h : WA I k0 k n ad e) (hI : ∀ i, i < k → I' i = I i) : WA I' k0 k n ad e := by
  cases ad with
  | none => exact Seg.cg h (fun i _ q => hI i q)
  | some x =>
    obtain ⟨op, l⟩ := x
    obtain ⟨m, n1, n2, h1, h2, h3⟩ := h
    have := h3.1
    exact ⟨m, n1, n2, h1, h2.cg (fun i _ q => hI i (by omega)), h3.cg (fun i _ q => hI i q)⟩
/-- a part comes behind what waits -/
theorem WSg.part {I I' : Ins} {k0 k k' : Int} {n n' : Nat} {ad sc : Wt} {e : Ev} (h : WSg I k0 k n ad sc) (hI : ∀ i, i < k → I' i = I i) (he : Seg I' k k' n' e) : (sc = none → WA I' k0 k' (n + n') ad e) ∧ (∀ op l, sc = some (op, l) → 2 ≤ op ∧ op ≤ 9 → ∀ I2 : Ins, (∀ i, i < k' → I2 i = I' i) → ∀ x, I2 k' = (op, x) → WA I2 k0 (k' + 1) (n + n') ad (eB op l e)) := by
  refine ⟨fun hs => ?_, fun op l hs hop I2 h2 x hx => ?_⟩
  · subst hs
    cases ad with
    | none =>
      obtain ⟨w1, w2⟩ := h
      subst w1; subst w2
      rw [Nat.zero_add]; exact he
    | some y =>
      obtain ⟨op, l⟩ := y
      have h' : Seg I k0 k n l := h
      exact ⟨k, n, n', rfl, h'.cg (fun i _ q => hI i q), he⟩
  · subst hs
    have h' : WA I k0 k n ad l := h
    have hk := he.1
    cases ad with
    | none =>
      have h'' : Seg I k0 k n l := h'
      exact Seg.bin (h''.cg (fun i _ q => (h2 i (by omega)).trans (hI i q))) (he.cg (fun i _ q => h2 i q)) hop hx
    | some y =>
      obtain ⟨op1, l1⟩ := y
      obtain ⟨m, n1, n2, w1, w2, w3⟩ := h'
      have := w3.1
      refine ⟨m, n1, n2 + n', by omega, w2.cg (fun i _ q => (h2 i (by omega)).trans (hI i (by omega))), Seg.bin (w3.cg (fun i _ q => (h2 i (by omega)).trans (hI i q))) (he.cg (fun i _ q => h2 i q)) hop hx⟩
/-- a term comes behind what waits -/
theorem WA.term {I : Ins} {k0 k : Int} {n : Nat} {ad : Wt} {e : Ev} (h : WA I k0 k n ad e) : (ad = none → Seg I k0 k n e) ∧ (∀ op l, ad = some (op, l) → 2 ≤ op ∧ op ≤ 9 → ∀ I2 : Ins, (∀ i, i < k → I2 i = I i) → ∀ x, I2 k = (op, x) → Seg I2 k0 (k + 1) n (eB op l e)) := by
  refine ⟨fun hs => ?_, fun op l hs hop I2 h2 x hx => ?_⟩
  · subst hs; exact h
  · subst hs
    obtain ⟨m, n1, n2, w1, w2, w3⟩ := h
    have := w3.1
    rw [w1]
    exact Seg.bin (w2.cg (fun i _ q => h2 i (by omega))) (w3.cg (fun i _ q => h2 i q)) hop hx
