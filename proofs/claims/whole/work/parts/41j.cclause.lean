/-! a clause, alive -/
def OutC (b : Int → Int) (n : Int) (T : Nat) (S : zS) (t : Nat) (ord q : Int) (p : Nat × Int) (r : pC) (z : Option (Option Value × zM)) : Prop := match r with
  | .inl e => ∃ (S' : zS) (t' : Nat), z = some (none, mk S') ∧ Dead S' b n T t' (tpos b n e) ∧ FrL S S' ∧ KB S' ord
  | .inr (cl, p1, t1) => ∃ S' : zS, z = some (none, mk S') ∧ GdL b n T S t ord p q p1 t1 S' 3 ∧ t < t1 ∧ CCl (IC S') (gI S' 53 3) (gI S' 55) q cl ∧ ClOK cl p1.2
theorem GdL.go {b : Int → Int} {n : Int} {T : Nat} {S0 S : zS} {t0 t : Nat} {ord : Int} {p0 p : Nat × Int} {q stops : Int} (h : GdL b n T S0 t0 ord p0 q p t S stops) {t' : Nat} (ht : t ≤ t') (hT : t' ≤ T) : GdL b n T S0 t0 ord p0 q p t' (sI S 37 4 t') stops := by
  obtain ⟨a1, a2, a3, a4, a5, a6, a7, a8, a9, a10⟩ := h
  exact ⟨a1.go hT, a2.tr (FrL.I (by omega)), a3.fr (by (repeat (first | rw [gI_sI, if_neg (by omega)] | rw [gI_sF, if_neg (by omega)] | rw [gI_sJ] | rw [gI_sG] | rw [gI_sQ]))) (by (repeat (first | rw [gI_sI, if_neg (by omega)] | rw [gI_sF, if_neg (by omega)] | rw [gI_sJ] | rw [gI_sG] | rw [gI_sQ]))) (by (repeat (first | rw [gI_sI, if_neg (by omega)] | rw [gI_sF, if_neg (by omega)] | rw [gI_sJ] | rw [gI_sG] | rw [gI_sQ]))), by (repeat (first | rw [gI_sI, if_neg (by omega)] | rw [gI_sF, if_neg (by omega)] | rw [gI_sJ] | rw [gI_sG] | rw [gI_sQ])); exact a4, by (repeat (first | rw [gI_sI, if_neg (by omega)] | rw [gI_sF, if_neg (by omega)] | rw [gI_sJ] | rw [gI_sG] | rw [gI_sQ])); omega, fun i hi => by (repeat (first | rw [gI_sI, if_neg (by omega)] | rw [gI_sF, if_neg (by omega)] | rw [gI_sJ] | rw [gI_sG] | rw [gI_sQ])); exact a6 i hi, a7, a8, fun i hi => by (repeat (first | rw [gI_sI, if_neg (by omega)] | rw [gI_sF, if_neg (by omega)] | rw [gI_sJ] | rw [gI_sG] | rw [gI_sQ])); exact a9 i hi, by (repeat (first | rw [gI_sI, if_neg (by omega)] | rw [gI_sF, if_neg (by omega)] | rw [gI_sJ] | rw [gI_sG] | rw [gI_sQ])); exact a10⟩
theorem GdL.put {b : Int → Int} {n : Int} {T : Nat} {S0 S : zS} {t0 t : Nat} {ord : Int} {p0 p : Nat × Int} {q stops : Int} (h : GdL b n T S0 t0 ord p0 q p t S stops) {f x : Int} (hf : 0 ≤ f ∧ f < 5) : GdL b n T S0 t0 ord p0 q p t (sI S 55 (5 * q + f) x) stops := by
  obtain ⟨a1, a2, a3, a4, a5, a6, a7, a8, a9, a10⟩ := h
  exact ⟨a1.fr (fun a i w => by rw [gI_sI, if_neg (by omega)]), a2.tr (FrL.I (Or.inl rfl)), a3.fr (by (repeat (first | rw [gI_sI, if_neg (by omega)] | rw [gI_sF, if_neg (by omega)] | rw [gI_sJ] | rw [gI_sG] | rw [gI_sQ]))) (by (repeat (first | rw [gI_sI, if_neg (by omega)] | rw [gI_sF, if_neg (by omega)] | rw [gI_sJ] | rw [gI_sG] | rw [gI_sQ]))) (by (repeat (first | rw [gI_sI, if_neg (by omega)] | rw [gI_sF, if_neg (by omega)] | rw [gI_sJ] | rw [gI_sG] | rw [gI_sQ]))), by (repeat (first | rw [gI_sI, if_neg (by omega)] | rw [gI_sF, if_neg (by omega)] | rw [gI_sJ] | rw [gI_sG] | rw [gI_sQ])); exact a4, by (repeat (first | rw [gI_sI, if_neg (by omega)] | rw [gI_sF, if_neg (by omega)] | rw [gI_sJ] | rw [gI_sG] | rw [gI_sQ])); exact a5, fun i hi => by (repeat (first | rw [gI_sI, if_neg (by omega)] | rw [gI_sF, if_neg (by omega)] | rw [gI_sJ] | rw [gI_sG] | rw [gI_sQ])); exact a6 i hi, a7, a8, fun i hi => by (repeat (first | rw [gI_sI, if_neg (by omega)] | rw [gI_sF, if_neg (by omega)] | rw [gI_sJ] | rw [gI_sG] | rw [gI_sQ])); exact a9 i hi, by (repeat (first | rw [gI_sI, if_neg (by omega)] | rw [gI_sF, if_neg (by omega)] | rw [gI_sJ] | rw [gI_sG] | rw [gI_sQ])); exact a10⟩
theorem GdL.more {b : Int → Int} {n : Int} {T : Nat} {S0 S : zS} {t0 t : Nat} {ord : Int} {p0 p : Nat × Int} {q s s' : Int} (h : GdL b n T S0 t0 ord p0 q p t S s) (hs : s ≤ s') : GdL b n T S0 t0 ord p0 q p t S s' := by
  obtain ⟨a1, a2, a3, a4, a5, a6, a7, a8, a9, a10⟩ := h
  exact ⟨a1, a2, a3, a4, by omega, a6, a7, a8, a9, a10⟩
/-- a sum of a clause: from pc on, behind which a stop is written -/
theorem c_sum {X : zX} {d : Nat} (hd : 30 ≤ d) {b : Int → Int} {n : Int} {T : Nat} (hn : 0 ≤ n ∧ n ≤ 400) {S0 S : zS} {t0 t : Nat} {ord q fl stops : Int} {p0 p : Nat × Int} (hq : 0 ≤ q ∧ q < 12) (hf : 0 ≤ fl ∧ fl < 5) (hk0 : 0 ≤ gI S0 53 3 ∧ gI S0 53 3 + T + 3 ≤ 436 + t0) (hs : stops ≤ 2) (h : GdL b n T S0 t0 ord p0 q p t S stops) : match pSum (tc b n) (tv b n) ord 8 p t with
  | .inl e => ∃ (S2 : zS) (t' : Nat), (∀ {cm cp : Nat} {L : zL} {s : List Value}, z_evc X d 7 [.ref 52, .ref 37, .int (Int32.ofInt 0)] (cm, cp, L, s, mk (sI S 55 (5 * q + fl) (gI S 53 3))) = z_ev X d (cm, cp, L, s, mk S2)) ∧ Dead S2 b n T t' (tpos b n e) ∧ FrL S0 S2 ∧ KB S2 ord
  | .inr (e, p1, t1) => ∃ S2 : zS, (∀ {cm cp : Nat} {L : zL} {s : List Value}, z_evc X d 7 [.ref 52, .ref 37, .int (Int32.ofInt 0)] (cm, cp, L, s, mk (sI S 55 (5 * q + fl) (gI S 53 3))) = z_ev X d (cm, cp, L, s, mk S2)) ∧ GoodK b n T (sI S 55 (5 * q + fl) (gI S 53 3)) t ord p e p1 t1 S2 ∧ (0 ≤ gI S2 53 3 ∧ gI S2 53 3 < 436) ∧ t < t1 := by
  obtain ⟨a1, a2, a3, a4, a5, a6, a7, a8, a9, a10⟩ := id h
  have ht := a1.1.2.2
  have hp := h.put (f := fl) (x := gI S 53 3) hf
  have e53 : gI (sI S 55 (5 * q + fl) (gI S 53 3)) 53 3 = gI S 53 3 := by (repeat (first | rw [gI_sI, if_neg (by omega)] | rw [gI_sF, if_neg (by omega)] | rw [gI_sJ] | rw [gI_sG] | rw [gI_sQ]))
  have hs1 := sum_all (X := X) (b := b) (T := T) (ord := ord) hn 8 (d - 1) (by omega) (by omega) (sI S 55 (5 * q + fl) (gI S 53 3)) t p hp.1 hp.2.2.1 (by rw [e53]; omega)
  rw [show (8 : Int) - ((8 : Nat) : Int) = 0 from rfl] at hs1
  cases hr : pSum (tc b n) (tv b n) ord 8 p t with
  | inl e =>
    rw [hr] at hs1
    obtain ⟨S2, t', b1, b2, b3, b4⟩ := hs1
    exact ⟨S2, t', fun {cm cp L s} => z_evc_of (r := (none, mk S2)) (ck := (cm, cp, L, s, mk (sI S 55 (5 * q + fl) (gI S 53 3)))) (show d - 1 < d by omega) b1, b2, hp.2.1.tr b3.l, b4⟩
  | inr x =>
    obtain ⟨e, p1, t1⟩ := x
    rw [hr] at hs1
    obtain ⟨S2, b1, b2, b3, b4, b5, b6, b7, b8, b9, b10, b11, b12, -⟩ := hs1
    have ht1 := b2.1.2.2
    have hbb := b5
    have hb6 := b6
    rw [e53] at hbb hb6
    exact ⟨S2, fun {cm cp L s} => z_evc_of (r := (none, mk S2)) (ck := (cm, cp, L, s, mk (sI S 55 (5 * q + fl) (gI S 53 3)))) (show d - 1 < d by omega) b1, ⟨b2, b3, b4, b5, b6, b7, b8, b9, b10, b11, b12⟩, by omega, by omega⟩
theorem c_test {X : zX} {d : Nat} (hd : 30 ≤ d) {b : Int → Int} {n : Int} {T : Nat} (hn : 0 ≤ n ∧ n ≤ 400) {S0 S : zS} {t0 t : Nat} {ord q fl stops : Int} {p0 p : Nat × Int} (hq : 0 ≤ q ∧ q < 12) (hf : 0 ≤ fl ∧ fl < 5) (hk0 : 0 ≤ gI S0 53 3 ∧ gI S0 53 3 + T + 3 ≤ 436 + t0) (hs : stops ≤ 2) (h : GdL b n T S0 t0 ord p0 q p t S stops) : match pTest (tc b n) (tv b n) ord 8 p t with
  | .inl e => ∃ (S2 : zS) (t' : Nat), (∀ {cm cp : Nat} {L : zL} {s : List Value}, z_evc X d 4 [.ref 52, .ref 37, .int (Int32.ofInt 0)] (cm, cp, L, s, mk (sI S 55 (5 * q + fl) (gI S 53 3))) = z_ev X d (cm, cp, L, s, mk S2)) ∧ Dead S2 b n T t' (tpos b n e) ∧ FrL S0 S2 ∧ KB S2 ord
  | .inr (e, p1, t1) => ∃ S2 : zS, (∀ {cm cp : Nat} {L : zL} {s : List Value}, z_evc X d 4 [.ref 52, .ref 37, .int (Int32.ofInt 0)] (cm, cp, L, s, mk (sI S 55 (5 * q + fl) (gI S 53 3))) = z_ev X d (cm, cp, L, s, mk S2)) ∧ GoodK b n T (sI S 55 (5 * q + fl) (gI S 53 3)) t ord p e p1 t1 S2 ∧ (0 ≤ gI S2 53 3 ∧ gI S2 53 3 < 436) ∧ t < t1 ∧ E01 e := by
  obtain ⟨a1, a2, a3, a4, a5, a6, a7, a8, a9, a10⟩ := id h
  have ht := a1.1.2.2
  have hp := h.put (f := fl) (x := gI S 53 3) hf
  have e53 : gI (sI S 55 (5 * q + fl) (gI S 53 3)) 53 3 = gI S 53 3 := by (repeat (first | rw [gI_sI, if_neg (by omega)] | rw [gI_sF, if_neg (by omega)] | rw [gI_sJ] | rw [gI_sG] | rw [gI_sQ]))
  have hs1 := test_all (X := X) (b := b) (T := T) (ord := ord) hn 8 (d - 1) (by omega) (by omega) (sI S 55 (5 * q + fl) (gI S 53 3)) t p hp.1 hp.2.2.1 (by rw [e53]; omega)
  rw [show (8 : Int) - ((8 : Nat) : Int) = 0 from rfl] at hs1
  cases hr : pTest (tc b n) (tv b n) ord 8 p t with
  | inl e =>
    rw [hr] at hs1
    obtain ⟨S2, t', b1, b2, b3, b4⟩ := hs1
    exact ⟨S2, t', fun {cm cp L s} => z_evc_of (r := (none, mk S2)) (ck := (cm, cp, L, s, mk (sI S 55 (5 * q + fl) (gI S 53 3)))) (show d - 1 < d by omega) b1, b2, hp.2.1.tr b3.l, b4⟩
  | inr x =>
    obtain ⟨e, p1, t1⟩ := x
    rw [hr] at hs1
    obtain ⟨S2, b1, b2, b3, b4, b5, b6, b7, b8, b9, b10, b11, b12, b13⟩ := hs1
    have ht1 := b2.1.2.2
    have hbb := b5
    have hb6 := b6
    rw [e53] at hbb hb6
    exact ⟨S2, fun {cm cp L s} => z_evc_of (r := (none, mk S2)) (ck := (cm, cp, L, s, mk (sI S 55 (5 * q + fl) (gI S 53 3)))) (show d - 1 < d by omega) b1, ⟨b2, b3, b4, b5, b6, b7, b8, b9, b10, b11, b12⟩, by omega, by omega, b13⟩
/-- the clause's first sum: from 132 to 186 -/
theorem c_st1 {X : zX} {d : Nat} (hd : 30 ≤ d) {b : Int → Int} {n : Int} {T : Nat} (hn : 0 ≤ n ∧ n ≤ 400) {S0 S : zS} {t0 t : Nat} {ord q k x4 : Int} {p0 p : Nat × Int} (hq : 0 ≤ q ∧ q < 12) (hkr : r32 k) (hk0 : 0 ≤ gI S0 53 3 ∧ gI S0 53 3 + T + 3 ≤ 436 + t0) (h : GdL b n T S0 t0 ord p0 q p t S 0) (h2 : gI S 55 (5 * q + 2) = -1) : match pSt1 (pSum (tc b n) (tv b n) ord 8) k p t with
  | .inl e => ∃ (S' : zS) (t' : Nat), z_ev X d (2, 132, L2 q k x4, [], mk S) = some (none, mk S') ∧ Dead S' b n T t' (tpos b n e) ∧ FrL S0 S' ∧ KB S' ord
  | .inr (s, p1, t1) => ∃ S' : zS, z_ev X d (2, 132, L2 q k x4, [], mk S) = z_ev X d (2, 186, L2 q k x4, [], mk S') ∧ GdL b n T S0 t0 ord p0 q p1 t1 S' 1 ∧ t ≤ t1 ∧ CSeg (IC S') (gI S' 53 3) s (gI S' 55 (5 * q + 2)) ∧ (∀ i, i ≠ 5 * q + 2 → gI S' 55 i = gI S 55 i) ∧ xOK s p1.2 ∧ p.2 ≤ p1.2 := by
  have hg5 := h.2.2.2.2.1
  have hg4 := h.2.2.2.1
  have hT := h.1.1.2.2
  have hT4 := h.1.1.1.2.2.1
  unfold pSt1
  by_cases w : hasS k = true
  · rw [if_pos w]
    have w' : k ≠ 263 ∧ k ≠ 264 ∧ k ≠ 280 := of_decide_eq_true w
    have hc := c_sum (X := X) (d := d) hd hn (fl := 2) hq (by omega) hk0 (by omega) h
    cases hr : pSum (tc b n) (tv b n) ord 8 p t with
    | inl e =>
      rw [hr] at hc
      obtain ⟨S2, t', k7, c2, c3, c4⟩ := hc
      obtain ⟨S3, e3, g3⟩ := dead_c175 (X := X) (d := d) (by omega) (q := q) (k := k) (x4 := x4) hq hkr c2 c4
      refine ⟨S3, t', ?_, g3.1, c3.tr g3.2.1, g3.2.2⟩
      rw [← e3]
      simp (disch := first | omega | assumption | exact b01_rng _ | exact st_5 | exact st_12 | exact st_19 | (simp only [isSt_sI, isSt_sJ, isSt_sF, isSt_sG, isSt_sA]; assumption)) only [↓B2_132, ↓B2_139, ↓B2_146, ↓B2_153, ↓B2_169, ↓o_37, ↓o_52, ↓o_53, ↓r_37_4, ↓r_52_0, ↓r_52_1, ↓r_53_3, c15, k7, i_lit, i_add, i_sub, i_mul, i_neg, i_lt, i_le, i_eq, i32_gI, i64_gJ, i32_id, i32_to, i64_to, sI_i32, sJ_i64, b01_t, b01_f, i32_b01, b01_0, ↓a_s0, ↓n_s0, ↓a_s1, ↓n_s1, Int.add_zero, t_lt, f_lt, t_le, f_le, t_eq, f_eq, true_and, and_true, false_and, and_false, and_self, ↓reduceIte, z_bool_of, or_true, true_or, or_false, false_or, Int.neg_neg, not_true_eq_false, not_false_eq_true, lg_lt, lg_le, lg_gt, lg_ge, lg_eq, j_lit, j_add, j_sub, j_mul, j_neg, j_eq, i64_id, ij, ji, z_rt, Nat.reduceEqDiff, Nat.reduceAdd, Int.reduceAdd, Int.reduceSub, Int.reduceMul, Int.reduceNeg, Int.reduceLT, Int.reduceLE, Int.reduceEq, w'.1, w'.2.1, w'.2.2]
    | inr x =>
      obtain ⟨e, p1, t1⟩ := x
      rw [hr] at hc
      obtain ⟨S2, k7, c2, c3, c4⟩ := hc
      obtain ⟨s1, s2, s3, s4, s5, s6⟩ := seg_step hq (show 0 ≤ (2 : Int) ∧ (2 : Int) < 5 by omega) h (by omega) c2 c3.2
      have k16 := fun {cm cp : Nat} {L : zL} {s : List Value} => c16a (X := X) (d := d) (S := S2) (by omega) 13 0 c3 (by omega) (by omega) (cm := cm) (cp := cp) (L := L) (st := s)
      refine ⟨wrS S2 13 0, ?_, s1, by omega, by rw [s2]; exact s4, s3, fun e' he => by cases he; exact ⟨c2.2.2.2.2.2.2.2.2.2.1, c2.2.2.2.2.2.2.2.2.2.2⟩, c2.2.2.2.2.2.2.2.1⟩
      simp (disch := first | omega | assumption | exact b01_rng _ | exact st_5 | exact st_12 | exact st_19 | (simp only [isSt_sI, isSt_sJ, isSt_sF, isSt_sG, isSt_sA]; assumption)) only [↓B2_132, ↓B2_139, ↓B2_146, ↓B2_153, ↓B2_169, ↓B2_175, ↓B2_185, ↓o_37, ↓o_52, ↓o_53, ↓r_37_4, ↓r_52_0, ↓r_52_1, ↓r_53_3, c15, k7, k16, i_lit, i_add, i_sub, i_mul, i_neg, i_lt, i_le, i_eq, i32_gI, i64_gJ, i32_id, i32_to, i64_to, sI_i32, sJ_i64, b01_t, b01_f, i32_b01, b01_0, ↓a_s0, ↓n_s0, ↓a_s1, ↓n_s1, Int.add_zero, t_lt, f_lt, t_le, f_le, t_eq, f_eq, true_and, and_true, false_and, and_false, and_self, ↓reduceIte, z_bool_of, or_true, true_or, or_false, false_or, Int.neg_neg, not_true_eq_false, not_false_eq_true, lg_lt, lg_le, lg_gt, lg_ge, lg_eq, j_lit, j_add, j_sub, j_mul, j_neg, j_eq, i64_id, ij, ji, z_rt, Nat.reduceEqDiff, Nat.reduceAdd, Int.reduceAdd, Int.reduceSub, Int.reduceMul, Int.reduceNeg, Int.reduceLT, Int.reduceLE, Int.reduceEq, w'.1, w'.2.1, w'.2.2]
  · rw [if_neg w]
    have w' : ¬ (k ≠ 263 ∧ k ≠ 264 ∧ k ≠ 280) := of_decide_eq_false (by cases hh : hasS k with | false => exact hh | true => exact absurd hh w)
    refine ⟨S, ?_, h.more (by omega), Nat.le_refl _, h2, fun _ _ => rfl, (fun _ w => by cases w), Int.le_refl _⟩
    by_cases w1 : k = 263
    · simp (disch := first | omega | assumption | exact b01_rng _ | exact st_5 | exact st_12 | exact st_19 | (simp only [isSt_sI, isSt_sJ, isSt_sF, isSt_sG, isSt_sA]; assumption)) only [↓B2_132, i_lit, i_add, i_sub, i_mul, i_neg, i_lt, i_le, i_eq, i32_gI, i64_gJ, i32_id, i32_to, i64_to, sI_i32, sJ_i64, b01_t, b01_f, i32_b01, b01_0, ↓a_s0, ↓n_s0, ↓a_s1, ↓n_s1, Int.add_zero, t_lt, f_lt, t_le, f_le, t_eq, f_eq, true_and, and_true, false_and, and_false, and_self, ↓reduceIte, z_bool_of, or_true, true_or, or_false, false_or, Int.neg_neg, not_true_eq_false, not_false_eq_true, lg_lt, lg_le, lg_gt, lg_ge, lg_eq, j_lit, j_add, j_sub, j_mul, j_neg, j_eq, i64_id, ij, ji, z_rt, Nat.reduceEqDiff, Nat.reduceAdd, Int.reduceAdd, Int.reduceSub, Int.reduceMul, Int.reduceNeg, Int.reduceLT, Int.reduceLE, Int.reduceEq]
    · by_cases w2 : k = 264
      · simp (disch := first | omega | assumption | exact b01_rng _ | exact st_5 | exact st_12 | exact st_19 | (simp only [isSt_sI, isSt_sJ, isSt_sF, isSt_sG, isSt_sA]; assumption)) only [↓B2_132, ↓B2_139, i_lit, i_add, i_sub, i_mul, i_neg, i_lt, i_le, i_eq, i32_gI, i64_gJ, i32_id, i32_to, i64_to, sI_i32, sJ_i64, b01_t, b01_f, i32_b01, b01_0, ↓a_s0, ↓n_s0, ↓a_s1, ↓n_s1, Int.add_zero, t_lt, f_lt, t_le, f_le, t_eq, f_eq, true_and, and_true, false_and, and_false, and_self, ↓reduceIte, z_bool_of, or_true, true_or, or_false, false_or, Int.neg_neg, not_true_eq_false, not_false_eq_true, lg_lt, lg_le, lg_gt, lg_ge, lg_eq, j_lit, j_add, j_sub, j_mul, j_neg, j_eq, i64_id, ij, ji, z_rt, Nat.reduceEqDiff, Nat.reduceAdd, Int.reduceAdd, Int.reduceSub, Int.reduceMul, Int.reduceNeg, Int.reduceLT, Int.reduceLE, Int.reduceEq, w1]
      · simp (disch := first | omega | assumption | exact b01_rng _ | exact st_5 | exact st_12 | exact st_19 | (simp only [isSt_sI, isSt_sJ, isSt_sF, isSt_sG, isSt_sA]; assumption)) only [↓B2_132, ↓B2_139, ↓B2_146, i_lit, i_add, i_sub, i_mul, i_neg, i_lt, i_le, i_eq, i32_gI, i64_gJ, i32_id, i32_to, i64_to, sI_i32, sJ_i64, b01_t, b01_f, i32_b01, b01_0, ↓a_s0, ↓n_s0, ↓a_s1, ↓n_s1, Int.add_zero, t_lt, f_lt, t_le, f_le, t_eq, f_eq, true_and, and_true, false_and, and_false, and_self, ↓reduceIte, z_bool_of, or_true, true_or, or_false, false_or, Int.neg_neg, not_true_eq_false, not_false_eq_true, lg_lt, lg_le, lg_gt, lg_ge, lg_eq, j_lit, j_add, j_sub, j_mul, j_neg, j_eq, i64_id, ij, ji, z_rt, Nat.reduceEqDiff, Nat.reduceAdd, Int.reduceAdd, Int.reduceSub, Int.reduceMul, Int.reduceNeg, Int.reduceLT, Int.reduceLE, Int.reduceEq, w1, w2]
/-- .. the second one: to 233 -/
theorem c_st2 {X : zX} {d : Nat} (hd : 30 ≤ d) {b : Int → Int} {n : Int} {T : Nat} (hn : 0 ≤ n ∧ n ≤ 400) {S0 S : zS} {t0 t : Nat} {ord q k x4 : Int} {p0 p : Nat × Int} (hq : 0 ≤ q ∧ q < 12) (hkr : r32 k) (hk0 : 0 ≤ gI S0 53 3 ∧ gI S0 53 3 + T + 3 ≤ 436 + t0) (h : GdL b n T S0 t0 ord p0 q p t S 1) (h3 : gI S 55 (5 * q + 3) = -1) : match pSt2 (tc b n) (pSum (tc b n) (tv b n) ord 8) k p t with
  | .inl e => ∃ (S' : zS) (t' : Nat), z_ev X d (2, 186, L2 q k x4, [], mk S) = some (none, mk S') ∧ Dead S' b n T t' (tpos b n e) ∧ FrL S0 S' ∧ KB S' ord
  | .inr (s, p1, t1) => ∃ S' : zS, z_ev X d (2, 186, L2 q k x4, [], mk S) = z_ev X d (2, 233, L2 q k x4, [], mk S') ∧ GdL b n T S0 t0 ord p0 q p1 t1 S' 2 ∧ t ≤ t1 ∧ CSeg (IC S') (gI S' 53 3) s (gI S' 55 (5 * q + 3)) ∧ (∀ i, i ≠ 5 * q + 3 → gI S' 55 i = gI S 55 i) ∧ xOK s p1.2 ∧ p.2 ≤ p1.2 ∧ (∀ i, i < gI S 53 3 → IC S' i = IC S i) ∧ gI S 53 3 ≤ gI S' 53 3 := by
  have hg5 := h.2.2.2.2.1
  have hg4 := h.2.2.2.1
  have hT := h.1.1.2.2
  have hT4 := h.1.1.1.2.2.1
  have hrt := h.1.1.1.rg h.1.1.2.2
  unfold pSt2
  by_cases w : k = 276
  · rw [if_pos w]
    by_cases w2 : tc b n t = 277
    · rw [if_pos w2]
      have ht := h.1.lt (by omega)
      have h1 := h.go (t' := t + 1) (by omega) (by omega)
      have k94 := fun {cm cp : Nat} {L : zL} {s : List Value} => a94c (X := X) (d := d) (by omega) h.1 (c := 277) w2 (by omega) (cm := cm) (cp := cp) (L := L) (st := s)
      have hc := c_sum (X := X) (d := d) hd hn (fl := 3) hq (by omega) hk0 (by omega) h1
      have e53 : gI (sI S 37 4 (t + 1 : Nat)) 53 3 = gI S 53 3 := by (repeat (first | rw [gI_sI, if_neg (by omega)] | rw [gI_sF, if_neg (by omega)] | rw [gI_sJ] | rw [gI_sG] | rw [gI_sQ]))
      have e55 : ∀ i, gI (sI S 37 4 (t + 1 : Nat)) 55 i = gI S 55 i := fun i => by (repeat (first | rw [gI_sI, if_neg (by omega)] | rw [gI_sF, if_neg (by omega)] | rw [gI_sJ] | rw [gI_sG] | rw [gI_sQ]))
      have eI : IC (sI S 37 4 (t + 1 : Nat)) = IC S := IC_fr (fun k => by (repeat (first | rw [gI_sI, if_neg (by omega)] | rw [gI_sF, if_neg (by omega)] | rw [gI_sJ] | rw [gI_sG] | rw [gI_sQ]))) (by (repeat (first | rw [gI_sI, if_neg (by omega)] | rw [gI_sF, if_neg (by omega)] | rw [gI_sJ] | rw [gI_sG] | rw [gI_sQ])))
      cases hr : pSum (tc b n) (tv b n) ord 8 p (t + 1) with
      | inl e =>
        rw [hr] at hc
        obtain ⟨S2, t', k7, c2, c3, c4⟩ := hc
        obtain ⟨S3, e3, g3⟩ := dead_c222 (X := X) (d := d) (by omega) (q := q) (k := k) (x4 := x4) c2 c4
        refine ⟨S3, t', ?_, g3.1, c3.tr g3.2.1, g3.2.2⟩
        rw [← e3]
        simp (disch := first | omega | assumption | exact b01_rng _ | exact st_5 | exact st_12 | exact st_19 | (simp only [isSt_sI, isSt_sJ, isSt_sF, isSt_sG, isSt_sA]; assumption)) only [↓B2_186, ↓B2_193, ↓B2_200, ↓B2_216, ↓o_37, ↓o_52, ↓o_53, ↓r_37_4, ↓r_52_0, ↓r_52_1, ↓r_53_3, k94, c15, k7, i_lit, i_add, i_sub, i_mul, i_neg, i_lt, i_le, i_eq, i32_gI, i64_gJ, i32_id, i32_to, i64_to, sI_i32, sJ_i64, b01_t, b01_f, i32_b01, b01_0, ↓a_s0, ↓n_s0, ↓a_s1, ↓n_s1, Int.add_zero, t_lt, f_lt, t_le, f_le, t_eq, f_eq, true_and, and_true, false_and, and_false, and_self, ↓reduceIte, z_bool_of, or_true, true_or, or_false, false_or, Int.neg_neg, not_true_eq_false, not_false_eq_true, lg_lt, lg_le, lg_gt, lg_ge, lg_eq, j_lit, j_add, j_sub, j_mul, j_neg, j_eq, i64_id, ij, ji, z_rt, Nat.reduceEqDiff, Nat.reduceAdd, Int.reduceAdd, Int.reduceSub, Int.reduceMul, Int.reduceNeg, Int.reduceLT, Int.reduceLE, Int.reduceEq]
      | inr x =>
        obtain ⟨e, p1, t1⟩ := x
        rw [hr] at hc
        obtain ⟨S2, k7, c2, c3, c4⟩ := hc
        obtain ⟨s1, s2, s3, s4, s5, s6⟩ := seg_step hq (show 0 ≤ (3 : Int) ∧ (3 : Int) < 5 by omega) h1 (by rw [e53]; omega) c2 c3.2
        have k16 := fun {cm cp : Nat} {L : zL} {s : List Value} => c16a (X := X) (d := d) (S := S2) (by omega) 13 0 c3 (by omega) (by omega) (cm := cm) (cp := cp) (L := L) (st := s)
        rw [eI, e53] at s5
        rw [e53] at s6
        refine ⟨wrS S2 13 0, ?_, s1, by omega, by rw [s2]; exact s4, fun i hi => by rw [s3 i hi, e55], fun e' he => by cases he; exact ⟨c2.2.2.2.2.2.2.2.2.2.1, c2.2.2.2.2.2.2.2.2.2.2⟩, c2.2.2.2.2.2.2.2.1, s5, s6⟩
        simp (disch := first | omega | assumption | exact b01_rng _ | exact st_5 | exact st_12 | exact st_19 | (simp only [isSt_sI, isSt_sJ, isSt_sF, isSt_sG, isSt_sA]; assumption)) only [↓B2_186, ↓B2_193, ↓B2_200, ↓B2_216, ↓B2_222, ↓B2_232, ↓o_37, ↓o_52, ↓o_53, ↓r_37_4, ↓r_52_0, ↓r_52_1, ↓r_53_3, k94, c15, k7, k16, i_lit, i_add, i_sub, i_mul, i_neg, i_lt, i_le, i_eq, i32_gI, i64_gJ, i32_id, i32_to, i64_to, sI_i32, sJ_i64, b01_t, b01_f, i32_b01, b01_0, ↓a_s0, ↓n_s0, ↓a_s1, ↓n_s1, Int.add_zero, t_lt, f_lt, t_le, f_le, t_eq, f_eq, true_and, and_true, false_and, and_false, and_self, ↓reduceIte, z_bool_of, or_true, true_or, or_false, false_or, Int.neg_neg, not_true_eq_false, not_false_eq_true, lg_lt, lg_le, lg_gt, lg_ge, lg_eq, j_lit, j_add, j_sub, j_mul, j_neg, j_eq, i64_id, ij, ji, z_rt, Nat.reduceEqDiff, Nat.reduceAdd, Int.reduceAdd, Int.reduceSub, Int.reduceMul, Int.reduceNeg, Int.reduceLT, Int.reduceLE, Int.reduceEq]
    · rw [if_neg w2]
      have k94 := fun {cm cp : Nat} {L : zL} {s : List Value} => a94b (X := X) (d := d) (by omega) h.1 hn (c := 277) (by omega) w2 (cm := cm) (cp := cp) (L := L) (st := s)
      have hKB : KB (sI S 37 5 (tpos b n t)) ord := (h.2.2.1.fr (by (repeat (first | rw [gI_sI, if_neg (by omega)] | rw [gI_sF, if_neg (by omega)] | rw [gI_sJ] | rw [gI_sG] | rw [gI_sQ]))) (by (repeat (first | rw [gI_sI, if_neg (by omega)] | rw [gI_sF, if_neg (by omega)] | rw [gI_sJ] | rw [gI_sG] | rw [gI_sQ]))) (by (repeat (first | rw [gI_sI, if_neg (by omega)] | rw [gI_sF, if_neg (by omega)] | rw [gI_sJ] | rw [gI_sG] | rw [gI_sQ])))).kb (by (repeat (first | rw [gI_sI, if_neg (by omega)] | rw [gI_sF, if_neg (by omega)] | rw [gI_sJ] | rw [gI_sG] | rw [gI_sQ])); omega)
      obtain ⟨S3, e3, g3⟩ := dead_c200 (X := X) (d := d) (by omega) (q := q) (k := k) (x4 := x4) hq (h.1.die hn) hKB
      refine ⟨S3, t, ?_, g3.1, (h.2.1.tr (FrL.I (by omega))).tr g3.2.1, g3.2.2⟩
      rw [← e3]
      simp (disch := first | omega | assumption | exact b01_rng _ | exact st_5 | exact st_12 | exact st_19 | (simp only [isSt_sI, isSt_sJ, isSt_sF, isSt_sG, isSt_sA]; assumption)) only [↓B2_186, ↓B2_193, ↓o_37, ↓o_52, ↓o_53, ↓r_37_4, ↓r_52_0, ↓r_52_1, ↓r_53_3, k94, i_lit, i_add, i_sub, i_mul, i_neg, i_lt, i_le, i_eq, i32_gI, i64_gJ, i32_id, i32_to, i64_to, sI_i32, sJ_i64, b01_t, b01_f, i32_b01, b01_0, ↓a_s0, ↓n_s0, ↓a_s1, ↓n_s1, Int.add_zero, t_lt, f_lt, t_le, f_le, t_eq, f_eq, true_and, and_true, false_and, and_false, and_self, ↓reduceIte, z_bool_of, or_true, true_or, or_false, false_or, Int.neg_neg, not_true_eq_false, not_false_eq_true, lg_lt, lg_le, lg_gt, lg_ge, lg_eq, j_lit, j_add, j_sub, j_mul, j_neg, j_eq, i64_id, ij, ji, z_rt, Nat.reduceEqDiff, Nat.reduceAdd, Int.reduceAdd, Int.reduceSub, Int.reduceMul, Int.reduceNeg, Int.reduceLT, Int.reduceLE, Int.reduceEq]
  · rw [if_neg w]
    refine ⟨S, ?_, h.more (by omega), Nat.le_refl _, h3, fun _ _ => rfl, (fun _ w => by cases w), Int.le_refl _, fun _ _ => rfl, Int.le_refl _⟩
    simp (disch := first | omega | assumption | exact b01_rng _ | exact st_5 | exact st_12 | exact st_19 | (simp only [isSt_sI, isSt_sJ, isSt_sF, isSt_sG, isSt_sA]; assumption)) only [↓B2_186, i_lit, i_add, i_sub, i_mul, i_neg, i_lt, i_le, i_eq, i32_gI, i64_gJ, i32_id, i32_to, i64_to, sI_i32, sJ_i64, b01_t, b01_f, i32_b01, b01_0, ↓a_s0, ↓n_s0, ↓a_s1, ↓n_s1, Int.add_zero, t_lt, f_lt, t_le, f_le, t_eq, f_eq, true_and, and_true, false_and, and_false, and_self, ↓reduceIte, z_bool_of, or_true, true_or, or_false, false_or, Int.neg_neg, not_true_eq_false, not_false_eq_true, lg_lt, lg_le, lg_gt, lg_ge, lg_eq, j_lit, j_add, j_sub, j_mul, j_neg, j_eq, i64_id, ij, ji, z_rt, Nat.reduceEqDiff, Nat.reduceAdd, Int.reduceAdd, Int.reduceSub, Int.reduceMul, Int.reduceNeg, Int.reduceLT, Int.reduceLE, Int.reduceEq, w]
/-- .. times: to 256 -/
theorem c_st3 {X : zX} {d : Nat} (hd : 30 ≤ d) {b : Int → Int} {n : Int} {T : Nat} (hn : 0 ≤ n ∧ n ≤ 400) {S0 S : zS} {t0 t : Nat} {ord q k x4 : Int} {p0 p : Nat × Int} (hq : 0 ≤ q ∧ q < 12) (hk0 : 0 ≤ gI S0 53 3 ∧ gI S0 53 3 + T + 3 ≤ 436 + t0) (h : GdL b n T S0 t0 ord p0 q p t S 2) (h1 : gI S 55 (5 * q + 1) = 1) : match pSt3 (tc b n) (tv b n) ord t with
  | .inl e => ∃ (S' : zS) (t' : Nat), z_ev X d (2, 233, L2 q k x4, [], mk S) = some (none, mk S') ∧ Dead S' b n T t' (tpos b n e) ∧ FrL S0 S' ∧ KB S' ord
  | .inr (m, t1) => ∃ S' : zS, z_ev X d (2, 233, L2 q k x4, [], mk S) = z_ev X d (2, 256, L2 q k x4, [], mk S') ∧ GdL b n T S0 t0 ord p0 q p t1 S' 2 ∧ t ≤ t1 ∧ gI S' 55 (5 * q + 1) = m ∧ (1 ≤ m ∧ m ≤ 20) ∧ (∀ i, i ≠ 5 * q + 1 → gI S' 55 i = gI S 55 i) ∧ IC S' = IC S ∧ gI S' 53 3 = gI S 53 3 := by
  obtain ⟨l1, l2, -⟩ := id h.2.2.1
  have hT := h.1.1.2.2
  have hT4 := h.1.1.1.2.2.1
  have hrt := h.1.1.1.rg h.1.1.2.2
  have kn := fun {c : Int} (hc : r32 c) (hne : tc b n t ≠ c) {cm cp : Nat} {L : zL} {s : List Value} => a93b (X := X) (d := d) (by omega) h.1 hc hne (cm := cm) (cp := cp) (L := L) (st := s)
  unfold pSt3
  by_cases w : ord = 1 ∧ tc b n t = 261
  · rw [if_pos w]
    have ht := h.1.lt (by omega)
    have g1 := h.go (t' := t + 1) (by omega) (by omega)
    have kc := fun {cm cp : Nat} {L : zL} {s : List Value} => a93c (X := X) (d := d) (by omega) h.1 (c := 261) w.2 (by omega) (cm := cm) (cp := cp) (L := L) (st := s)
    by_cases w2 : tc b n (t + 1) = 300 ∧ 1 ≤ tv b n (t + 1) ∧ tv b n (t + 1) ≤ 20
    · rw [if_pos w2]
      have ht2 := g1.1.lt (by omega)
      have k95 := fun {cm cp : Nat} {L : zL} {s : List Value} => a95c (X := X) (d := d - 1) (S := sI S 37 4 (t + 1 : Nat)) (by omega) b n T (t + 1) 1 20 g1.1.1 g1.1.2 (by omega) (by omega) w2.1 w2.2 (cm := cm) (cp := cp) (L := L) (st := s)
      rw [show (((t + 1 : Nat) : Int) + 1) = ((t + 2 : Nat) : Int) by omega] at k95
      have g2 := g1.go (t' := t + 2) (by omega) (by omega)
      have g3 := g2.put (f := 1) (x := tv b n (t + 1)) (by omega)
      have k3 : ∀ {cm cp : Nat} {L : zL} {s : List Value}, z_evc X d 3 [.ref 52, .ref 37, .int (Int32.ofInt q)] (cm, cp, L, s, mk (sI S 37 4 (t + 1 : Nat))) = z_ev X d (cm, cp, L, s, mk (sI (sI (sI S 37 4 (t + 1 : Nat)) 37 4 (t + 2 : Nat)) 55 (5 * q + 1) (tv b n (t + 1)))) := fun {cm cp L s} => z_evc_of (r := (none, mk (sI (sI (sI S 37 4 (t + 1 : Nat)) 37 4 (t + 2 : Nat)) 55 (5 * q + 1) (tv b n (t + 1))))) (ck := (cm, cp, L, s, mk (sI S 37 4 (t + 1 : Nat)))) (show d - 1 < d by omega) (by
        show z_ev X (d - 1) (3, 0, [some (.ref 52), some (.ref 37), some (.int (Int32.ofInt q)), none], [], mk (sI S 37 4 (t + 1 : Nat))) = _
        simp (disch := first | omega | assumption | exact b01_rng _ | exact st_5 | exact st_12 | exact st_19 | (simp only [isSt_sI, isSt_sJ, isSt_sF, isSt_sG, isSt_sA]; assumption)) only [↓B3_0, ↓B3_7, ↓B3_13, ↓B3_17, ↓B3_27, ↓o_37, ↓o_53, ↓r_52_0, k95, c15, i_lit, i_add, i_sub, i_mul, i_neg, i_lt, i_le, i_eq, i32_gI, i64_gJ, i32_id, i32_to, i64_to, sI_i32, sJ_i64, b01_t, b01_f, i32_b01, b01_0, ↓a_s0, ↓n_s0, ↓a_s1, ↓n_s1, Int.add_zero, t_lt, f_lt, t_le, f_le, t_eq, f_eq, true_and, and_true, false_and, and_false, and_self, ↓reduceIte, z_bool_of, or_true, true_or, or_false, false_or, Int.neg_neg, not_true_eq_false, not_false_eq_true, lg_lt, lg_le, lg_gt, lg_ge, lg_eq, j_lit, j_add, j_sub, j_mul, j_neg, j_eq, i64_id, ij, ji, z_rt, Nat.reduceEqDiff, Nat.reduceAdd, Int.reduceAdd, Int.reduceSub, Int.reduceMul, Int.reduceNeg, Int.reduceLT, Int.reduceLE, Int.reduceEq])
      refine ⟨_, ?_, g3, by omega, by rw [gI_sI, if_pos ⟨rfl, rfl⟩, i32_id (by omega) (by omega)], w2.2, fun i hi => by (repeat (first | rw [gI_sI, if_neg (by omega)] | rw [gI_sF, if_neg (by omega)] | rw [gI_sJ] | rw [gI_sG] | rw [gI_sQ])), ?_, by (repeat (first | rw [gI_sI, if_neg (by omega)] | rw [gI_sF, if_neg (by omega)] | rw [gI_sJ] | rw [gI_sG] | rw [gI_sQ]))⟩
      · simp (disch := first | omega | assumption | exact b01_rng _ | exact st_5 | exact st_12 | exact st_19 | (simp only [isSt_sI, isSt_sJ, isSt_sF, isSt_sG, isSt_sA]; assumption)) only [↓B2_233, ↓B2_240, ↓B2_247, ↓B2_250, ↓o_37, ↓o_52, ↓o_53, ↓r_37_4, ↓r_52_0, ↓r_52_1, ↓r_53_3, kc, k3, i_lit, i_add, i_sub, i_mul, i_neg, i_lt, i_le, i_eq, i32_gI, i64_gJ, i32_id, i32_to, i64_to, sI_i32, sJ_i64, b01_t, b01_f, i32_b01, b01_0, ↓a_s0, ↓n_s0, ↓a_s1, ↓n_s1, Int.add_zero, t_lt, f_lt, t_le, f_le, t_eq, f_eq, true_and, and_true, false_and, and_false, and_self, ↓reduceIte, z_bool_of, or_true, true_or, or_false, false_or, Int.neg_neg, not_true_eq_false, not_false_eq_true, lg_lt, lg_le, lg_gt, lg_ge, lg_eq, j_lit, j_add, j_sub, j_mul, j_neg, j_eq, i64_id, ij, ji, z_rt, Nat.reduceEqDiff, Nat.reduceAdd, Int.reduceAdd, Int.reduceSub, Int.reduceMul, Int.reduceNeg, Int.reduceLT, Int.reduceLE, Int.reduceEq, l1, w.1]
      · exact IC_fr (fun k => by (repeat (first | rw [gI_sI, if_neg (by omega)] | rw [gI_sF, if_neg (by omega)] | rw [gI_sJ] | rw [gI_sG] | rw [gI_sQ]))) (by (repeat (first | rw [gI_sI, if_neg (by omega)] | rw [gI_sF, if_neg (by omega)] | rw [gI_sJ] | rw [gI_sG] | rw [gI_sQ])))
    · rw [if_neg w2]
      have hr2 := tpos_rng (b := b) hn.1 (t + 1)
      have k95 := fun {cm cp : Nat} {L : zL} {s : List Value} => a95b (X := X) (d := d - 1) (S := sI S 37 4 (t + 1 : Nat)) (by omega) b n T (t + 1) 1 20 g1.1.1 g1.1.2 (by omega) (by omega) w2 (cm := cm) (cp := cp) (L := L) (st := s)
      have k92 := fun {cm cp : Nat} {L : zL} {s : List Value} => a92b (X := X) (d := d - 1) (by omega) g1.1 hn (cm := cm) (cp := cp) (L := L) (st := s)
      have hg5 := h.2.2.2.2.1
      have hg4 := h.2.2.2.1
      have hKB : KB (sI (sI S 37 4 (t + 1 : Nat)) 37 5 (tpos b n (t + 1))) ord := (h.2.2.1.fr (by (repeat (first | rw [gI_sI, if_neg (by omega)] | rw [gI_sF, if_neg (by omega)] | rw [gI_sJ] | rw [gI_sG] | rw [gI_sQ]))) (by (repeat (first | rw [gI_sI, if_neg (by omega)] | rw [gI_sF, if_neg (by omega)] | rw [gI_sJ] | rw [gI_sG] | rw [gI_sQ]))) (by (repeat (first | rw [gI_sI, if_neg (by omega)] | rw [gI_sF, if_neg (by omega)] | rw [gI_sJ] | rw [gI_sG] | rw [gI_sQ])))).kb (by (repeat (first | rw [gI_sI, if_neg (by omega)] | rw [gI_sF, if_neg (by omega)] | rw [gI_sJ] | rw [gI_sG] | rw [gI_sQ])); omega)
      have hD := g1.1.die hn
      have hDL := DL.put (i := 5 * q + 1) (x := -1) hD hKB
      have k3 : ∀ {cm cp : Nat} {L : zL} {s : List Value}, z_evc X d 3 [.ref 52, .ref 37, .int (Int32.ofInt q)] (cm, cp, L, s, mk (sI S 37 4 (t + 1 : Nat))) = z_ev X d (cm, cp, L, s, mk (sI (sI (sI S 37 4 (t + 1 : Nat)) 37 5 (tpos b n (t + 1))) 55 (5 * q + 1) (-1))) := fun {cm cp L s} => z_evc_of (r := (none, mk (sI (sI (sI S 37 4 (t + 1 : Nat)) 37 5 (tpos b n (t + 1))) 55 (5 * q + 1) (-1)))) (ck := (cm, cp, L, s, mk (sI S 37 4 (t + 1 : Nat)))) (show d - 1 < d by omega) (by
        show z_ev X (d - 1) (3, 0, [some (.ref 52), some (.ref 37), some (.int (Int32.ofInt q)), none], [], mk (sI S 37 4 (t + 1 : Nat))) = _
        simp (disch := first | omega | assumption | exact b01_rng _ | exact st_5 | exact st_12 | exact st_19 | (simp only [isSt_sI, isSt_sJ, isSt_sF, isSt_sG, isSt_sA]; assumption)) only [↓B3_0, ↓B3_7, ↓B3_13, ↓B3_17, ↓B3_27, ↓o_37, ↓o_53, ↓r_52_0, k95, k92, c15, i_lit, i_add, i_sub, i_mul, i_neg, i_lt, i_le, i_eq, i32_gI, i64_gJ, i32_id, i32_to, i64_to, sI_i32, sJ_i64, b01_t, b01_f, i32_b01, b01_0, ↓a_s0, ↓n_s0, ↓a_s1, ↓n_s1, Int.add_zero, t_lt, f_lt, t_le, f_le, t_eq, f_eq, true_and, and_true, false_and, and_false, and_self, ↓reduceIte, z_bool_of, or_true, true_or, or_false, false_or, Int.neg_neg, not_true_eq_false, not_false_eq_true, lg_lt, lg_le, lg_gt, lg_ge, lg_eq, j_lit, j_add, j_sub, j_mul, j_neg, j_eq, i64_id, ij, ji, z_rt, Nat.reduceEqDiff, Nat.reduceAdd, Int.reduceAdd, Int.reduceSub, Int.reduceMul, Int.reduceNeg, Int.reduceLT, Int.reduceLE, Int.reduceEq])
      have hf : gI (sI (sI (sI S 37 4 (t + 1 : Nat)) 37 5 (tpos b n (t + 1))) 55 (5 * q + 1) (-1)) 37 5 ≠ -1 := by rw [hDL.1.2.1]; exact hDL.1.2.2
      refine ⟨_, t + 1, ?_, hDL.1, (g1.2.1.tr (FrL.I (by omega))).tr hDL.2.1, hDL.2.2⟩
      simp (disch := first | omega | assumption | exact b01_rng _ | exact st_5 | exact st_12 | exact st_19 | (simp only [isSt_sI, isSt_sJ, isSt_sF, isSt_sG, isSt_sA]; assumption)) only [↓B2_233, ↓B2_240, ↓B2_247, ↓B2_250, ↓B2_256, ↓B2_263, ↓B2_299, ↓o_37, ↓o_52, ↓o_53, ↓r_37_4, ↓r_52_0, ↓r_52_1, ↓r_53_3, kc, k3, c93a, i_lit, i_add, i_sub, i_mul, i_neg, i_lt, i_le, i_eq, i32_gI, i64_gJ, i32_id, i32_to, i64_to, sI_i32, sJ_i64, b01_t, b01_f, i32_b01, b01_0, ↓a_s0, ↓n_s0, ↓a_s1, ↓n_s1, Int.add_zero, t_lt, f_lt, t_le, f_le, t_eq, f_eq, true_and, and_true, false_and, and_false, and_self, ↓reduceIte, z_bool_of, or_true, true_or, or_false, false_or, Int.neg_neg, not_true_eq_false, not_false_eq_true, lg_lt, lg_le, lg_gt, lg_ge, lg_eq, j_lit, j_add, j_sub, j_mul, j_neg, j_eq, i64_id, ij, ji, z_rt, Nat.reduceEqDiff, Nat.reduceAdd, Int.reduceAdd, Int.reduceSub, Int.reduceMul, Int.reduceNeg, Int.reduceLT, Int.reduceLE, Int.reduceEq, l1, w.1]
  · rw [if_neg w]
    refine ⟨S, ?_, h, Nat.le_refl _, h1, by omega, fun _ _ => rfl, rfl, rfl⟩
    rcases l2 with w1 | w1
    · simp (disch := first | omega | assumption | exact b01_rng _ | exact st_5 | exact st_12 | exact st_19 | (simp only [isSt_sI, isSt_sJ, isSt_sF, isSt_sG, isSt_sA]; assumption)) only [↓B2_233, ↓o_37, ↓o_52, ↓o_53, ↓r_37_4, ↓r_52_0, ↓r_52_1, ↓r_53_3, i_lit, i_add, i_sub, i_mul, i_neg, i_lt, i_le, i_eq, i32_gI, i64_gJ, i32_id, i32_to, i64_to, sI_i32, sJ_i64, b01_t, b01_f, i32_b01, b01_0, ↓a_s0, ↓n_s0, ↓a_s1, ↓n_s1, Int.add_zero, t_lt, f_lt, t_le, f_le, t_eq, f_eq, true_and, and_true, false_and, and_false, and_self, ↓reduceIte, z_bool_of, or_true, true_or, or_false, false_or, Int.neg_neg, not_true_eq_false, not_false_eq_true, lg_lt, lg_le, lg_gt, lg_ge, lg_eq, j_lit, j_add, j_sub, j_mul, j_neg, j_eq, i64_id, ij, ji, z_rt, Nat.reduceEqDiff, Nat.reduceAdd, Int.reduceAdd, Int.reduceSub, Int.reduceMul, Int.reduceNeg, Int.reduceLT, Int.reduceLE, Int.reduceEq, l1]
    · simp (disch := first | omega | assumption | exact b01_rng _ | exact st_5 | exact st_12 | exact st_19 | (simp only [isSt_sI, isSt_sJ, isSt_sF, isSt_sG, isSt_sA]; assumption)) only [↓B2_233, ↓B2_240, ↓B2_247, ↓o_37, ↓o_52, ↓o_53, ↓r_37_4, ↓r_52_0, ↓r_52_1, ↓r_53_3, kn, i_lit, i_add, i_sub, i_mul, i_neg, i_lt, i_le, i_eq, i32_gI, i64_gJ, i32_id, i32_to, i64_to, sI_i32, sJ_i64, b01_t, b01_f, i32_b01, b01_0, ↓a_s0, ↓n_s0, ↓a_s1, ↓n_s1, Int.add_zero, t_lt, f_lt, t_le, f_le, t_eq, f_eq, true_and, and_true, false_and, and_false, and_self, ↓reduceIte, z_bool_of, or_true, true_or, or_false, false_or, Int.neg_neg, not_true_eq_false, not_false_eq_true, lg_lt, lg_le, lg_gt, lg_ge, lg_eq, j_lit, j_add, j_sub, j_mul, j_neg, j_eq, i64_id, ij, ji, z_rt, Nat.reduceEqDiff, Nat.reduceAdd, Int.reduceAdd, Int.reduceSub, Int.reduceMul, Int.reduceNeg, Int.reduceLT, Int.reduceLE, Int.reduceEq, l1]
/-- .. and the test: to its end -/
theorem c_st4 {X : zX} {d : Nat} (hd : 30 ≤ d) {b : Int → Int} {n : Int} {T : Nat} (hn : 0 ≤ n ∧ n ≤ 400) {S0 S : zS} {t0 t : Nat} {ord q k x4 : Int} {p0 p : Nat × Int} (hq : 0 ≤ q ∧ q < 12) (hk0 : 0 ≤ gI S0 53 3 ∧ gI S0 53 3 + T + 3 ≤ 436 + t0) (h : GdL b n T S0 t0 ord p0 q p t S 2) (h4 : gI S 55 (5 * q + 4) = -1) : match pSt4 (tc b n) (pTest (tc b n) (tv b n) ord 8) p t with
  | .inl e => ∃ (S' : zS) (t' : Nat), z_ev X d (2, 256, L2 q k x4, [], mk S) = some (none, mk S') ∧ Dead S' b n T t' (tpos b n e) ∧ FrL S0 S' ∧ KB S' ord
  | .inr (s, p1, t1) => ∃ S' : zS, z_ev X d (2, 256, L2 q k x4, [], mk S) = some (none, mk S') ∧ GdL b n T S0 t0 ord p0 q p1 t1 S' 3 ∧ t ≤ t1 ∧ CSeg (IC S') (gI S' 53 3) s (gI S' 55 (5 * q + 4)) ∧ (∀ i, i ≠ 5 * q + 4 → gI S' 55 i = gI S 55 i) ∧ xOK s p1.2 ∧ p.2 ≤ p1.2 ∧ (∀ e, s = some e → E01 e) ∧ (∀ i, i < gI S 53 3 → IC S' i = IC S i) ∧ gI S 53 3 ≤ gI S' 53 3 := by
  have hg5 := h.2.2.2.2.1
  have hg4 := h.2.2.2.1
  have hT := h.1.1.2.2
  have hT4 := h.1.1.1.2.2.1
  have hrt := h.1.1.1.rg h.1.1.2.2
  unfold pSt4
  by_cases w : tc b n t = 265
  · rw [if_pos w]
    have ht := h.1.lt (by omega)
    have h1 := h.go (t' := t + 1) (by omega) (by omega)
    have kc := fun {cm cp : Nat} {L : zL} {s : List Value} => a93c (X := X) (d := d) (by omega) h.1 (c := 265) w (by omega) (cm := cm) (cp := cp) (L := L) (st := s)
    have hc := c_test (X := X) (d := d) hd hn (fl := 4) hq (by omega) hk0 (by omega) h1
    have e53 : gI (sI S 37 4 (t + 1 : Nat)) 53 3 = gI S 53 3 := by (repeat (first | rw [gI_sI, if_neg (by omega)] | rw [gI_sF, if_neg (by omega)] | rw [gI_sJ] | rw [gI_sG] | rw [gI_sQ]))
    have e55 : ∀ i, gI (sI S 37 4 (t + 1 : Nat)) 55 i = gI S 55 i := fun i => by (repeat (first | rw [gI_sI, if_neg (by omega)] | rw [gI_sF, if_neg (by omega)] | rw [gI_sJ] | rw [gI_sG] | rw [gI_sQ]))
    have eI : IC (sI S 37 4 (t + 1 : Nat)) = IC S := IC_fr (fun k => by (repeat (first | rw [gI_sI, if_neg (by omega)] | rw [gI_sF, if_neg (by omega)] | rw [gI_sJ] | rw [gI_sG] | rw [gI_sQ]))) (by (repeat (first | rw [gI_sI, if_neg (by omega)] | rw [gI_sF, if_neg (by omega)] | rw [gI_sJ] | rw [gI_sG] | rw [gI_sQ])))
    cases hr : pTest (tc b n) (tv b n) ord 8 p (t + 1) with
    | inl e =>
      rw [hr] at hc
      obtain ⟨S2, t', k7, c2, c3, c4⟩ := hc
      obtain ⟨S3, r3, w3, g3, -⟩ := dead_wr (X := X) (d := d) (by omega) c2 c4 (op := 13) (ar := 0) (by omega) (by omega)
      refine ⟨S3, t', ?_, g3.1, c3.tr g3.2.1.l, g3.2.2⟩
      simp (disch := first | omega | assumption | exact b01_rng _ | exact st_5 | exact st_12 | exact st_19 | (simp only [isSt_sI, isSt_sJ, isSt_sF, isSt_sG, isSt_sA]; assumption)) only [↓B2_256, ↓B2_263, ↓B2_266, ↓B2_282, ↓B2_288, ↓B2_298, ↓B2_299, ↓o_37, ↓o_52, ↓o_53, ↓r_37_4, ↓r_52_0, ↓r_52_1, ↓r_53_3, kc, c15, k7, w3, i_lit, i_add, i_sub, i_mul, i_neg, i_lt, i_le, i_eq, i32_gI, i64_gJ, i32_id, i32_to, i64_to, sI_i32, sJ_i64, b01_t, b01_f, i32_b01, b01_0, ↓a_s0, ↓n_s0, ↓a_s1, ↓n_s1, Int.add_zero, t_lt, f_lt, t_le, f_le, t_eq, f_eq, true_and, and_true, false_and, and_false, and_self, ↓reduceIte, z_bool_of, or_true, true_or, or_false, false_or, Int.neg_neg, not_true_eq_false, not_false_eq_true, lg_lt, lg_le, lg_gt, lg_ge, lg_eq, j_lit, j_add, j_sub, j_mul, j_neg, j_eq, i64_id, ij, ji, z_rt, Nat.reduceEqDiff, Nat.reduceAdd, Int.reduceAdd, Int.reduceSub, Int.reduceMul, Int.reduceNeg, Int.reduceLT, Int.reduceLE, Int.reduceEq]
    | inr x =>
      obtain ⟨e, p1, t1⟩ := x
      rw [hr] at hc
      obtain ⟨S2, k7, c2, c3, c4, c5⟩ := hc
      obtain ⟨s1, s2, s3, s4, s5, s6⟩ := seg_step hq (show 0 ≤ (4 : Int) ∧ (4 : Int) < 5 by omega) h1 (by rw [e53]; omega) c2 c3.2
      have k16 := fun {cm cp : Nat} {L : zL} {s : List Value} => c16a (X := X) (d := d) (S := S2) (by omega) 13 0 c3 (by omega) (by omega) (cm := cm) (cp := cp) (L := L) (st := s)
      rw [eI, e53] at s5
      rw [e53] at s6
      refine ⟨wrS S2 13 0, ?_, s1, by omega, by rw [s2]; exact s4, fun i hi => by rw [s3 i hi, e55], fun e' he => by cases he; exact ⟨c2.2.2.2.2.2.2.2.2.2.1, c2.2.2.2.2.2.2.2.2.2.2⟩, c2.2.2.2.2.2.2.2.1, fun e' he => by cases he; exact c5, s5, s6⟩
      simp (disch := first | omega | assumption | exact b01_rng _ | exact st_5 | exact st_12 | exact st_19 | (simp only [isSt_sI, isSt_sJ, isSt_sF, isSt_sG, isSt_sA]; assumption)) only [↓B2_256, ↓B2_263, ↓B2_266, ↓B2_282, ↓B2_288, ↓B2_298, ↓B2_299, ↓o_37, ↓o_52, ↓o_53, ↓r_37_4, ↓r_52_0, ↓r_52_1, ↓r_53_3, kc, c15, k7, k16, i_lit, i_add, i_sub, i_mul, i_neg, i_lt, i_le, i_eq, i32_gI, i64_gJ, i32_id, i32_to, i64_to, sI_i32, sJ_i64, b01_t, b01_f, i32_b01, b01_0, ↓a_s0, ↓n_s0, ↓a_s1, ↓n_s1, Int.add_zero, t_lt, f_lt, t_le, f_le, t_eq, f_eq, true_and, and_true, false_and, and_false, and_self, ↓reduceIte, z_bool_of, or_true, true_or, or_false, false_or, Int.neg_neg, not_true_eq_false, not_false_eq_true, lg_lt, lg_le, lg_gt, lg_ge, lg_eq, j_lit, j_add, j_sub, j_mul, j_neg, j_eq, i64_id, ij, ji, z_rt, Nat.reduceEqDiff, Nat.reduceAdd, Int.reduceAdd, Int.reduceSub, Int.reduceMul, Int.reduceNeg, Int.reduceLT, Int.reduceLE, Int.reduceEq]
  · rw [if_neg w]
    have kn := fun {c : Int} (hc : r32 c) (hne : tc b n t ≠ c) {cm cp : Nat} {L : zL} {s : List Value} => a93b (X := X) (d := d) (by omega) h.1 hc hne (cm := cm) (cp := cp) (L := L) (st := s)
    refine ⟨S, ?_, h.more (by omega), Nat.le_refl _, h4, fun _ _ => rfl, (fun _ w => by cases w), Int.le_refl _, (fun _ w => by cases w), fun _ _ => rfl, Int.le_refl _⟩
    simp (disch := first | omega | assumption | exact b01_rng _ | exact st_5 | exact st_12 | exact st_19 | (simp only [isSt_sI, isSt_sJ, isSt_sF, isSt_sG, isSt_sA]; assumption)) only [↓B2_256, ↓B2_263, ↓B2_299, ↓o_37, ↓o_52, ↓o_53, ↓r_37_4, ↓r_52_0, ↓r_52_1, ↓r_53_3, kn, i_lit, i_add, i_sub, i_mul, i_neg, i_lt, i_le, i_eq, i32_gI, i64_gJ, i32_id, i32_to, i64_to, sI_i32, sJ_i64, b01_t, b01_f, i32_b01, b01_0, ↓a_s0, ↓n_s0, ↓a_s1, ↓n_s1, Int.add_zero, t_lt, f_lt, t_le, f_le, t_eq, f_eq, true_and, and_true, false_and, and_false, and_self, ↓reduceIte, z_bool_of, or_true, true_or, or_false, false_or, Int.neg_neg, not_true_eq_false, not_false_eq_true, lg_lt, lg_le, lg_gt, lg_ge, lg_eq, j_lit, j_add, j_sub, j_mul, j_neg, j_eq, i64_id, ij, ji, z_rt, Nat.reduceEqDiff, Nat.reduceAdd, Int.reduceAdd, Int.reduceSub, Int.reduceMul, Int.reduceNeg, Int.reduceLT, Int.reduceLE, Int.reduceEq]
/-- readClause -/
theorem clause_al {X : zX} {d : Nat} (hd : 30 ≤ d) {b : Int → Int} {n : Int} {T : Nat} (hn : 0 ≤ n ∧ n ≤ 400) {S : zS} {t : Nat} {ord q : Int} {p : Nat × Int} (hq : 0 ≤ q ∧ q < 12) (hk0 : 0 ≤ gI S 53 3 ∧ gI S 53 3 + T + 3 ≤ 436 + t) (h : AlT S b n T t) (hL : LK S ord p) : OutC b n T S t ord q p (pClause (tc b n) (tv b n) ord (pSum (tc b n) (tv b n) ord 8) (pTest (tc b n) (tv b n) ord 8) p t) (z_ev X d (z_entry 2 [.ref 52, .ref 37, .int (Int32.ofInt q)] (mk S))) := by
  have hT4 := h.1.1.2.2.1
  have htT := h.1.2.2
  have hrt := h.1.1.rg htT
  obtain ⟨l1, l2, -⟩ := id hL
  have h4 := h.1.2.1
  have e0 : z_ev X d (z_entry 2 [.ref 52, .ref 37, .int (Int32.ofInt q)] (mk S)) = z_ev X d (2, 0, [some (.ref 52), some (.ref 37), some (.int (Int32.ofInt q)), none, none], [], mk S) := rfl
  have k91 := fun {cm cp : Nat} {L : zL} {s : List Value} => a91 (X := X) (d := d) (S := S) (by omega) b n T t h.1.1 h.1.2.2 (cm := cm) (cp := cp) (L := L) (st := s)
  have e1 : z_ev X d (2, 0, [some (.ref 52), some (.ref 37), some (.int (Int32.ofInt q)), none, none], [], mk S) = z_ev X d (2, 64, [some (.ref 52), some (.ref 37), some (.int (Int32.ofInt q)), some (.int (Int32.ofInt (tc b n t))), none], [.int (Int32.ofInt (bI (knw ord (tc b n t))))], mk S) := by
    rcases l2 with w | w
    · by_cases w1 : 262 ≤ tc b n t ∧ tc b n t ≤ 264
      · have ek : knw ord (tc b n t) = true := by unfold knw; rw [if_pos w]; exact decide_eq_true w1
        simp (disch := first | omega | assumption | exact b01_rng _ | exact st_5 | exact st_12 | exact st_19 | (simp only [isSt_sI, isSt_sJ, isSt_sF, isSt_sG, isSt_sA]; assumption)) only [↓B2_0, ↓B2_8, ↓B2_45, ↓B2_52, ↓B2_59, ↓o_37, ↓o_52, ↓o_53, ↓r_37_4, ↓r_52_0, ↓r_52_1, ↓r_53_3, k91, i_lit, i_add, i_sub, i_mul, i_neg, i_lt, i_le, i_eq, i32_gI, i64_gJ, i32_id, i32_to, i64_to, sI_i32, sJ_i64, b01_t, b01_f, i32_b01, b01_0, ↓a_s0, ↓n_s0, ↓a_s1, ↓n_s1, Int.add_zero, t_lt, f_lt, t_le, f_le, t_eq, f_eq, true_and, and_true, false_and, and_false, and_self, ↓reduceIte, z_bool_of, or_true, true_or, or_false, false_or, Int.neg_neg, not_true_eq_false, not_false_eq_true, lg_lt, lg_le, lg_gt, lg_ge, lg_eq, j_lit, j_add, j_sub, j_mul, j_neg, j_eq, i64_id, ij, ji, z_rt, Nat.reduceEqDiff, Nat.reduceAdd, Int.reduceAdd, Int.reduceSub, Int.reduceMul, Int.reduceNeg, Int.reduceLT, Int.reduceLE, Int.reduceEq, h4, l1, ek, bI_t]
      · have ek : knw ord (tc b n t) = false := by unfold knw; rw [if_pos w]; exact decide_eq_false w1
        by_cases w2 : tc b n t < 262
        · simp (disch := first | omega | assumption | exact b01_rng _ | exact st_5 | exact st_12 | exact st_19 | (simp only [isSt_sI, isSt_sJ, isSt_sF, isSt_sG, isSt_sA]; assumption)) only [↓B2_0, ↓B2_8, ↓B2_45, ↓B2_52, ↓B2_63, ↓o_37, ↓o_52, ↓o_53, ↓r_37_4, ↓r_52_0, ↓r_52_1, ↓r_53_3, k91, i_lit, i_add, i_sub, i_mul, i_neg, i_lt, i_le, i_eq, i32_gI, i64_gJ, i32_id, i32_to, i64_to, sI_i32, sJ_i64, b01_t, b01_f, i32_b01, b01_0, ↓a_s0, ↓n_s0, ↓a_s1, ↓n_s1, Int.add_zero, t_lt, f_lt, t_le, f_le, t_eq, f_eq, true_and, and_true, false_and, and_false, and_self, ↓reduceIte, z_bool_of, or_true, true_or, or_false, false_or, Int.neg_neg, not_true_eq_false, not_false_eq_true, lg_lt, lg_le, lg_gt, lg_ge, lg_eq, j_lit, j_add, j_sub, j_mul, j_neg, j_eq, i64_id, ij, ji, z_rt, Nat.reduceEqDiff, Nat.reduceAdd, Int.reduceAdd, Int.reduceSub, Int.reduceMul, Int.reduceNeg, Int.reduceLT, Int.reduceLE, Int.reduceEq, h4, l1, ek, bI_f]
        · simp (disch := first | omega | assumption | exact b01_rng _ | exact st_5 | exact st_12 | exact st_19 | (simp only [isSt_sI, isSt_sJ, isSt_sF, isSt_sG, isSt_sA]; assumption)) only [↓B2_0, ↓B2_8, ↓B2_45, ↓B2_52, ↓B2_63, ↓o_37, ↓o_52, ↓o_53, ↓r_37_4, ↓r_52_0, ↓r_52_1, ↓r_53_3, k91, i_lit, i_add, i_sub, i_mul, i_neg, i_lt, i_le, i_eq, i32_gI, i64_gJ, i32_id, i32_to, i64_to, sI_i32, sJ_i64, b01_t, b01_f, i32_b01, b01_0, ↓a_s0, ↓n_s0, ↓a_s1, ↓n_s1, Int.add_zero, t_lt, f_lt, t_le, f_le, t_eq, f_eq, true_and, and_true, false_and, and_false, and_self, ↓reduceIte, z_bool_of, or_true, true_or, or_false, false_or, Int.neg_neg, not_true_eq_false, not_false_eq_true, lg_lt, lg_le, lg_gt, lg_ge, lg_eq, j_lit, j_add, j_sub, j_mul, j_neg, j_eq, i64_id, ij, ji, z_rt, Nat.reduceEqDiff, Nat.reduceAdd, Int.reduceAdd, Int.reduceSub, Int.reduceMul, Int.reduceNeg, Int.reduceLT, Int.reduceLE, Int.reduceEq, h4, l1, ek, bI_f]
    · by_cases w1 : 276 ≤ tc b n t ∧ tc b n t ≤ 280 ∧ tc b n t ≠ 277
      · have ek : knw ord (tc b n t) = true := by unfold knw; rw [if_neg (by omega)]; exact decide_eq_true w1
        have w3 := w1.2.2
        simp (disch := first | omega | assumption | exact b01_rng _ | exact st_5 | exact st_12 | exact st_19 | (simp only [isSt_sI, isSt_sJ, isSt_sF, isSt_sG, isSt_sA]; assumption)) only [↓B2_0, ↓B2_8, ↓B2_16, ↓B2_23, ↓B2_30, ↓B2_37, ↓o_37, ↓o_52, ↓o_53, ↓r_37_4, ↓r_52_0, ↓r_52_1, ↓r_53_3, k91, i_lit, i_add, i_sub, i_mul, i_neg, i_lt, i_le, i_eq, i32_gI, i64_gJ, i32_id, i32_to, i64_to, sI_i32, sJ_i64, b01_t, b01_f, i32_b01, b01_0, ↓a_s0, ↓n_s0, ↓a_s1, ↓n_s1, Int.add_zero, t_lt, f_lt, t_le, f_le, t_eq, f_eq, true_and, and_true, false_and, and_false, and_self, ↓reduceIte, z_bool_of, or_true, true_or, or_false, false_or, Int.neg_neg, not_true_eq_false, not_false_eq_true, lg_lt, lg_le, lg_gt, lg_ge, lg_eq, j_lit, j_add, j_sub, j_mul, j_neg, j_eq, i64_id, ij, ji, z_rt, Nat.reduceEqDiff, Nat.reduceAdd, Int.reduceAdd, Int.reduceSub, Int.reduceMul, Int.reduceNeg, Int.reduceLT, Int.reduceLE, Int.reduceEq, h4, l1, ek, bI_t, w3]
      · have ek : knw ord (tc b n t) = false := by unfold knw; rw [if_neg (by omega)]; exact decide_eq_false w1
        by_cases w2 : tc b n t < 276
        · simp (disch := first | omega | assumption | exact b01_rng _ | exact st_5 | exact st_12 | exact st_19 | (simp only [isSt_sI, isSt_sJ, isSt_sF, isSt_sG, isSt_sA]; assumption)) only [↓B2_0, ↓B2_8, ↓B2_16, ↓B2_23, ↓B2_30, ↓B2_41, ↓o_37, ↓o_52, ↓o_53, ↓r_37_4, ↓r_52_0, ↓r_52_1, ↓r_53_3, k91, i_lit, i_add, i_sub, i_mul, i_neg, i_lt, i_le, i_eq, i32_gI, i64_gJ, i32_id, i32_to, i64_to, sI_i32, sJ_i64, b01_t, b01_f, i32_b01, b01_0, ↓a_s0, ↓n_s0, ↓a_s1, ↓n_s1, Int.add_zero, t_lt, f_lt, t_le, f_le, t_eq, f_eq, true_and, and_true, false_and, and_false, and_self, ↓reduceIte, z_bool_of, or_true, true_or, or_false, false_or, Int.neg_neg, not_true_eq_false, not_false_eq_true, lg_lt, lg_le, lg_gt, lg_ge, lg_eq, j_lit, j_add, j_sub, j_mul, j_neg, j_eq, i64_id, ij, ji, z_rt, Nat.reduceEqDiff, Nat.reduceAdd, Int.reduceAdd, Int.reduceSub, Int.reduceMul, Int.reduceNeg, Int.reduceLT, Int.reduceLE, Int.reduceEq, h4, l1, ek, bI_f]
        · by_cases w3 : 280 < tc b n t
          · simp (disch := first | omega | assumption | exact b01_rng _ | exact st_5 | exact st_12 | exact st_19 | (simp only [isSt_sI, isSt_sJ, isSt_sF, isSt_sG, isSt_sA]; assumption)) only [↓B2_0, ↓B2_8, ↓B2_16, ↓B2_23, ↓B2_30, ↓B2_41, ↓o_37, ↓o_52, ↓o_53, ↓r_37_4, ↓r_52_0, ↓r_52_1, ↓r_53_3, k91, i_lit, i_add, i_sub, i_mul, i_neg, i_lt, i_le, i_eq, i32_gI, i64_gJ, i32_id, i32_to, i64_to, sI_i32, sJ_i64, b01_t, b01_f, i32_b01, b01_0, ↓a_s0, ↓n_s0, ↓a_s1, ↓n_s1, Int.add_zero, t_lt, f_lt, t_le, f_le, t_eq, f_eq, true_and, and_true, false_and, and_false, and_self, ↓reduceIte, z_bool_of, or_true, true_or, or_false, false_or, Int.neg_neg, not_true_eq_false, not_false_eq_true, lg_lt, lg_le, lg_gt, lg_ge, lg_eq, j_lit, j_add, j_sub, j_mul, j_neg, j_eq, i64_id, ij, ji, z_rt, Nat.reduceEqDiff, Nat.reduceAdd, Int.reduceAdd, Int.reduceSub, Int.reduceMul, Int.reduceNeg, Int.reduceLT, Int.reduceLE, Int.reduceEq, h4, l1, ek, bI_f]
          · simp (disch := first | omega | assumption | exact b01_rng _ | exact st_5 | exact st_12 | exact st_19 | (simp only [isSt_sI, isSt_sJ, isSt_sF, isSt_sG, isSt_sA]; assumption)) only [↓B2_0, ↓B2_8, ↓B2_16, ↓B2_23, ↓B2_30, ↓B2_41, ↓o_37, ↓o_52, ↓o_53, ↓r_37_4, ↓r_52_0, ↓r_52_1, ↓r_53_3, k91, i_lit, i_add, i_sub, i_mul, i_neg, i_lt, i_le, i_eq, i32_gI, i64_gJ, i32_id, i32_to, i64_to, sI_i32, sJ_i64, b01_t, b01_f, i32_b01, b01_0, ↓a_s0, ↓n_s0, ↓a_s1, ↓n_s1, Int.add_zero, t_lt, f_lt, t_le, f_le, t_eq, f_eq, true_and, and_true, false_and, and_false, and_self, ↓reduceIte, z_bool_of, or_true, true_or, or_false, false_or, Int.neg_neg, not_true_eq_false, not_false_eq_true, lg_lt, lg_le, lg_gt, lg_ge, lg_eq, j_lit, j_add, j_sub, j_mul, j_neg, j_eq, i64_id, ij, ji, z_rt, Nat.reduceEqDiff, Nat.reduceAdd, Int.reduceAdd, Int.reduceSub, Int.reduceMul, Int.reduceNeg, Int.reduceLT, Int.reduceLE, Int.reduceEq, h4, l1, ek, bI_f]
  rw [e0, e1]
  unfold pClause
  by_cases w : knw ord (tc b n t) = true
  · rw [if_pos w, w]
    have hne : tc b n t ≠ 301 := by
      intro w1; rw [w1] at w
      unfold knw at w
      split at w
      · exact absurd (of_decide_eq_true w) (by omega)
      · exact absurd (of_decide_eq_true w) (by omega)
    have ht := h.lt hne
    have kc := fun {cm cp : Nat} {L : zL} {s : List Value} => a93c (X := X) (d := d) (by omega) h (c := tc b n t) rfl hne (cm := cm) (cp := cp) (L := L) (st := s)
    have g0 : GdL b n T S t ord p q p t S 0 := ⟨h, FrL.rf, hL, Int.le_refl _, by omega, fun _ _ => rfl, Nat.le_refl _, Int.le_refl _, fun _ _ => rfl, rfl⟩
    have g1 := g0.go (t' := t + 1) (by omega) (by omega)
    have g2 := ((((g1.put (f := 0) (x := tc b n t) (by omega)).put (f := 2) (x := -1) (by omega)).put (f := 3) (x := -1) (by omega)).put (f := 1) (x := 1) (by omega)).put (f := 4) (x := -1) (by omega)
    have k15 := fun (Z : zS) (f x : Int) (hf : 0 ≤ f ∧ f < 5) (hx : r32 x) {cm cp : Nat} {L : zL} {s : List Value} => c15 (X := X) (d := d) (S := Z) (by omega) q f x hq hf hx (cm := cm) (cp := cp) (L := L) (st := s)
    have e2 : z_ev X d (2, 64, [some (.ref 52), some (.ref 37), some (.int (Int32.ofInt q)), some (.int (Int32.ofInt (tc b n t))), none], [.int (Int32.ofInt (bI true))], mk S) = z_ev X d (2, 132, L2 q (tc b n t) 1, [], mk (sI (sI (sI (sI (sI (sI S 37 4 (t + 1 : Nat)) 55 (5 * q + 0) (tc b n t)) 55 (5 * q + 2) (-1)) 55 (5 * q + 3) (-1)) 55 (5 * q + 1) 1) 55 (5 * q + 4) (-1))) := by
      simp (disch := first | omega | assumption | exact b01_rng _ | exact st_5 | exact st_12 | exact st_19 | (simp only [isSt_sI, isSt_sJ, isSt_sF, isSt_sG, isSt_sA]; assumption)) only [↓B2_64, ↓B2_76, ↓B2_81, ↓B2_92, ↓B2_102, ↓B2_112, ↓B2_122, ↓o_37, ↓o_52, ↓o_53, ↓r_37_4, ↓r_52_0, ↓r_52_1, ↓r_53_3, kc, c15, i_lit, i_add, i_sub, i_mul, i_neg, i_lt, i_le, i_eq, i32_gI, i64_gJ, i32_id, i32_to, i64_to, sI_i32, sJ_i64, b01_t, b01_f, i32_b01, b01_0, ↓a_s0, ↓n_s0, ↓a_s1, ↓n_s1, Int.add_zero, t_lt, f_lt, t_le, f_le, t_eq, f_eq, true_and, and_true, false_and, and_false, and_self, ↓reduceIte, z_bool_of, or_true, true_or, or_false, false_or, Int.neg_neg, not_true_eq_false, not_false_eq_true, lg_lt, lg_le, lg_gt, lg_ge, lg_eq, j_lit, j_add, j_sub, j_mul, j_neg, j_eq, i64_id, ij, ji, z_rt, Nat.reduceEqDiff, Nat.reduceAdd, Int.reduceAdd, Int.reduceSub, Int.reduceMul, Int.reduceNeg, Int.reduceLT, Int.reduceLE, Int.reduceEq, bI_t]
    rw [e2]
    have f0 : gI (sI (sI (sI (sI (sI (sI S 37 4 (t + 1 : Nat)) 55 (5 * q + 0) (tc b n t)) 55 (5 * q + 2) (-1)) 55 (5 * q + 3) (-1)) 55 (5 * q + 1) 1) 55 (5 * q + 4) (-1)) 55 (5 * q) = tc b n t := by
      (repeat (first | rw [gI_sI, if_neg (by omega)] | rw [gI_sF, if_neg (by omega)] | rw [gI_sJ] | rw [gI_sG] | rw [gI_sQ])); rw [gI_sI, if_pos ⟨rfl, by omega⟩, i32_id (by omega) (by omega)]
    have f1 : gI (sI (sI (sI (sI (sI (sI S 37 4 (t + 1 : Nat)) 55 (5 * q + 0) (tc b n t)) 55 (5 * q + 2) (-1)) 55 (5 * q + 3) (-1)) 55 (5 * q + 1) 1) 55 (5 * q + 4) (-1)) 55 (5 * q + 1) = 1 := by
      (repeat (first | rw [gI_sI, if_neg (by omega)] | rw [gI_sF, if_neg (by omega)] | rw [gI_sJ] | rw [gI_sG] | rw [gI_sQ])); rw [gI_sI, if_pos ⟨rfl, rfl⟩]; rfl
    have f2 : gI (sI (sI (sI (sI (sI (sI S 37 4 (t + 1 : Nat)) 55 (5 * q + 0) (tc b n t)) 55 (5 * q + 2) (-1)) 55 (5 * q + 3) (-1)) 55 (5 * q + 1) 1) 55 (5 * q + 4) (-1)) 55 (5 * q + 2) = -1 := by
      (repeat (first | rw [gI_sI, if_neg (by omega)] | rw [gI_sF, if_neg (by omega)] | rw [gI_sJ] | rw [gI_sG] | rw [gI_sQ])); rw [gI_sI, if_pos ⟨rfl, rfl⟩]; rfl
    have f3 : gI (sI (sI (sI (sI (sI (sI S 37 4 (t + 1 : Nat)) 55 (5 * q + 0) (tc b n t)) 55 (5 * q + 2) (-1)) 55 (5 * q + 3) (-1)) 55 (5 * q + 1) 1) 55 (5 * q + 4) (-1)) 55 (5 * q + 3) = -1 := by
      (repeat (first | rw [gI_sI, if_neg (by omega)] | rw [gI_sF, if_neg (by omega)] | rw [gI_sJ] | rw [gI_sG] | rw [gI_sQ])); rw [gI_sI, if_pos ⟨rfl, rfl⟩]; rfl
    have f4 : gI (sI (sI (sI (sI (sI (sI S 37 4 (t + 1 : Nat)) 55 (5 * q + 0) (tc b n t)) 55 (5 * q + 2) (-1)) 55 (5 * q + 3) (-1)) 55 (5 * q + 1) 1) 55 (5 * q + 4) (-1)) 55 (5 * q + 4) = -1 := by
      rw [gI_sI, if_pos ⟨rfl, rfl⟩]; rfl
    generalize sI (sI (sI (sI (sI (sI S 37 4 (t + 1 : Nat)) 55 (5 * q + 0) (tc b n t)) 55 (5 * q + 2) (-1)) 55 (5 * q + 3) (-1)) 55 (5 * q + 1) 1) 55 (5 * q + 4) (-1) = Z at *
    have s1 := c_st1 (X := X) (d := d) hd hn (x4 := 1) hq hrt hk0 g2 f2
    cases r1 : pSt1 (pSum (tc b n) (tv b n) ord 8) (tc b n t) p (t + 1) with
    | inl e => rw [r1] at s1; exact s1
    | inr y1 =>
      obtain ⟨x1, p1, t1⟩ := y1
      rw [r1] at s1
      obtain ⟨S1, a1, a2, a3, a4, a5, a6, a7⟩ := s1
      simp only []
      rw [a1]
      have s2 := c_st2 (X := X) (d := d) hd hn (x4 := 1) hq hrt hk0 a2 (by rw [a5 _ (by omega)]; exact f3)
      cases r2 : pSt2 (tc b n) (pSum (tc b n) (tv b n) ord 8) (tc b n t) p1 t1 with
      | inl e => rw [r2] at s2; exact s2
      | inr y2 =>
        obtain ⟨x2, p2, t2⟩ := y2
        rw [r2] at s2
        obtain ⟨S2, b1, b2, b3, b4, b5, b6, b7, b8, b9⟩ := s2
        simp only []
        rw [b1]
        have s3 := c_st3 (X := X) (d := d) hd hn (k := tc b n t) (x4 := 1) hq hk0 b2 (by rw [b5 _ (by omega), a5 _ (by omega)]; exact f1)
        cases r3 : pSt3 (tc b n) (tv b n) ord t2 with
        | inl e => rw [r3] at s3; exact s3
        | inr y3 =>
          obtain ⟨m, t3⟩ := y3
          rw [r3] at s3
          obtain ⟨S3, c1, c2, c3, c4, c5, c6, c7, c8⟩ := s3
          simp only []
          rw [c1]
          have s4 := c_st4 (X := X) (d := d) hd hn (k := tc b n t) (x4 := 1) hq hk0 c2 (by rw [c6 _ (by omega), b5 _ (by omega), a5 _ (by omega)]; exact f4)
          cases r4 : pSt4 (tc b n) (pTest (tc b n) (tv b n) ord 8) p2 t3 with
          | inl e => rw [r4] at s4; exact s4
          | inr y4 =>
            obtain ⟨x4, p4, t4⟩ := y4
            rw [r4] at s4
            obtain ⟨S4, d1, d2, d3, d4, d5, d6, d7, d8, d9, d10⟩ := s4
            have z2 : p2.2 = 0 → p1.2 = 0 := fun w => by have := a2.2.2.1.2.2.2.2.2; omega
            have z4 : p4.2 = 0 → p2.2 = 0 := fun w => by have := b2.2.2.1.2.2.2.2.2; omega
            refine ⟨S4, d1, d2, by omega, ⟨?_, ?_, ?_, ?_, d4⟩, a6.mono (fun w => z2 (z4 w)), b6.mono z4, d6, d8, c5⟩
            · rw [d5 _ (by omega), c6 _ (by omega), b5 _ (by omega), a5 _ (by omega)]; exact f0
            · rw [d5 _ (by omega)]; exact c4
            · rw [d5 _ (by omega), c6 _ (by omega), b5 _ (by omega)]
              refine a4.cg (fun i _ hi => ?_) (by omega)
              rw [d9 i (by omega), c7, b8 i hi]
            · rw [d5 _ (by omega), c6 _ (by omega)]
              refine b4.cg (fun i _ hi => ?_) (by omega)
              rw [d9 i (by omega), c7]
  · have w' : knw ord (tc b n t) = false := by cases hh : knw ord (tc b n t) with | false => rfl | true => exact absurd hh w
    rw [if_neg w, w']
    have k92 := fun {cm cp : Nat} {L : zL} {s : List Value} => a92b (X := X) (d := d) (by omega) h hn (cm := cm) (cp := cp) (L := L) (st := s)
    refine ⟨sI S 37 5 (tpos b n t), t, ?_, h.die hn, FrL.I (by omega), (hL.fr (by (repeat (first | rw [gI_sI, if_neg (by omega)] | rw [gI_sF, if_neg (by omega)] | rw [gI_sJ] | rw [gI_sG] | rw [gI_sQ]))) (by (repeat (first | rw [gI_sI, if_neg (by omega)] | rw [gI_sF, if_neg (by omega)] | rw [gI_sJ] | rw [gI_sG] | rw [gI_sQ]))) (by (repeat (first | rw [gI_sI, if_neg (by omega)] | rw [gI_sF, if_neg (by omega)] | rw [gI_sJ] | rw [gI_sG] | rw [gI_sQ])))).kb (by (repeat (first | rw [gI_sI, if_neg (by omega)] | rw [gI_sF, if_neg (by omega)] | rw [gI_sJ] | rw [gI_sG] | rw [gI_sQ])); omega)⟩
    simp (disch := first | omega | assumption | exact b01_rng _ | exact st_5 | exact st_12 | exact st_19 | (simp only [isSt_sI, isSt_sJ, isSt_sF, isSt_sG, isSt_sA]; assumption)) only [↓B2_64, ↓B2_71, ↓B2_75, ↓o_37, ↓o_52, ↓o_53, ↓r_37_4, ↓r_52_0, ↓r_52_1, ↓r_53_3, k92, i_lit, i_add, i_sub, i_mul, i_neg, i_lt, i_le, i_eq, i32_gI, i64_gJ, i32_id, i32_to, i64_to, sI_i32, sJ_i64, b01_t, b01_f, i32_b01, b01_0, ↓a_s0, ↓n_s0, ↓a_s1, ↓n_s1, Int.add_zero, t_lt, f_lt, t_le, f_le, t_eq, f_eq, true_and, and_true, false_and, and_false, and_self, ↓reduceIte, z_bool_of, or_true, true_or, or_false, false_or, Int.neg_neg, not_true_eq_false, not_false_eq_true, lg_lt, lg_le, lg_gt, lg_ge, lg_eq, j_lit, j_add, j_sub, j_mul, j_neg, j_eq, i64_id, ij, ji, z_rt, Nat.reduceEqDiff, Nat.reduceAdd, Int.reduceAdd, Int.reduceSub, Int.reduceMul, Int.reduceNeg, Int.reduceLT, Int.reduceLE, Int.reduceEq, bI_f]
