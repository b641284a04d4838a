/-! the class's loop over a test -/
theorem test_row {X : zX} {d : Nat} (hd : 9 ≤ d) {b : Int → Int} {n : Int} {T : Nat} (hn : 0 ≤ n ∧ n ≤ 400) {ord dp : Int} (hdp : 0 ≤ dp ∧ dp ≤ 8) {Sm : Rdr} (hS : SmC X b n T (d - 1) dp ord Sm) {M : Option Rdr} (hM : (dp = 8 ∧ M = none) ∨ (dp < 8 ∧ ∃ f, M = some f ∧ TsC X b n T (d - 1) (dp + 1) ord f)) {S0 : zS} {t0 : Nat} {p0 : Nat × Int} (hk0 : 0 ≤ gI S0 53 3 ∧ gI S0 53 3 + T ≤ 436 + t0) {N : Nat → Bool × Nat} (hN : N = pNots (tc b n) 500) : ∀ (m : Nat) (o a : Option Ev) (p : Nat × Int) (t : Nat) (S : zS) (kk io ia : Int) (x7 x8 : Option Value), 500 ≤ m + t → AlT S b n T t → FrK S0 S → LK S ord p → Low S0 S (gI S0 53 3) → TSg (IC S) (gI S0 53 3) (gI S 53 3) (p.1 - p0.1) o a io ia → p0.1 ≤ p.1 → p0.2 ≤ p.2 → tOK o p.2 → tOK a p.2 → gI S 53 3 + t0 ≤ gI S0 53 3 + t → gI S0 53 3 ≤ gI S 53 3 → (-1 ≤ io ∧ io ≤ 436) → 0 ≤ kk → 2 * kk + t0 ≤ t → OutK b n T S0 t0 ord p0 (pTestL (tc b n) N (pPlain (tc b n) Sm M) m o a p t) (z_ev X d (4, 11, L4 dp io ia kk x7 x8 1, [], mk S)) E01 := by
  intro m
  induction m with
  | zero =>
    intro o a p t S kk io ia x7 x8 h1 h2
    have := h2.1.2.2
    have := h2.1.1.2.2.1
    omega
  | succ m ih =>
    intro o a p t S kk io ia x7 x8 h1 h hF hL hlow hW hp1 hp2 ho ha hbd hk1 hio hkk hkt
    have hT4 := h.1.1.2.2.1
    have htT := h.1.2.2
    obtain ⟨n1', n2', n3', n4', n5'⟩ := nots_row (X := X) (d := d - 1) (by omega) 500 t S false 0 (by omega) h (by omega) (by omega)
    rw [Bool.false_xor] at n1'
    rw [← hN] at n1' n2' n3' n4' n5'
    have k5 : ∀ {cm cp : Nat} {L : zL} {s : List Value}, z_evc X d 5 [.ref 37] (cm, cp, L, s, mk S) = z_ev X d (cm, cp, L, .int (Int32.ofInt (bI (N t).1)) :: s, mk (sI S 37 4 (N t).2)) := fun {cm cp L s} => z_evc_of (r := (some (.int (Int32.ofInt (bI (N t).1))), mk (sI S 37 4 (N t).2))) (ck := (cm, cp, L, s, mk S)) (show d - 1 < d by omega) (by
      rw [← n1']
      show z_ev X (d - 1) (5, 0, [some (.ref 37), none, none], [], mk S) = _
      simp (disch := first | omega | assumption | exact b01_rng _ | exact st_5 | exact st_12 | exact st_19 | (simp only [isSt_sI, isSt_sJ, isSt_sF, isSt_sG, isSt_sA]; assumption)) only [↓B5_0, i_lit, i_add, i_sub, i_mul, i_neg, i_lt, i_le, i_eq, i32_gI, i64_gJ, i32_id, i32_to, i64_to, sI_i32, sJ_i64, b01_t, b01_f, i32_b01, b01_0, ↓a_s0, ↓n_s0, ↓a_s1, ↓n_s1, Int.add_zero, t_lt, f_lt, t_le, f_le, t_eq, f_eq, true_and, and_true, false_and, and_false, and_self, ↓reduceIte, z_bool_of, or_true, true_or, or_false, false_or, Int.neg_neg, not_true_eq_false, not_false_eq_true, lg_lt, lg_le, lg_gt, lg_ge, lg_eq, j_lit, j_add, j_sub, j_mul, j_neg, j_eq, i64_id, ij, ji, z_rt, Nat.reduceEqDiff, Nat.reduceAdd, Int.reduceAdd, Int.reduceSub, Int.reduceMul, Int.reduceNeg, Int.reduceLT, Int.reduceLE, Int.reduceEq, bI_f])
    have eP : pTestL (tc b n) N (pPlain (tc b n) Sm M) (m + 1) o a p t = (match pPlain (tc b n) Sm M p (N t).2 with
      | .inl e => .inl e
      | .inr (e, p1, t1) =>
        if tc b n t1 = 266 then pTestL (tc b n) N (pPlain (tc b n) Sm M) m o (some (jn 12 a (trn (N t).1 e))) p1 (t1 + 1)
        else if tc b n t1 = 260 then pTestL (tc b n) N (pPlain (tc b n) Sm M) m (some (jn 11 o (jn 12 a (trn (N t).1 e)))) none p1 (t1 + 1)
        else .inr (jn 11 o (jn 12 a (trn (N t).1 e)), p1, t1)) := rfl
    rw [eP]
    obtain ⟨tn, htn⟩ : ∃ tn, (N t).2 = tn := ⟨_, rfl⟩
    obtain ⟨par, hpar⟩ : ∃ par, (N t).1 = par := ⟨_, rfl⟩
    rw [htn] at n2' n3' n4' k5
    rw [hpar] at n4' k5
    rw [htn, hpar]
    have hx7 : bI par = 0 ∨ bI par = 1 := by cases par with | false => exact Or.inl rfl | true => exact Or.inr rfl
    have hZ := h.go (t' := tn) n3'
    have hFZ : FrK S (sI S 37 4 tn) := FrK.I (by omega)
    have e53 : gI (sI S 37 4 tn) 53 3 = gI S 53 3 := by (repeat (first | rw [gI_sI, if_neg (by omega)] | rw [gI_sF, if_neg (by omega)] | rw [gI_sJ] | rw [gI_sG] | rw [gI_sQ]))
    have e54 : ∀ i, gI (sI S 37 4 tn) 54 i = gI S 54 i := fun i => by (repeat (first | rw [gI_sI, if_neg (by omega)] | rw [gI_sF, if_neg (by omega)] | rw [gI_sJ] | rw [gI_sG] | rw [gI_sQ]))
    have hLZ : LK (sI S 37 4 tn) ord p := hL.fr (by (repeat (first | rw [gI_sI, if_neg (by omega)] | rw [gI_sF, if_neg (by omega)] | rw [gI_sJ] | rw [gI_sG] | rw [gI_sQ]))) (by (repeat (first | rw [gI_sI, if_neg (by omega)] | rw [gI_sF, if_neg (by omega)] | rw [gI_sJ] | rw [gI_sG] | rw [gI_sQ]))) (by (repeat (first | rw [gI_sI, if_neg (by omega)] | rw [gI_sF, if_neg (by omega)] | rw [gI_sJ] | rw [gI_sG] | rw [gI_sQ])))
    have hia : -1 ≤ ia ∧ ia ≤ 436 := by
      obtain ⟨s1, m1, m2, w1, w2, w3⟩ := hW
      cases a with
      | none => have := w3.1; omega
      | some ea =>
        have := w3.1.1
        have := w3.2.2
        cases o with
        | none => have := w2.2.1; omega
        | some eo => have := w2.1.1; have := w2.2.2; omega
    have hP := plain_al (X := X) (d := d) hd hn hZ hLZ (by rw [e53]; omega) hdp hS (M := M) hM (o := io) (a := ia) (k := kk) (x7 := bI par) (y7 := x7) (x8 := x8) hio hia (by omega) hx7
    have hhd : z_ev X d (4, 11, L4 dp io ia kk x7 x8 1, [], mk S) = z_ev X d (4, 28, L4 dp io ia kk x7 x8 1, [.int (Int32.ofInt (bI par))], mk (sI S 37 4 tn)) := by
      rw [B4_11]
      simp (disch := first | omega | assumption | exact b01_rng _ | exact st_5 | exact st_12 | exact st_19 | (simp only [isSt_sI, isSt_sJ, isSt_sF, isSt_sG, isSt_sA]; assumption)) only [↓B4_16, ↓B4_24, k5, i_lit, i_add, i_sub, i_mul, i_neg, i_lt, i_le, i_eq, i32_gI, i64_gJ, i32_id, i32_to, i64_to, sI_i32, sJ_i64, b01_t, b01_f, i32_b01, b01_0, ↓a_s0, ↓n_s0, ↓a_s1, ↓n_s1, Int.add_zero, t_lt, f_lt, t_le, f_le, t_eq, f_eq, true_and, and_true, false_and, and_false, and_self, ↓reduceIte, z_bool_of, or_true, true_or, or_false, false_or, Int.neg_neg, not_true_eq_false, not_false_eq_true, lg_lt, lg_le, lg_gt, lg_ge, lg_eq, j_lit, j_add, j_sub, j_mul, j_neg, j_eq, i64_id, ij, ji, z_rt, Nat.reduceEqDiff, Nat.reduceAdd, Int.reduceAdd, Int.reduceSub, Int.reduceMul, Int.reduceNeg, Int.reduceLT, Int.reduceLE, Int.reduceEq]
    rw [hhd]
    cases hp : pPlain (tc b n) Sm M p tn with
    | inl e =>
      rw [hp] at hP
      obtain ⟨S1, t', a1, a2, a3, a4⟩ := hP
      exact ⟨S1, t', a1, a2, (hF.tr hFZ).tr a3, a4⟩
    | inr x =>
      obtain ⟨e, p1, t1⟩ := x
      rw [hp] at hP
      obtain ⟨S1, x8', a1, ⟨a2, a3, a4, a5, a6, a7, a8, a9, a10, a11, a12⟩, a13⟩ := hP
      rw [e53] at a5 a6 a7 a10
      have ht1T := a2.1.2.2
      have hz : p1.2 = 0 → p.2 = 0 := fun w => by have := hL.2.2.2.2.2; omega
      -- not
      have st2 : ∃ S2 : zS, z_ev X d (4, 91, L4 dp io ia kk (some (.int (Int32.ofInt (bI par)))) x8' 1, [], mk S1) = z_ev X d (4, 107, L4 dp io ia kk (some (.int (Int32.ofInt (bI par)))) x8' 1, [], mk S2) ∧ AlT S2 b n T t1 ∧ FrK S0 S2 ∧ LK S2 ord p1 ∧ Low S S2 (gI S 53 3) ∧ gI S2 53 3 + t ≤ gI S 53 3 + t1 ∧ Seg (IC S2) (gI S 53 3) (gI S2 53 3) (p1.1 - p.1) (trn par e) := by
        cases par with
        | false => exact ⟨S1, by simp (disch := first | omega | assumption | exact b01_rng _ | exact st_5 | exact st_12 | exact st_19 | (simp only [isSt_sI, isSt_sJ, isSt_sF, isSt_sG, isSt_sA]; assumption)) only [↓B4_91, i_lit, i_add, i_sub, i_mul, i_neg, i_lt, i_le, i_eq, i32_gI, i64_gJ, i32_id, i32_to, i64_to, sI_i32, sJ_i64, b01_t, b01_f, i32_b01, b01_0, ↓a_s0, ↓n_s0, ↓a_s1, ↓n_s1, Int.add_zero, t_lt, f_lt, t_le, f_le, t_eq, f_eq, true_and, and_true, false_and, and_false, and_self, ↓reduceIte, z_bool_of, or_true, true_or, or_false, false_or, Int.neg_neg, not_true_eq_false, not_false_eq_true, lg_lt, lg_le, lg_gt, lg_ge, lg_eq, j_lit, j_add, j_sub, j_mul, j_neg, j_eq, i64_id, ij, ji, z_rt, Nat.reduceEqDiff, Nat.reduceAdd, Int.reduceAdd, Int.reduceSub, Int.reduceMul, Int.reduceNeg, Int.reduceLT, Int.reduceLE, Int.reduceEq, bI_f], a2, (hF.tr hFZ).tr a3, a4, fun i hi => by rw [a7 i hi, e54], by omega, a10⟩
        | true =>
          have hlt := n4' rfl
          have k16 := fun {cm cp : Nat} {L : zL} {s : List Value} => c16a (X := X) (d := d) (S := S1) (by omega) 10 0 (by omega) (by omega) (by omega) (cm := cm) (cp := cp) (L := L) (st := s)
          refine ⟨wrS S1 10 0, by simp (disch := first | omega | assumption | exact b01_rng _ | exact st_5 | exact st_12 | exact st_19 | (simp only [isSt_sI, isSt_sJ, isSt_sF, isSt_sG, isSt_sA]; assumption)) only [↓B4_91, ↓B4_96, ↓B4_106, ↓o_37, ↓o_52, ↓o_53, ↓r_52_0, k16, i_lit, i_add, i_sub, i_mul, i_neg, i_lt, i_le, i_eq, i32_gI, i64_gJ, i32_id, i32_to, i64_to, sI_i32, sJ_i64, b01_t, b01_f, i32_b01, b01_0, ↓a_s0, ↓n_s0, ↓a_s1, ↓n_s1, Int.add_zero, t_lt, f_lt, t_le, f_le, t_eq, f_eq, true_and, and_true, false_and, and_false, and_self, ↓reduceIte, z_bool_of, or_true, true_or, or_false, false_or, Int.neg_neg, not_true_eq_false, not_false_eq_true, lg_lt, lg_le, lg_gt, lg_ge, lg_eq, j_lit, j_add, j_sub, j_mul, j_neg, j_eq, i64_id, ij, ji, z_rt, Nat.reduceEqDiff, Nat.reduceAdd, Int.reduceAdd, Int.reduceSub, Int.reduceMul, Int.reduceNeg, Int.reduceLT, Int.reduceLE, Int.reduceEq, bI_t], a2.fr (fun a i q => wrS_o (by omega) (by omega)), ((hF.tr hFZ).tr a3).tr FrK.wr, a4.fr (wrS_o (by omega) (by omega)) (wrS_o (by omega) (by omega)) (wrS_o (by omega) (by omega)), fun i hi => by rw [wrS_c (by omega), a7 i hi, e54], by rw [wrS_k (by omega)]; omega, ?_⟩
          rw [wrS_k (by omega)]
          exact Seg.not (x := 0) (a10.cg (fun i _ hi => wrS_lo hi)) (wrS_i (by omega) (by omega) (by omega))
      obtain ⟨S2, g1, g2, g3, g4, g5, g6, g7⟩ := st2
      rw [a1, g1]
      have hg7 := g7.1
      -- the and is aimed
      obtain ⟨⟨i1, i2, i2', i3⟩, s1, m1, m2, j1, j2, j3⟩ := hW.aimA (S := S2) (fun i hi => g5.ic (g4.1.trans hL.1.symm) hi) (by omega) g7 rfl (by omega)
      have k17a := fun {cm cp : Nat} {L : zL} {s : List Value} => c17 (X := X) (d := d) (S := S2) (by omega) ia (by omega) (by omega) i3 (cm := cm) (cp := cp) (L := L) (st := s)
      have hA3 : AlT (aimS S2 ia) b n T t1 := g2.fr (fun a i q => aimS_o (by omega))
      have hF3 : FrK S0 (aimS S2 ia) := g3.tr FrK.aim
      have hL3 : LK (aimS S2 ia) ord p1 := g4.fr (aimS_o (by omega)) (aimS_o (by omega)) (aimS_o (by omega))
      have e3 : gI (aimS S2 ia) 53 3 = gI S2 53 3 := aimS_o (by omega)
      have hl3 : Low S0 (aimS S2 ia) (gI S0 53 3) := fun i hi => by
        by_cases w : 0 ≤ ia
        · have := i2' w
          rw [aimS_c (by omega), g5 i (by omega), hlow i hi]
        · have : aimS S2 ia = S2 := by unfold aimS; rw [if_pos (by omega)]
          rw [this, g5 i (by omega), hlow i hi]
      have hr := hA3.1.1.rg hA3.1.2.2
      have kn := fun {c : Int} (hc : r32 c) (hne : tc b n t1 ≠ c) {cm cp : Nat} {L : zL} {s : List Value} => a93b (X := X) (d := d) (by omega) hA3 hc hne (cm := cm) (cp := cp) (L := L) (st := s)
      have h01 : E01 (jn 12 a (trn par e)) := jn_01 ha (trn_01 a13)
      have hns : p1.2 = 0 → NS (jn 12 a (trn par e)) := fun w => jn_ns (ha.mono hz) w (trn_ns (a12 w))
      generalize hZ3 : aimS S2 ia = S3 at *
      simp only []
      by_cases q : tc b n t1 = 266
      · rw [if_pos q]
        have ht1 := hA3.lt (by omega)
        have kc := fun {cm cp : Nat} {L : zL} {s : List Value} => a93c (X := X) (d := d) (by omega) hA3 (c := 266) q (by omega) (cm := cm) (cp := cp) (L := L) (st := s)
        have e53' : gI (sI S3 37 4 (t1 + 1 : Nat)) 53 3 = gI S2 53 3 := by (repeat (first | rw [gI_sI, if_neg (by omega)] | rw [gI_sF, if_neg (by omega)] | rw [gI_sJ] | rw [gI_sG] | rw [gI_sQ])); exact e3
        have k16 := fun {cm cp : Nat} {L : zL} {s : List Value} => c16a (X := X) (d := d) (S := sI S3 37 4 (t1 + 1 : Nat)) (by omega) 12 0 (by omega) (by omega) (by omega) (cm := cm) (cp := cp) (L := L) (st := s)
        have eI : IC (sI S3 37 4 (t1 + 1 : Nat)) = IC S3 := IC_fr (fun k => by (repeat (first | rw [gI_sI, if_neg (by omega)] | rw [gI_sF, if_neg (by omega)] | rw [gI_sJ] | rw [gI_sG] | rw [gI_sQ]))) (by (repeat (first | rw [gI_sI, if_neg (by omega)] | rw [gI_sF, if_neg (by omega)] | rw [gI_sJ] | rw [gI_sG] | rw [gI_sQ])))
        have hlo : ∀ i, i < gI S2 53 3 → IC (wrS (sI S3 37 4 (t1 + 1 : Nat)) 12 0) i = IC S3 i := fun i hi => by rw [wrS_lo (by omega), eI]
        have hat : IC (wrS (sI S3 37 4 (t1 + 1 : Nat)) 12 0) (gI S2 53 3) = (12, 0) := by
          have := wrS_i (S := sI S3 37 4 (t1 + 1 : Nat)) (op := 12) (ar := 0) (by omega) (by omega) (by omega)
          rw [e53'] at this; exact this
        have ek : gI (wrS (sI S3 37 4 (t1 + 1 : Nat)) 12 0) 53 3 = gI S2 53 3 + 1 := by rw [wrS_k (by omega), e53']
        have := ih o (some (jn 12 a (trn par e))) p1 (t1 + 1) (wrS (sI S3 37 4 (t1 + 1 : Nat)) 12 0) (kk + 1) io (gI S2 53 3) (some (.int (Int32.ofInt (bI par)))) x8' (by omega) ((hA3.go (t' := t1 + 1) (by omega)).fr (fun a i q => wrS_o (by omega) (by omega))) ((hF3.tr (FrK.I (by omega))).tr FrK.wr) ((hL3.fr (S' := sI S3 37 4 (t1 + 1 : Nat)) (by (repeat (first | rw [gI_sI, if_neg (by omega)] | rw [gI_sF, if_neg (by omega)] | rw [gI_sJ] | rw [gI_sG] | rw [gI_sQ]))) (by (repeat (first | rw [gI_sI, if_neg (by omega)] | rw [gI_sF, if_neg (by omega)] | rw [gI_sJ] | rw [gI_sG] | rw [gI_sQ]))) (by (repeat (first | rw [gI_sI, if_neg (by omega)] | rw [gI_sF, if_neg (by omega)] | rw [gI_sJ] | rw [gI_sG] | rw [gI_sQ])))).fr (wrS_o (by omega) (by omega)) (wrS_o (by omega) (by omega)) (wrS_o (by omega) (by omega))) (fun i hi => by rw [wrS_c (by omega)]; (repeat (first | rw [gI_sI, if_neg (by omega)] | rw [gI_sF, if_neg (by omega)] | rw [gI_sJ] | rw [gI_sG] | rw [gI_sQ])); exact hl3 i hi) ⟨s1, m1, m2, by omega, ?_, ⟨j3.cg (fun i _ hi => hlo i hi), hat, by rw [ek]⟩⟩ (by omega) (by omega) (ho.mono hz) (fun x hx => by cases hx; exact ⟨h01, hns⟩) (by rw [ek]; omega) (by rw [ek]; omega) hio (by omega) (by omega)
        · rw [show z_ev X d (4, 107, L4 dp io ia kk (some (.int (Int32.ofInt (bI par)))) x8' 1, [], mk S2) = z_ev X d (4, 11, L4 dp io (gI S2 53 3) (kk + 1) (some (.int (Int32.ofInt (bI par)))) x8' 1, [], mk (wrS (sI S3 37 4 (t1 + 1 : Nat)) 12 0)) from by
            simp (disch := first | omega | assumption | exact b01_rng _ | exact st_5 | exact st_12 | exact st_19 | (simp only [isSt_sI, isSt_sJ, isSt_sF, isSt_sG, isSt_sA]; assumption)) only [↓B4_107, ↓B4_116, ↓B4_126, ↓B4_129, ↓B4_139, ↓B4_181, ↓o_37, ↓o_52, ↓o_53, ↓r_52_0, k17a, kc, k16, i_lit, i_add, i_sub, i_mul, i_neg, i_lt, i_le, i_eq, i32_gI, i64_gJ, i32_id, i32_to, i64_to, sI_i32, sJ_i64, b01_t, b01_f, i32_b01, b01_0, ↓a_s0, ↓n_s0, ↓a_s1, ↓n_s1, Int.add_zero, t_lt, f_lt, t_le, f_le, t_eq, f_eq, true_and, and_true, false_and, and_false, and_self, ↓reduceIte, z_bool_of, or_true, true_or, or_false, false_or, Int.neg_neg, not_true_eq_false, not_false_eq_true, lg_lt, lg_le, lg_gt, lg_ge, lg_eq, j_lit, j_add, j_sub, j_mul, j_neg, j_eq, i64_id, ij, ji, z_rt, Nat.reduceEqDiff, Nat.reduceAdd, Int.reduceAdd, Int.reduceSub, Int.reduceMul, Int.reduceNeg, Int.reduceLT, Int.reduceLE, Int.reduceEq, e53']]
          exact this
        · have := j3.1
          exact j2.cg (fun i hi => hlo i (by omega))
      · rw [if_neg q]
        -- the or is aimed
        obtain ⟨⟨o1', o2', o2'', o3'⟩, o4'⟩ := aimO (S := S3) (k1 := gI S2 53 3) (by omega) e3 (by omega) j2 j3
        have k17o := fun {cm cp : Nat} {L : zL} {s : List Value} => c17 (X := X) (d := d) (S := S3) (by omega) io (by omega) (by omega) o3' (cm := cm) (cp := cp) (L := L) (st := s)
        have hA4 : AlT (aimS S3 io) b n T t1 := hA3.fr (fun a i q => aimS_o (by omega))
        have hF4 : FrK S0 (aimS S3 io) := hF3.tr FrK.aim
        have hL4 : LK (aimS S3 io) ord p1 := hL3.fr (aimS_o (by omega)) (aimS_o (by omega)) (aimS_o (by omega))
        have e4 : gI (aimS S3 io) 53 3 = gI S2 53 3 := by rw [aimS_o (by omega), e3]
        have hl4 : Low S0 (aimS S3 io) (gI S0 53 3) := fun i hi => by
          by_cases w : 0 ≤ io
          · have := o2'' w
            rw [aimS_c (by omega), hl3 i hi]
          · have : aimS S3 io = S3 := by unfold aimS; rw [if_pos (by omega)]
            rw [this, hl3 i hi]
        have h01' : E01 (jn 11 o (jn 12 a (trn par e))) := jn_01 ho h01
        have hns' : p1.2 = 0 → NS (jn 11 o (jn 12 a (trn par e))) := fun w => jn_ns (ho.mono hz) w (hns w)
        rw [← j1, show p.1 - p0.1 + (p1.1 - p.1) = p1.1 - p0.1 by omega] at o4'
        have kn4 := fun {c : Int} (hc : r32 c) (hne : tc b n t1 ≠ c) {cm cp : Nat} {L : zL} {s : List Value} => a93b (X := X) (d := d) (by omega) hA4 hc hne (cm := cm) (cp := cp) (L := L) (st := s)
        have ho4 := o4'.1
        by_cases q2 : tc b n t1 = 260
        · rw [if_pos q2]
          have ht1 := hA3.lt (by omega)
          have kc := fun {cm cp : Nat} {L : zL} {s : List Value} => a93c (X := X) (d := d) (by omega) hA4 (c := 260) q2 (by omega) (cm := cm) (cp := cp) (L := L) (st := s)
          generalize hZ4 : aimS S3 io = S4 at *
          have e53' : gI (sI S4 37 4 (t1 + 1 : Nat)) 53 3 = gI S2 53 3 := by (repeat (first | rw [gI_sI, if_neg (by omega)] | rw [gI_sF, if_neg (by omega)] | rw [gI_sJ] | rw [gI_sG] | rw [gI_sQ])); exact e4
          have k16 := fun {cm cp : Nat} {L : zL} {s : List Value} => c16a (X := X) (d := d) (S := sI S4 37 4 (t1 + 1 : Nat)) (by omega) 11 0 (by omega) (by omega) (by omega) (cm := cm) (cp := cp) (L := L) (st := s)
          have eI : IC (sI S4 37 4 (t1 + 1 : Nat)) = IC S4 := IC_fr (fun k => by (repeat (first | rw [gI_sI, if_neg (by omega)] | rw [gI_sF, if_neg (by omega)] | rw [gI_sJ] | rw [gI_sG] | rw [gI_sQ]))) (by (repeat (first | rw [gI_sI, if_neg (by omega)] | rw [gI_sF, if_neg (by omega)] | rw [gI_sJ] | rw [gI_sG] | rw [gI_sQ])))
          have hlo : ∀ i, i < gI S2 53 3 → IC (wrS (sI S4 37 4 (t1 + 1 : Nat)) 11 0) i = IC S4 i := fun i hi => by rw [wrS_lo (by omega), eI]
          have hat : IC (wrS (sI S4 37 4 (t1 + 1 : Nat)) 11 0) (gI S2 53 3) = (11, 0) := by
            have := wrS_i (S := sI S4 37 4 (t1 + 1 : Nat)) (op := 11) (ar := 0) (by omega) (by omega) (by omega)
            rw [e53'] at this; exact this
          have ek : gI (wrS (sI S4 37 4 (t1 + 1 : Nat)) 11 0) 53 3 = gI S2 53 3 + 1 := by rw [wrS_k (by omega), e53']
          have := ih (some (jn 11 o (jn 12 a (trn par e)))) none p1 (t1 + 1) (wrS (sI S4 37 4 (t1 + 1 : Nat)) 11 0) (kk + 1) (gI S2 53 3) (-1) (some (.int (Int32.ofInt (bI par)))) x8' (by omega) ((hA4.go (t' := t1 + 1) (by omega)).fr (fun a i q => wrS_o (by omega) (by omega))) ((hF4.tr (FrK.I (by omega))).tr FrK.wr) ((hL4.fr (S' := sI S4 37 4 (t1 + 1 : Nat)) (by (repeat (first | rw [gI_sI, if_neg (by omega)] | rw [gI_sF, if_neg (by omega)] | rw [gI_sJ] | rw [gI_sG] | rw [gI_sQ]))) (by (repeat (first | rw [gI_sI, if_neg (by omega)] | rw [gI_sF, if_neg (by omega)] | rw [gI_sJ] | rw [gI_sG] | rw [gI_sQ]))) (by (repeat (first | rw [gI_sI, if_neg (by omega)] | rw [gI_sF, if_neg (by omega)] | rw [gI_sJ] | rw [gI_sG] | rw [gI_sQ])))).fr (wrS_o (by omega) (by omega)) (wrS_o (by omega) (by omega)) (wrS_o (by omega) (by omega))) (fun i hi => by rw [wrS_c (by omega)]; (repeat (first | rw [gI_sI, if_neg (by omega)] | rw [gI_sF, if_neg (by omega)] | rw [gI_sJ] | rw [gI_sG] | rw [gI_sQ])); exact hl4 i hi) ⟨gI S2 53 3 + 1, p1.1 - p0.1, 0, by omega, ⟨o4'.cg (fun i _ hi => hlo i hi), hat, rfl⟩, ⟨rfl, ek, rfl⟩⟩ (by omega) (by omega) (fun x hx => by cases hx; exact ⟨h01', hns'⟩) (fun x hx => by cases hx) (by rw [ek]; omega) (by rw [ek]; omega) (by omega) (by omega) (by omega)
          rw [show z_ev X d (4, 107, L4 dp io ia kk (some (.int (Int32.ofInt (bI par)))) x8' 1, [], mk S2) = z_ev X d (4, 11, L4 dp (gI S2 53 3) (-1) (kk + 1) (some (.int (Int32.ofInt (bI par)))) x8' 1, [], mk (wrS (sI S4 37 4 (t1 + 1 : Nat)) 11 0)) from by
            simp (disch := first | omega | assumption | exact b01_rng _ | exact st_5 | exact st_12 | exact st_19 | (simp only [isSt_sI, isSt_sJ, isSt_sF, isSt_sG, isSt_sA]; assumption)) only [↓B4_107, ↓B4_116, ↓B4_126, ↓B4_144, ↓B4_152, ↓B4_159, ↓B4_166, ↓B4_176, ↓B4_180, ↓B4_181, ↓o_37, ↓o_52, ↓o_53, ↓r_52_0, k17a, k17o, kn, kc, k16, i_lit, i_add, i_sub, i_mul, i_neg, i_lt, i_le, i_eq, i32_gI, i64_gJ, i32_id, i32_to, i64_to, sI_i32, sJ_i64, b01_t, b01_f, i32_b01, b01_0, ↓a_s0, ↓n_s0, ↓a_s1, ↓n_s1, Int.add_zero, t_lt, f_lt, t_le, f_le, t_eq, f_eq, true_and, and_true, false_and, and_false, and_self, ↓reduceIte, z_bool_of, or_true, true_or, or_false, false_or, Int.neg_neg, not_true_eq_false, not_false_eq_true, lg_lt, lg_le, lg_gt, lg_ge, lg_eq, j_lit, j_add, j_sub, j_mul, j_neg, j_eq, i64_id, ij, ji, z_rt, Nat.reduceEqDiff, Nat.reduceAdd, Int.reduceAdd, Int.reduceSub, Int.reduceMul, Int.reduceNeg, Int.reduceLT, Int.reduceLE, Int.reduceEq, e53']]
          exact this
        · rw [if_neg q2]
          have hG : GoodK b n T S0 t0 ord p0 (jn 11 o (jn 12 a (trn par e))) p1 t1 (aimS S3 io) := ⟨hA4, hF4, hL4, by rw [e4]; exact ho4, by rw [e4]; omega, hl4, by omega, by omega, by rw [e4]; exact o4', h01'.b, hns'⟩
          rw [show z_ev X d (4, 107, L4 dp io ia kk (some (.int (Int32.ofInt (bI par)))) x8' 1, [], mk S2) = some (none, mk (aimS S3 io)) from by
            simp (disch := first | omega | assumption | exact b01_rng _ | exact st_5 | exact st_12 | exact st_19 | (simp only [isSt_sI, isSt_sJ, isSt_sF, isSt_sG, isSt_sA]; assumption)) only [↓B4_107, ↓B4_116, ↓B4_126, ↓B4_144, ↓B4_152, ↓B4_159, ↓B4_179, ↓B4_180, ↓B4_181, ↓o_37, ↓o_52, ↓o_53, ↓r_52_0, k17a, k17o, kn, kn4, i_lit, i_add, i_sub, i_mul, i_neg, i_lt, i_le, i_eq, i32_gI, i64_gJ, i32_id, i32_to, i64_to, sI_i32, sJ_i64, b01_t, b01_f, i32_b01, b01_0, ↓a_s0, ↓n_s0, ↓a_s1, ↓n_s1, Int.add_zero, t_lt, f_lt, t_le, f_le, t_eq, f_eq, true_and, and_true, false_and, and_false, and_self, ↓reduceIte, z_bool_of, or_true, true_or, or_false, false_or, Int.neg_neg, not_true_eq_false, not_false_eq_true, lg_lt, lg_le, lg_gt, lg_ge, lg_eq, j_lit, j_add, j_sub, j_mul, j_neg, j_eq, i64_id, ij, ji, z_rt, Nat.reduceEqDiff, Nat.reduceAdd, Int.reduceAdd, Int.reduceSub, Int.reduceMul, Int.reduceNeg, Int.reduceLT, Int.reduceLE, Int.reduceEq]
            rw [B4_11]
            simp (disch := first | omega | assumption | exact b01_rng _ | exact st_5 | exact st_12 | exact st_19 | (simp only [isSt_sI, isSt_sJ, isSt_sF, isSt_sG, isSt_sA]; assumption)) only [↓B4_187, i_lit, i_add, i_sub, i_mul, i_neg, i_lt, i_le, i_eq, i32_gI, i64_gJ, i32_id, i32_to, i64_to, sI_i32, sJ_i64, b01_t, b01_f, i32_b01, b01_0, ↓a_s0, ↓n_s0, ↓a_s1, ↓n_s1, Int.add_zero, t_lt, f_lt, t_le, f_le, t_eq, f_eq, true_and, and_true, false_and, and_false, and_self, ↓reduceIte, z_bool_of, or_true, true_or, or_false, false_or, Int.neg_neg, not_true_eq_false, not_false_eq_true, lg_lt, lg_le, lg_gt, lg_ge, lg_eq, j_lit, j_add, j_sub, j_mul, j_neg, j_eq, i64_id, ij, ji, z_rt, Nat.reduceEqDiff, Nat.reduceAdd, Int.reduceAdd, Int.reduceSub, Int.reduceMul, Int.reduceNeg, Int.reduceLT, Int.reduceLE, Int.reduceEq]]
          exact hG.out h01'
theorem test_al {X : zX} {d : Nat} (hd : 9 ≤ d) {b : Int → Int} {n : Int} {T : Nat} (hn : 0 ≤ n ∧ n ≤ 400) {ord dp : Int} (hdp : 0 ≤ dp ∧ dp ≤ 8) {Sm : Rdr} (hS : SmC X b n T (d - 1) dp ord Sm) {M : Option Rdr} (hM : (dp = 8 ∧ M = none) ∨ (dp < 8 ∧ ∃ f, M = some f ∧ TsC X b n T (d - 1) (dp + 1) ord f)) : TsC X b n T d dp ord (pTestS (tc b n) Sm M) := by
  intro S t p h hL hk
  have := test_row (X := X) (d := d) hd hn hdp hS hM (S0 := S) (t0 := t) (p0 := p) hk rfl 500 none none p t S 0 (-1) (-1) none none (by omega) h FrK.rf hL (fun _ _ => rfl) ⟨gI S 53 3, 0, 0, Nat.sub_self _, ⟨rfl, rfl, rfl⟩, ⟨rfl, rfl, rfl⟩⟩ (Nat.le_refl _) (Int.le_refl _) (fun _ w => by cases w) (fun _ w => by cases w) (by omega) (Int.le_refl _) (by omega) (by omega) (by omega)
  have e0 : z_ev X d (z_entry 4 [.ref 52, .ref 37, .int (Int32.ofInt dp)] (mk S)) = z_ev X d (4, 0, [some (.ref 52), some (.ref 37), some (.int (Int32.ofInt dp)), none, none, none, none, none, none], [], mk S) := rfl
  rw [e0, B4_0]
  exact this
theorem test_all {X : zX} {b : Int → Int} {n : Int} {T : Nat} (hn : 0 ≤ n ∧ n ≤ 400) {ord : Int} : ∀ (k d : Nat), 9 + 2 * k ≤ d → k ≤ 8 → TsC X b n T d (8 - k) ord (pTest (tc b n) (tv b n) ord k) := by
  intro k
  induction k with
  | zero => intro d hd hk; exact test_al (by omega) hn (by omega) (sum_all hn 0 (d - 1) (by omega) (by omega)) (Or.inl ⟨by omega, rfl⟩)
  | succ k ih =>
    intro d hd hk
    refine test_al (by omega) hn (by omega) (sum_all hn (k + 1) (d - 1) (by omega) (by omega)) (Or.inr ⟨by omega, _, rfl, ?_⟩)
    have := ih (d - 1) (by omega) (by omega)
    rwa [show (8 : Int) - ((k + 1 : Nat) : Int) + 1 = 8 - (k : Int) by omega]
