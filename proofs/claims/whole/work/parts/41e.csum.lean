/-! the class's loop over a sum -/
theorem wrS_lo {S : zS} {op ar : Int} {i : Int} (h : i < gI S 53 3) : IC (wrS S op ar) i = IC S i := by unfold IC; rw [wrS_c (by omega), wrS_o (a := 52) (by omega) (by omega)]
theorem fin_b {x : Wt} {e : Ev} (h : EB e) : EB (fin x e) := by
  cases x with
  | none => exact h
  | some y => exact eB_b
theorem fin_ns {x : Wt} {e : Ev} {z lo hi : Int} (hx : wOK x z lo hi) (hz : z = 0) (h : NS e) : NS (fin x e) := by
  cases x with
  | none => exact h
  | some y => exact NS.b ((hx y.1 y.2 rfl).2.2 hz) h
theorem wOK.mono {x : Wt} {z z' lo hi : Int} (h : wOK x z lo hi) (hz : z' = 0 → z = 0) : wOK x z' lo hi := fun op l q => ⟨(h op l q).1, (h op l q).2.1, fun w => (h op l q).2.2 (hz w)⟩
theorem sum_row {X : zX} {d : Nat} (hd : 8 ≤ d) {b : Int → Int} {n : Int} {T : Nat} (hn : 0 ≤ n ∧ n ≤ 400) {ord dp : Int} (hdp : 0 ≤ dp ∧ dp ≤ 8) {M : Option Rdr} (hM : (dp = 8 ∧ M = none) ∨ (dp < 8 ∧ ∃ f, M = some f ∧ SmC X b n T (d - 2) (dp + 1) ord f)) {S0 : zS} {t0 : Nat} {p0 : Nat × Int} (hk0 : 0 ≤ gI S0 53 3 ∧ gI S0 53 3 + T ≤ 436 + t0) : ∀ (m : Nat) (ad sc : Wt) (p : Nat × Int) (t : Nat) (S : zS) (kk : Int) (x7 : Option Value), 500 ≤ m + t → AlT S b n T t → FrK S0 S → LK S ord p → Low S0 S (gI S0 53 3) → WSg (IC S) (gI S0 53 3) (gI S 53 3) (p.1 - p0.1) ad sc → p0.1 ≤ p.1 → p0.2 ≤ p.2 → wOK ad p.2 2 3 → wOK sc p.2 4 6 → gI S 53 3 + wC ad + wC sc + t0 ≤ gI S0 53 3 + t → gI S0 53 3 ≤ gI S 53 3 → 0 ≤ kk → 2 * kk + t0 ≤ t → OutK b n T S0 t0 ord p0 (pSumL (tc b n) (pPart (tc b n) (tv b n) ord M) m ad sc p t) (z_ev X d (7, 11, [some (.ref 52), some (.ref 37), some (.int (Int32.ofInt dp)), some (.int (Int32.ofInt (wI ad))), some (.int (Int32.ofInt (wI sc))), some (.int (Int32.ofInt 1)), some (.int (Int32.ofInt kk)), x7], [], mk S)) (fun _ => True) := by
  intro m
  induction m with
  | zero =>
    intro ad sc p t S kk x7 h1 h2
    have := h2.1.2.2
    have := h2.1.1.2.2.1
    omega
  | succ m ih =>
    intro ad sc p t S kk x7 h1 h hF hL hlow hW hp1 hp2 had hsc hbd hk1 hkk hkt
    have hT4 := h.1.1.2.2.1
    have htT := h.1.2.2
    have w0 : ∀ x : Wt, wC x = 0 ∨ wC x = 1 := fun x => by cases x with | none => exact Or.inl rfl | some y => exact Or.inr rfl
    have wa := w0 ad
    have ws := w0 sc
    have hadI : -1 ≤ wI ad ∧ wI ad < 16 := by
      cases ad with
      | none => show -1 ≤ (-1 : Int) ∧ (-1 : Int) < 16; omega
      | some y => have := had y.1 y.2 rfl; show -1 ≤ y.1 ∧ y.1 < 16; omega
    have hscI : -1 ≤ wI sc ∧ wI sc < 16 := by
      cases sc with
      | none => show -1 ≤ (-1 : Int) ∧ (-1 : Int) < 16; omega
      | some y => have := hsc y.1 y.2 rfl; show -1 ≤ y.1 ∧ y.1 < 16; omega
    have hP := part_al (X := X) (d := d - 1) (by omega) hn h hL (by omega) hdp (M := M) (by rw [show d - 1 - 1 = d - 2 by omega]; exact hM)
    have eP : pSumL (tc b n) (pPart (tc b n) (tv b n) ord M) (m + 1) ad sc p t = (match pPart (tc b n) (tv b n) ord M p t with
      | .inl e => .inl e
      | .inr (e, p1, t1) =>
        if scl (tc b n t1) ≠ -1 then pSumL (tc b n) (pPart (tc b n) (tv b n) ord M) m ad (some (scl (tc b n t1), fin sc e)) p1 (t1 + 1)
        else if add (tc b n t1) ≠ -1 then pSumL (tc b n) (pPart (tc b n) (tv b n) ord M) m (some (add (tc b n t1), fin ad (fin sc e))) none p1 (t1 + 1)
        else .inr (fin ad (fin sc e), p1, t1)) := rfl
    rw [eP]
    cases hp : pPart (tc b n) (tv b n) ord M p t with
    | inl e =>
      rw [hp] at hP
      obtain ⟨S1, t', a1, a2, a3, a4⟩ := hP
      have k9 : ∀ {cm cp : Nat} {L : zL} {s : List Value}, z_evc X d 9 [.ref 52, .ref 37, .int (Int32.ofInt dp)] (cm, cp, L, s, mk S) = z_ev X d (cm, cp, L, s, mk S1) := fun {cm cp L s} => z_evc_of (r := (none, mk S1)) (ck := (cm, cp, L, s, mk S)) (show d - 1 < d by omega) a1
      obtain ⟨S2, b1, b2⟩ := dead_sumtail (X := X) (d := d) (by omega) (dp := dp) (ad := wI ad) (sc := wI sc) (k := kk) (x7 := x7) a2 a4 hdp hadI hscI (by omega)
      refine ⟨S2, t', ?_, b2.1, (hF.tr a3).tr b2.2.1, b2.2.2⟩
      rw [← b1, B7_11]
      simp (disch := first | omega | assumption | exact b01_rng _ | exact st_5 | exact st_12 | exact st_19 | (simp only [isSt_sI, isSt_sJ, isSt_sF, isSt_sG, isSt_sA]; assumption)) only [↓B7_16, ↓B7_24, ↓o_37, ↓o_52, ↓o_53, ↓r_37_4, ↓r_52_0, k9, i_lit, i_add, i_sub, i_mul, i_neg, i_lt, i_le, i_eq, i32_gI, i64_gJ, i32_id, i32_to, i64_to, sI_i32, sJ_i64, b01_t, b01_f, i32_b01, b01_0, ↓a_s0, ↓n_s0, ↓a_s1, ↓n_s1, Int.add_zero, t_lt, f_lt, t_le, f_le, t_eq, f_eq, true_and, and_true, false_and, and_false, and_self, ↓reduceIte, z_bool_of, or_true, true_or, or_false, false_or, Int.neg_neg, not_true_eq_false, not_false_eq_true, lg_lt, lg_le, lg_gt, lg_ge, lg_eq, j_lit, j_add, j_sub, j_mul, j_neg, j_eq, i64_id, ij, ji, z_rt, Nat.reduceEqDiff, Nat.reduceAdd, Int.reduceAdd, Int.reduceSub, Int.reduceMul, Int.reduceNeg, Int.reduceLT, Int.reduceLE, Int.reduceEq]
    | inr x =>
      obtain ⟨e, p1, t1⟩ := x
      rw [hp] at hP
      obtain ⟨S1, a1, a2, a3, a4, a5, a6, a7, a8, a9, a10, a11, a12, -⟩ := hP
      have k9 : ∀ {cm cp : Nat} {L : zL} {s : List Value}, z_evc X d 9 [.ref 52, .ref 37, .int (Int32.ofInt dp)] (cm, cp, L, s, mk S) = z_ev X d (cm, cp, L, s, mk S1) := fun {cm cp L s} => z_evc_of (r := (none, mk S1)) (ck := (cm, cp, L, s, mk S)) (show d - 1 < d by omega) a1
      have ht1T := a2.1.2.2
      obtain ⟨-, -, -, l4, -, l6⟩ := id a4
      have hz : p1.2 = 0 → p.2 = 0 := fun w => by have := hL.2.2.2.2.2; omega
      have hpart := hW.part (fun i hi => a7.ic (a4.1.trans hL.1.symm) hi) a10
      -- the sign that waits for a part
      have st2 : ∃ S2 : zS, z_ev X d (7, 11, [some (.ref 52), some (.ref 37), some (.int (Int32.ofInt dp)), some (.int (Int32.ofInt (wI ad))), some (.int (Int32.ofInt (wI sc))), some (.int (Int32.ofInt 1)), some (.int (Int32.ofInt kk)), x7], [], mk S) = z_ev X d (7, 47, [some (.ref 52), some (.ref 37), some (.int (Int32.ofInt dp)), some (.int (Int32.ofInt (wI ad))), some (.int (Int32.ofInt (wI sc))), some (.int (Int32.ofInt 1)), some (.int (Int32.ofInt kk)), x7], [], mk S2) ∧ AlT S2 b n T t1 ∧ FrK S0 S2 ∧ LK S2 ord p1 ∧ Low S0 S2 (gI S0 53 3) ∧ gI S2 53 3 = gI S1 53 3 + wC sc ∧ WA (IC S2) (gI S0 53 3) (gI S2 53 3) (p1.1 - p0.1) ad (fin sc e) := by
        cases sc with
        | none =>
          have ew : wC none = 0 := rfl
          refine ⟨S1, ?_, a2, hF.tr a3, a4, fun i hi => (a7 i (by omega)).trans (hlow i hi), by rw [ew]; omega, ?_⟩
          · have ei : wI none = -1 := rfl
            rw [B7_11]
            simp (disch := first | omega | assumption | exact b01_rng _ | exact st_5 | exact st_12 | exact st_19 | (simp only [isSt_sI, isSt_sJ, isSt_sF, isSt_sG, isSt_sA]; assumption)) only [↓B7_16, ↓B7_24, ↓B7_30, ↓o_37, ↓o_52, ↓o_53, ↓r_37_4, ↓r_52_0, k9, i_lit, i_add, i_sub, i_mul, i_neg, i_lt, i_le, i_eq, i32_gI, i64_gJ, i32_id, i32_to, i64_to, sI_i32, sJ_i64, b01_t, b01_f, i32_b01, b01_0, ↓a_s0, ↓n_s0, ↓a_s1, ↓n_s1, Int.add_zero, t_lt, f_lt, t_le, f_le, t_eq, f_eq, true_and, and_true, false_and, and_false, and_self, ↓reduceIte, z_bool_of, or_true, true_or, or_false, false_or, Int.neg_neg, not_true_eq_false, not_false_eq_true, lg_lt, lg_le, lg_gt, lg_ge, lg_eq, j_lit, j_add, j_sub, j_mul, j_neg, j_eq, i64_id, ij, ji, z_rt, Nat.reduceEqDiff, Nat.reduceAdd, Int.reduceAdd, Int.reduceSub, Int.reduceMul, Int.reduceNeg, Int.reduceLT, Int.reduceLE, Int.reduceEq, ei]
          · have := hpart.1 rfl
            rw [show p.1 - p0.1 + (p1.1 - p.1) = p1.1 - p0.1 by omega] at this
            exact this
        | some y =>
          obtain ⟨op, l⟩ := y
          obtain ⟨o1, o2, o3⟩ := hsc op l rfl
          have ew : wC (some (op, l)) = 1 := rfl
          have ei : wI (some (op, l)) = op := rfl
          have k16 := fun {cm cp : Nat} {L : zL} {s : List Value} => c16a (X := X) (d := d) (S := S1) (by omega) op 0 (by omega) (by omega) (by omega) (cm := cm) (cp := cp) (L := L) (st := s)
          refine ⟨wrS S1 op 0, ?_, a2.fr (fun a i q => wrS_o (by omega) (by omega)), (hF.tr a3).tr FrK.wr, a4.fr (wrS_o (by omega) (by omega)) (wrS_o (by omega) (by omega)) (wrS_o (by omega) (by omega)), fun i hi => by rw [wrS_c (by omega)]; exact (a7 i (by omega)).trans (hlow i hi), by rw [wrS_k (by omega), ew], ?_⟩
          · rw [B7_11]
            simp (disch := first | omega | assumption | exact b01_rng _ | exact st_5 | exact st_12 | exact st_19 | (simp only [isSt_sI, isSt_sJ, isSt_sF, isSt_sG, isSt_sA]; assumption)) only [↓B7_16, ↓B7_24, ↓B7_30, ↓B7_36, ↓B7_46, ↓o_37, ↓o_52, ↓o_53, ↓r_37_4, ↓r_52_0, k9, k16, i_lit, i_add, i_sub, i_mul, i_neg, i_lt, i_le, i_eq, i32_gI, i64_gJ, i32_id, i32_to, i64_to, sI_i32, sJ_i64, b01_t, b01_f, i32_b01, b01_0, ↓a_s0, ↓n_s0, ↓a_s1, ↓n_s1, Int.add_zero, t_lt, f_lt, t_le, f_le, t_eq, f_eq, true_and, and_true, false_and, and_false, and_self, ↓reduceIte, z_bool_of, or_true, true_or, or_false, false_or, Int.neg_neg, not_true_eq_false, not_false_eq_true, lg_lt, lg_le, lg_gt, lg_ge, lg_eq, j_lit, j_add, j_sub, j_mul, j_neg, j_eq, i64_id, ij, ji, z_rt, Nat.reduceEqDiff, Nat.reduceAdd, Int.reduceAdd, Int.reduceSub, Int.reduceMul, Int.reduceNeg, Int.reduceLT, Int.reduceLE, Int.reduceEq, ei]
          · have := hpart.2 op l rfl (by omega) (IC (wrS S1 op 0)) (fun i hi => wrS_lo hi) 0 (wrS_i (by omega) (by omega) (by omega))
            rw [show p.1 - p0.1 + (p1.1 - p.1) = p1.1 - p0.1 by omega] at this
            rw [wrS_k (by omega)]
            exact this
      obtain ⟨S2, g1, g2, g3, g4, g5, g6, g7⟩ := st2
      rw [g1]
      have k91 := fun {cm cp : Nat} {L : zL} {s : List Value} => a91 (X := X) (d := d) (S := S2) (by omega) b n T t1 g2.1.1 g2.1.2.2 (cm := cm) (cp := cp) (L := L) (st := s)
      have h4 := g2.1.2.1
      have hr := g2.1.1.rg g2.1.2.2
      have hsr := scl_rng (tc b n t1)
      have har := add_rng (tc b n t1)
      simp only []
      by_cases q : scl (tc b n t1) = -1
      · rw [if_neg (by omega)]
        -- the sign that waits for a term
        have st3 : ∃ S3 : zS, z_ev X d (7, 47, [some (.ref 52), some (.ref 37), some (.int (Int32.ofInt dp)), some (.int (Int32.ofInt (wI ad))), some (.int (Int32.ofInt (wI sc))), some (.int (Int32.ofInt 1)), some (.int (Int32.ofInt kk)), x7], [], mk S2) = z_ev X d (7, 109, [some (.ref 52), some (.ref 37), some (.int (Int32.ofInt dp)), some (.int (Int32.ofInt (add (tc b n t1)))), some (.int (Int32.ofInt (-1))), some (.int (Int32.ofInt 1)), some (.int (Int32.ofInt kk)), some (.int (Int32.ofInt (tc b n t1)))], [], mk S3) ∧ AlT S3 b n T t1 ∧ FrK S0 S3 ∧ LK S3 ord p1 ∧ Low S0 S3 (gI S0 53 3) ∧ gI S3 53 3 = gI S2 53 3 + wC ad ∧ Seg (IC S3) (gI S0 53 3) (gI S3 53 3) (p1.1 - p0.1) (fin ad (fin sc e)) := by
          have ev : ∀ (S3 : zS) (x4 : Int), z_ev X d (7, 85, [some (.ref 52), some (.ref 37), some (.int (Int32.ofInt dp)), some (.int (Int32.ofInt x4)), some (.int (Int32.ofInt (-1))), some (.int (Int32.ofInt 1)), some (.int (Int32.ofInt kk)), some (.int (Int32.ofInt (tc b n t1)))], [], mk S3) = z_ev X d (7, 109, [some (.ref 52), some (.ref 37), some (.int (Int32.ofInt dp)), some (.int (Int32.ofInt (add (tc b n t1)))), some (.int (Int32.ofInt (-1))), some (.int (Int32.ofInt 1)), some (.int (Int32.ofInt kk)), some (.int (Int32.ofInt (tc b n t1)))], [], mk S3) := by
            intro S3 x4
            by_cases q1 : tc b n t1 = 43
            · have ea : add (tc b n t1) = 2 := by unfold add; rw [if_pos q1]
              simp (disch := first | omega | assumption | exact b01_rng _ | exact st_5 | exact st_12 | exact st_19 | (simp only [isSt_sI, isSt_sJ, isSt_sF, isSt_sG, isSt_sA]; assumption)) only [↓B7_85, ↓B7_92, ↓B7_108, i_lit, i_add, i_sub, i_mul, i_neg, i_lt, i_le, i_eq, i32_gI, i64_gJ, i32_id, i32_to, i64_to, sI_i32, sJ_i64, b01_t, b01_f, i32_b01, b01_0, ↓a_s0, ↓n_s0, ↓a_s1, ↓n_s1, Int.add_zero, t_lt, f_lt, t_le, f_le, t_eq, f_eq, true_and, and_true, false_and, and_false, and_self, ↓reduceIte, z_bool_of, or_true, true_or, or_false, false_or, Int.neg_neg, not_true_eq_false, not_false_eq_true, lg_lt, lg_le, lg_gt, lg_ge, lg_eq, j_lit, j_add, j_sub, j_mul, j_neg, j_eq, i64_id, ij, ji, z_rt, Nat.reduceEqDiff, Nat.reduceAdd, Int.reduceAdd, Int.reduceSub, Int.reduceMul, Int.reduceNeg, Int.reduceLT, Int.reduceLE, Int.reduceEq, ea]
            · by_cases q2 : tc b n t1 = 45
              · have ea : add (tc b n t1) = 3 := by unfold add; rw [if_neg q1, if_pos q2]
                simp (disch := first | omega | assumption | exact b01_rng _ | exact st_5 | exact st_12 | exact st_19 | (simp only [isSt_sI, isSt_sJ, isSt_sF, isSt_sG, isSt_sA]; assumption)) only [↓B7_85, ↓B7_96, ↓B7_103, ↓B7_108, i_lit, i_add, i_sub, i_mul, i_neg, i_lt, i_le, i_eq, i32_gI, i64_gJ, i32_id, i32_to, i64_to, sI_i32, sJ_i64, b01_t, b01_f, i32_b01, b01_0, ↓a_s0, ↓n_s0, ↓a_s1, ↓n_s1, Int.add_zero, t_lt, f_lt, t_le, f_le, t_eq, f_eq, true_and, and_true, false_and, and_false, and_self, ↓reduceIte, z_bool_of, or_true, true_or, or_false, false_or, Int.neg_neg, not_true_eq_false, not_false_eq_true, lg_lt, lg_le, lg_gt, lg_ge, lg_eq, j_lit, j_add, j_sub, j_mul, j_neg, j_eq, i64_id, ij, ji, z_rt, Nat.reduceEqDiff, Nat.reduceAdd, Int.reduceAdd, Int.reduceSub, Int.reduceMul, Int.reduceNeg, Int.reduceLT, Int.reduceLE, Int.reduceEq, ea]
              · have ea : add (tc b n t1) = -1 := by unfold add; rw [if_neg q1, if_neg q2]
                simp (disch := first | omega | assumption | exact b01_rng _ | exact st_5 | exact st_12 | exact st_19 | (simp only [isSt_sI, isSt_sJ, isSt_sF, isSt_sG, isSt_sA]; assumption)) only [↓B7_85, ↓B7_96, ↓B7_107, ↓B7_108, i_lit, i_add, i_sub, i_mul, i_neg, i_lt, i_le, i_eq, i32_gI, i64_gJ, i32_id, i32_to, i64_to, sI_i32, sJ_i64, b01_t, b01_f, i32_b01, b01_0, ↓a_s0, ↓n_s0, ↓a_s1, ↓n_s1, Int.add_zero, t_lt, f_lt, t_le, f_le, t_eq, f_eq, true_and, and_true, false_and, and_false, and_self, ↓reduceIte, z_bool_of, or_true, true_or, or_false, false_or, Int.neg_neg, not_true_eq_false, not_false_eq_true, lg_lt, lg_le, lg_gt, lg_ge, lg_eq, j_lit, j_add, j_sub, j_mul, j_neg, j_eq, i64_id, ij, ji, z_rt, Nat.reduceEqDiff, Nat.reduceAdd, Int.reduceAdd, Int.reduceSub, Int.reduceMul, Int.reduceNeg, Int.reduceLT, Int.reduceLE, Int.reduceEq, ea, q1, q2]
          have hterm := g7.term
          cases ad with
          | none =>
            have ew : wC none = 0 := rfl
            have ei : wI none = -1 := rfl
            refine ⟨S2, ?_, g2, g3, g4, g5, by rw [ew]; omega, hterm.1 rfl⟩
            rw [← ev S2 (-1)]
            simp (disch := first | omega | assumption | exact b01_rng _ | exact st_5 | exact st_12 | exact st_19 | (simp only [isSt_sI, isSt_sJ, isSt_sF, isSt_sG, isSt_sA]; assumption)) only [↓B7_47, ↓B7_55, ↓B7_62, ↓B7_70, ↓o_37, ↓o_52, ↓o_53, ↓r_37_4, ↓r_52_0, k91, c8, i_lit, i_add, i_sub, i_mul, i_neg, i_lt, i_le, i_eq, i32_gI, i64_gJ, i32_id, i32_to, i64_to, sI_i32, sJ_i64, b01_t, b01_f, i32_b01, b01_0, ↓a_s0, ↓n_s0, ↓a_s1, ↓n_s1, Int.add_zero, t_lt, f_lt, t_le, f_le, t_eq, f_eq, true_and, and_true, false_and, and_false, and_self, ↓reduceIte, z_bool_of, or_true, true_or, or_false, false_or, Int.neg_neg, not_true_eq_false, not_false_eq_true, lg_lt, lg_le, lg_gt, lg_ge, lg_eq, j_lit, j_add, j_sub, j_mul, j_neg, j_eq, i64_id, ij, ji, z_rt, Nat.reduceEqDiff, Nat.reduceAdd, Int.reduceAdd, Int.reduceSub, Int.reduceMul, Int.reduceNeg, Int.reduceLT, Int.reduceLE, Int.reduceEq, h4, q, ei]
          | some y =>
            obtain ⟨op, l⟩ := y
            obtain ⟨o1, o2, o3⟩ := had op l rfl
            have ew : wC (some (op, l)) = 1 := rfl
            have ei : wI (some (op, l)) = op := rfl
            have k16 := fun {cm cp : Nat} {L : zL} {s : List Value} => c16a (X := X) (d := d) (S := S2) (by omega) op 0 (by omega) (by omega) (by omega) (cm := cm) (cp := cp) (L := L) (st := s)
            refine ⟨wrS S2 op 0, ?_, g2.fr (fun a i q => wrS_o (by omega) (by omega)), g3.tr FrK.wr, g4.fr (wrS_o (by omega) (by omega)) (wrS_o (by omega) (by omega)) (wrS_o (by omega) (by omega)), fun i hi => by rw [wrS_c (by omega)]; exact g5 i hi, by rw [wrS_k (by omega), ew], ?_⟩
            · rw [← ev (wrS S2 op 0) op]
              simp (disch := first | omega | assumption | exact b01_rng _ | exact st_5 | exact st_12 | exact st_19 | (simp only [isSt_sI, isSt_sJ, isSt_sF, isSt_sG, isSt_sA]; assumption)) only [↓B7_47, ↓B7_55, ↓B7_62, ↓B7_70, ↓B7_75, ↓B7_84, ↓o_37, ↓o_52, ↓o_53, ↓r_37_4, ↓r_52_0, k91, c8, k16, i_lit, i_add, i_sub, i_mul, i_neg, i_lt, i_le, i_eq, i32_gI, i64_gJ, i32_id, i32_to, i64_to, sI_i32, sJ_i64, b01_t, b01_f, i32_b01, b01_0, ↓a_s0, ↓n_s0, ↓a_s1, ↓n_s1, Int.add_zero, t_lt, f_lt, t_le, f_le, t_eq, f_eq, true_and, and_true, false_and, and_false, and_self, ↓reduceIte, z_bool_of, or_true, true_or, or_false, false_or, Int.neg_neg, not_true_eq_false, not_false_eq_true, lg_lt, lg_le, lg_gt, lg_ge, lg_eq, j_lit, j_add, j_sub, j_mul, j_neg, j_eq, i64_id, ij, ji, z_rt, Nat.reduceEqDiff, Nat.reduceAdd, Int.reduceAdd, Int.reduceSub, Int.reduceMul, Int.reduceNeg, Int.reduceLT, Int.reduceLE, Int.reduceEq, h4, q, ei]
            · have := hterm.2 op l rfl (by omega) (IC (wrS S2 op 0)) (fun i hi => wrS_lo hi) 0 (wrS_i (by omega) (by omega) (by omega))
              rw [wrS_k (by omega)]
              exact this
        obtain ⟨S3, f1, f2, f3, f4, f5, f6, f7⟩ := st3
        rw [f1]
        have hfb : EB (fin ad (fin sc e)) := fin_b (fin_b a11)
        have hfn : p1.2 = 0 → NS (fin ad (fin sc e)) := fun w => fin_ns (had.mono hz) w (fin_ns (hsc.mono hz) w (a12 w))
        by_cases q2 : add (tc b n t1) = -1
        · rw [if_neg (by omega)]
          have hG : GoodK b n T S0 t0 ord p0 (fin ad (fin sc e)) p1 t1 S3 := ⟨f2, f3, f4, f7.1, by omega, f5, by omega, by omega, f7, hfb, hfn⟩
          rw [show z_ev X d (7, 109, [some (.ref 52), some (.ref 37), some (.int (Int32.ofInt dp)), some (.int (Int32.ofInt (add (tc b n t1)))), some (.int (Int32.ofInt (-1))), some (.int (Int32.ofInt 1)), some (.int (Int32.ofInt kk)), some (.int (Int32.ofInt (tc b n t1)))], [], mk S3) = some (none, mk S3) from by
            simp (disch := first | omega | assumption | exact b01_rng _ | exact st_5 | exact st_12 | exact st_19 | (simp only [isSt_sI, isSt_sJ, isSt_sF, isSt_sG, isSt_sA]; assumption)) only [↓B7_109, ↓B7_115, ↓B7_133, ↓B7_134, i_lit, i_add, i_sub, i_mul, i_neg, i_lt, i_le, i_eq, i32_gI, i64_gJ, i32_id, i32_to, i64_to, sI_i32, sJ_i64, b01_t, b01_f, i32_b01, b01_0, ↓a_s0, ↓n_s0, ↓a_s1, ↓n_s1, Int.add_zero, t_lt, f_lt, t_le, f_le, t_eq, f_eq, true_and, and_true, false_and, and_false, and_self, ↓reduceIte, z_bool_of, or_true, true_or, or_false, false_or, Int.neg_neg, not_true_eq_false, not_false_eq_true, lg_lt, lg_le, lg_gt, lg_ge, lg_eq, j_lit, j_add, j_sub, j_mul, j_neg, j_eq, i64_id, ij, ji, z_rt, Nat.reduceEqDiff, Nat.reduceAdd, Int.reduceAdd, Int.reduceSub, Int.reduceMul, Int.reduceNeg, Int.reduceLT, Int.reduceLE, Int.reduceEq, q2]
            rw [B7_11]
            simp (disch := first | omega | assumption | exact b01_rng _ | exact st_5 | exact st_12 | exact st_19 | (simp only [isSt_sI, isSt_sJ, isSt_sF, isSt_sG, isSt_sA]; assumption)) only [↓B7_142, i_lit, i_add, i_sub, i_mul, i_neg, i_lt, i_le, i_eq, i32_gI, i64_gJ, i32_id, i32_to, i64_to, sI_i32, sJ_i64, b01_t, b01_f, i32_b01, b01_0, ↓a_s0, ↓n_s0, ↓a_s1, ↓n_s1, Int.add_zero, t_lt, f_lt, t_le, f_le, t_eq, f_eq, true_and, and_true, false_and, and_false, and_self, ↓reduceIte, z_bool_of, or_true, true_or, or_false, false_or, Int.neg_neg, not_true_eq_false, not_false_eq_true, lg_lt, lg_le, lg_gt, lg_ge, lg_eq, j_lit, j_add, j_sub, j_mul, j_neg, j_eq, i64_id, ij, ji, z_rt, Nat.reduceEqDiff, Nat.reduceAdd, Int.reduceAdd, Int.reduceSub, Int.reduceMul, Int.reduceNeg, Int.reduceLT, Int.reduceLE, Int.reduceEq]]
          exact hG.out trivial
        · rw [if_pos (by omega)]
          have hne : tc b n t1 ≠ 301 := by
            intro w; apply q2; unfold add; rw [if_neg (by omega), if_neg (by omega)]
          have ht1 := g2.lt hne
          have kc := fun {cm cp : Nat} {L : zL} {s : List Value} => a93c (X := X) (d := d) (by omega) f2 (c := tc b n t1) rfl hne (cm := cm) (cp := cp) (L := L) (st := s)
          have e54 : ∀ i, gI (sI S3 37 4 (t1 + 1 : Nat)) 54 i = gI S3 54 i := fun i => by (repeat (first | rw [gI_sI, if_neg (by omega)] | rw [gI_sF, if_neg (by omega)] | rw [gI_sJ] | rw [gI_sG] | rw [gI_sQ]))
          have eI : IC (sI S3 37 4 (t1 + 1 : Nat)) = IC S3 := IC_fr e54 (by (repeat (first | rw [gI_sI, if_neg (by omega)] | rw [gI_sF, if_neg (by omega)] | rw [gI_sJ] | rw [gI_sG] | rw [gI_sQ])))
          have e53 : gI (sI S3 37 4 (t1 + 1 : Nat)) 53 3 = gI S3 53 3 := by (repeat (first | rw [gI_sI, if_neg (by omega)] | rw [gI_sF, if_neg (by omega)] | rw [gI_sJ] | rw [gI_sG] | rw [gI_sQ]))
          have := ih (some (add (tc b n t1), fin ad (fin sc e))) none p1 (t1 + 1) (sI S3 37 4 (t1 + 1 : Nat)) (kk + 1) (some (.int (Int32.ofInt (tc b n t1)))) (by omega) (f2.go (by omega)) (f3.tr (FrK.I (by omega))) (f4.fr (by (repeat (first | rw [gI_sI, if_neg (by omega)] | rw [gI_sF, if_neg (by omega)] | rw [gI_sJ] | rw [gI_sG] | rw [gI_sQ]))) (by (repeat (first | rw [gI_sI, if_neg (by omega)] | rw [gI_sF, if_neg (by omega)] | rw [gI_sJ] | rw [gI_sG] | rw [gI_sQ]))) (by (repeat (first | rw [gI_sI, if_neg (by omega)] | rw [gI_sF, if_neg (by omega)] | rw [gI_sJ] | rw [gI_sG] | rw [gI_sQ])))) (fun i hi => by rw [e54]; exact f5 i hi) (by rw [eI, e53]; exact f7) (by omega) (by omega) (fun op l w => by cases w; exact ⟨by omega, by omega, hfn⟩) (fun op l w => by cases w) (by rw [e53]; show _ + 1 + 0 + _ ≤ _; omega) (by rw [e53]; have := f7.1; omega) (by omega) (by omega)
          rw [show z_ev X d (7, 109, [some (.ref 52), some (.ref 37), some (.int (Int32.ofInt dp)), some (.int (Int32.ofInt (add (tc b n t1)))), some (.int (Int32.ofInt (-1))), some (.int (Int32.ofInt 1)), some (.int (Int32.ofInt kk)), some (.int (Int32.ofInt (tc b n t1)))], [], mk S3) = z_ev X d (7, 11, [some (.ref 52), some (.ref 37), some (.int (Int32.ofInt dp)), some (.int (Int32.ofInt (wI (some (add (tc b n t1), fin ad (fin sc e)))))), some (.int (Int32.ofInt (wI none))), some (.int (Int32.ofInt 1)), some (.int (Int32.ofInt (kk + 1))), some (.int (Int32.ofInt (tc b n t1)))], [], mk (sI S3 37 4 (t1 + 1 : Nat))) from by
            have ei : wI none = -1 := rfl
            have ei2 : wI (some (add (tc b n t1), fin ad (fin sc e))) = add (tc b n t1) := rfl
            simp (disch := first | omega | assumption | exact b01_rng _ | exact st_5 | exact st_12 | exact st_19 | (simp only [isSt_sI, isSt_sJ, isSt_sF, isSt_sG, isSt_sA]; assumption)) only [↓B7_109, ↓B7_115, ↓B7_120, ↓B7_126, ↓B7_129, ↓B7_134, ↓o_37, ↓o_52, ↓o_53, ↓r_37_4, ↓r_52_0, kc, i_lit, i_add, i_sub, i_mul, i_neg, i_lt, i_le, i_eq, i32_gI, i64_gJ, i32_id, i32_to, i64_to, sI_i32, sJ_i64, b01_t, b01_f, i32_b01, b01_0, ↓a_s0, ↓n_s0, ↓a_s1, ↓n_s1, Int.add_zero, t_lt, f_lt, t_le, f_le, t_eq, f_eq, true_and, and_true, false_and, and_false, and_self, ↓reduceIte, z_bool_of, or_true, true_or, or_false, false_or, Int.neg_neg, not_true_eq_false, not_false_eq_true, lg_lt, lg_le, lg_gt, lg_ge, lg_eq, j_lit, j_add, j_sub, j_mul, j_neg, j_eq, i64_id, ij, ji, z_rt, Nat.reduceEqDiff, Nat.reduceAdd, Int.reduceAdd, Int.reduceSub, Int.reduceMul, Int.reduceNeg, Int.reduceLT, Int.reduceLE, Int.reduceEq, q2, ei, ei2]]
          exact this
      · rw [if_pos (by omega)]
        have hne : tc b n t1 ≠ 301 := by
          intro w; apply q; unfold scl; rw [if_neg (by omega), if_neg (by omega), if_neg (by omega)]
        have ht1 := g2.lt hne
        have kc := fun {cm cp : Nat} {L : zL} {s : List Value} => a93c (X := X) (d := d) (by omega) g2 (c := tc b n t1) rfl hne (cm := cm) (cp := cp) (L := L) (st := s)
        have e54 : ∀ i, gI (sI S2 37 4 (t1 + 1 : Nat)) 54 i = gI S2 54 i := fun i => by (repeat (first | rw [gI_sI, if_neg (by omega)] | rw [gI_sF, if_neg (by omega)] | rw [gI_sJ] | rw [gI_sG] | rw [gI_sQ]))
        have eI : IC (sI S2 37 4 (t1 + 1 : Nat)) = IC S2 := IC_fr e54 (by (repeat (first | rw [gI_sI, if_neg (by omega)] | rw [gI_sF, if_neg (by omega)] | rw [gI_sJ] | rw [gI_sG] | rw [gI_sQ])))
        have e53 : gI (sI S2 37 4 (t1 + 1 : Nat)) 53 3 = gI S2 53 3 := by (repeat (first | rw [gI_sI, if_neg (by omega)] | rw [gI_sF, if_neg (by omega)] | rw [gI_sJ] | rw [gI_sG] | rw [gI_sQ]))
        have := ih ad (some (scl (tc b n t1), fin sc e)) p1 (t1 + 1) (sI S2 37 4 (t1 + 1 : Nat)) (kk + 1) (some (.int (Int32.ofInt (tc b n t1)))) (by omega) (g2.go (by omega)) (g3.tr (FrK.I (by omega))) (g4.fr (by (repeat (first | rw [gI_sI, if_neg (by omega)] | rw [gI_sF, if_neg (by omega)] | rw [gI_sJ] | rw [gI_sG] | rw [gI_sQ]))) (by (repeat (first | rw [gI_sI, if_neg (by omega)] | rw [gI_sF, if_neg (by omega)] | rw [gI_sJ] | rw [gI_sG] | rw [gI_sQ]))) (by (repeat (first | rw [gI_sI, if_neg (by omega)] | rw [gI_sF, if_neg (by omega)] | rw [gI_sJ] | rw [gI_sG] | rw [gI_sQ])))) (fun i hi => by rw [e54]; exact g5 i hi) (by rw [eI, e53]; exact g7) (by omega) (by omega) (had.mono hz) (fun op l w => by cases w; exact ⟨by omega, by omega, fun w => fin_ns (hsc.mono hz) w (a12 w)⟩) (by rw [e53]; show _ + _ + 1 + _ ≤ _; omega) (by rw [e53]; omega) (by omega) (by omega)
        rw [show z_ev X d (7, 47, [some (.ref 52), some (.ref 37), some (.int (Int32.ofInt dp)), some (.int (Int32.ofInt (wI ad))), some (.int (Int32.ofInt (wI sc))), some (.int (Int32.ofInt 1)), some (.int (Int32.ofInt kk)), x7], [], mk S2) = z_ev X d (7, 11, [some (.ref 52), some (.ref 37), some (.int (Int32.ofInt dp)), some (.int (Int32.ofInt (wI ad))), some (.int (Int32.ofInt (wI (some (scl (tc b n t1), fin sc e))))), some (.int (Int32.ofInt 1)), some (.int (Int32.ofInt (kk + 1))), some (.int (Int32.ofInt (tc b n t1)))], [], mk (sI S2 37 4 (t1 + 1 : Nat))) from by
          have ei2 : wI (some (scl (tc b n t1), fin sc e)) = scl (tc b n t1) := rfl
          simp (disch := first | omega | assumption | exact b01_rng _ | exact st_5 | exact st_12 | exact st_19 | (simp only [isSt_sI, isSt_sJ, isSt_sF, isSt_sG, isSt_sA]; assumption)) only [↓B7_47, ↓B7_55, ↓B7_62, ↓B7_109, ↓B7_120, ↓B7_126, ↓B7_129, ↓B7_134, ↓o_37, ↓o_52, ↓o_53, ↓r_37_4, ↓r_52_0, k91, c8, kc, i_lit, i_add, i_sub, i_mul, i_neg, i_lt, i_le, i_eq, i32_gI, i64_gJ, i32_id, i32_to, i64_to, sI_i32, sJ_i64, b01_t, b01_f, i32_b01, b01_0, ↓a_s0, ↓n_s0, ↓a_s1, ↓n_s1, Int.add_zero, t_lt, f_lt, t_le, f_le, t_eq, f_eq, true_and, and_true, false_and, and_false, and_self, ↓reduceIte, z_bool_of, or_true, true_or, or_false, false_or, Int.neg_neg, not_true_eq_false, not_false_eq_true, lg_lt, lg_le, lg_gt, lg_ge, lg_eq, j_lit, j_add, j_sub, j_mul, j_neg, j_eq, i64_id, ij, ji, z_rt, Nat.reduceEqDiff, Nat.reduceAdd, Int.reduceAdd, Int.reduceSub, Int.reduceMul, Int.reduceNeg, Int.reduceLT, Int.reduceLE, Int.reduceEq, h4, q, ei2]]
        exact this
theorem sum_al {X : zX} {d : Nat} (hd : 8 ≤ d) {b : Int → Int} {n : Int} {T : Nat} (hn : 0 ≤ n ∧ n ≤ 400) {ord dp : Int} (hdp : 0 ≤ dp ∧ dp ≤ 8) {M : Option Rdr} (hM : (dp = 8 ∧ M = none) ∨ (dp < 8 ∧ ∃ f, M = some f ∧ SmC X b n T (d - 2) (dp + 1) ord f)) : SmC X b n T d dp ord (pSumS (tc b n) (tv b n) ord M) := by
  intro S t p h hL hk
  have := sum_row (X := X) (d := d) hd hn hdp hM (S0 := S) (t0 := t) (p0 := p) hk 500 none none p t S 0 none (by omega) h FrK.rf hL (fun _ _ => rfl) ⟨rfl, Nat.sub_self _⟩ (Nat.le_refl _) (Int.le_refl _) (fun _ _ w => by cases w) (fun _ _ w => by cases w) (by show _ + 0 + 0 + _ ≤ _; omega) (Int.le_refl _) (by omega) (by omega)
  have e0 : z_ev X d (z_entry 7 [.ref 52, .ref 37, .int (Int32.ofInt dp)] (mk S)) = z_ev X d (7, 0, [some (.ref 52), some (.ref 37), some (.int (Int32.ofInt dp)), none, none, none, none, none], [], mk S) := rfl
  rw [e0, B7_0]
  exact this
theorem sum_all {X : zX} {b : Int → Int} {n : Int} {T : Nat} (hn : 0 ≤ n ∧ n ≤ 400) {ord : Int} : ∀ (k d : Nat), 8 + 2 * k ≤ d → k ≤ 8 → SmC X b n T d (8 - k) ord (pSum (tc b n) (tv b n) ord k) := by
  intro k
  induction k with
  | zero => intro d hd hk; exact sum_al (by omega) hn (by omega) (Or.inl ⟨by omega, rfl⟩)
  | succ k ih =>
    intro d hd hk
    refine sum_al (by omega) hn (by omega) (Or.inr ⟨by omega, _, rfl, ?_⟩)
    have := ih (d - 2) (by omega) (by omega)
    rwa [show (8 : Int) - ((k + 1 : Nat) : Int) + 1 = 8 - (k : Int) by omega]
