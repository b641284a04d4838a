/-! the reference: plain tests, what stands behind a test -/
theorem RX.puN {S S3 : zS} {b : Int → Int} {n : Int} {T t : Nat} {ord dp k : Int} {p : Nat × Int} {P : List En} (h : RX S b n T t ord p P dp k) {op ar : Int} (ho : 20 ≤ op ∧ op ≤ 32) (ha : r32 ar) (hj : op = 29 ∨ op = 30 → gI S 83 ar = op ∧ 0 ≤ ar ∧ ar < k) (b2 : MAt S3 b n (t + 1)) (b3 : FrN (puS S op ar) S3) (hk1 : k + emi ((op, ar) :: P) ≤ t + 1) (ht : t + 1 ≤ T) (hT : T ≤ 400) : RX S3 b n T (t + 1) ord p ((op, ar) :: P) dp k := by
  obtain ⟨u1, u2, u3, u4, ⟨v1, v2, v3, v4, v5, v6⟩, u6⟩ := h
  have e : ∀ (a : Nat) (i : Int), ¬ (a = 72 ∧ i = 29) → ¬ (a = 85 ∧ i = P.length) → ¬ (a = 86 ∧ i = P.length) → ¬ (a = 72 ∧ 14 ≤ i ∧ i ≤ 16) → gI S3 a i = gI S a i := fun a i q1 q2 q3 q4 => by rw [b3.2.1 _ _ (by omega)]; unfold puS; rw [v1, gI_sI, if_neg (by omega), gI_sI, if_neg (by omega), gI_sI, if_neg (by omega)]
  refine ⟨b2, ⟨by omega, by rw [e _ _ (by omega) (by omega) (by omega) (by omega)]; exact u2.2⟩, ⟨by rw [e _ _ (by omega) (by omega) (by omega) (by omega)]; exact u3.1, u3.2⟩, ⟨by rw [e _ _ (by omega) (by omega) (by omega) (by omega)]; exact u4.1, u4.2⟩, ⟨?_, ⟨?_, ?_, ho, fun w => by rw [e _ _ (by omega) (by omega) (by omega) (by omega)]; exact hj w, v2.fr (Int.le_refl _) (fun i q1 q2 => ⟨e _ _ (by omega) (by omega) (by omega) (by omega), e _ _ (by omega) (by omega) (by omega) (by omega)⟩) (fun i q1 q2 => e _ _ (by omega) (by omega) (by omega) (by omega))⟩, by rw [e _ _ (by omega) (by omega) (by omega) (by omega)]; exact v3, v4, by omega, by rw [List.length_cons]; omega⟩, ⟨by rw [e _ _ (by omega) (by omega) (by omega) (by omega)]; exact u6.1, u6.2⟩⟩
  · rw [b3.2.1 _ _ (by omega)]; unfold puS; rw [gI_sI, if_pos ⟨rfl, rfl⟩, v1, i32_id (by omega) (by omega), List.length_cons]; omega
  · rw [b3.2.1 _ _ (by omega)]; unfold puS; rw [v1, gI_sI, if_neg (by omega), gI_sI, if_neg (by omega), gI_sI, if_pos ⟨rfl, rfl⟩, i32_id (by omega) (by omega)]
  · rw [b3.2.1 _ _ (by omega)]; unfold puS; rw [v1, gI_sI, if_neg (by omega), gI_sI, if_pos ⟨rfl, rfl⟩, i32_id (by omega) (by omega)]
theorem puS_M {S : zS} {b : Int → Int} {n : Int} {t : Nat} {op ar : Int} (h : MAt S b n t) : MAt (puS S op ar) b n t := h.fr (fun i q => by unfold puS; rw [gI_sI, if_neg (by omega), gI_sI, if_neg (by omega), gI_sI, if_neg (by omega)]) (fun i => by unfold puS; rw [gI_sI, if_neg (by omega), gI_sI, if_neg (by omega), gI_sI, if_neg (by omega)]) rfl
theorem emS_M {S : zS} {b : Int → Int} {n : Int} {t : Nat} {op ar : Int} (h : MAt S b n t) : MAt (emS S op ar) b n t := h.fr (fun i q => by unfold emS; rw [gI_sI, if_neg (by omega), gI_sI, if_neg (by omega), gI_sI, if_neg (by omega)]) (fun i => by unfold emS; rw [gI_sI, if_neg (by omega), gI_sI, if_neg (by omega), gI_sI, if_neg (by omega)]) rfl
/-- not -/
theorem z193n {X : zX} {d : Nat} (hd : 6 < d) {b : Int → Int} {n : Int} {T t : Nat} (hT : RTape b n T) {S : zS} {ord dp k : Int} {p : Nat × Int} {P : List En} (h : RX S b n T t ord p P dp k) (q : tc b n t = 267) : ∃ S' : zS, (∀ {cm cp : Nat} {L : zL} {st : List Value}, z_evc X d 193 [.ref 72] (cm, cp, L, st, mk S) = z_ev X d (cm, cp, L, .int (Int32.ofInt 0) :: st, mk S')) ∧ RX S' b n T (t + 1) ord p ((28, 0) :: P) dp k ∧ IM ord S' = IM ord S ∧ FrE S S' := by
  have wn : (gI S 72 16 = 1 ∧ gJ S 72 17 = 14836) = (tc b n t = 267) := h.1.w hT.1 (k := 11) rfl
  have htT := tc_lt hT.2.1 (t := t) (by omega)
  have ht3 := hT.2.2
  obtain ⟨r1, r2, r3, r4, r5, r6⟩ := h.2.2.2.2.1
  obtain ⟨S3, b1, b2, b3⟩ := z176 (X := X) (d := 6) (by omega) hT.1 (puS_M (op := 28) (ar := 0) h.1)
  have hec := emi_cons (28, 0) P
  rw [if_pos (by show (28 : Int) < 29; decide)] at hec
  have hr29 : 0 ≤ gI S 72 29 ∧ gI S 72 29 < 400 := by rw [r1]; omega
  have k183 := fun {cm cp : Nat} {L : zL} {st : List Value} => c183 (X := X) (d := 6) (S := S) (by omega) 28 0 hr29 (by omega) (by omega) (cm := cm) (cp := cp) (L := L) (st := st)
  refine ⟨S3, fun {cm cp L st} => z_evc_of (r := (some (.int (Int32.ofInt 0)), mk S3)) (ck := (cm, cp, L, st, mk S)) hd ?_, h.puN (by omega) (by omega) (by omega) b2 b3 (by omega) (by omega) ht3, by rw [IM_fr (S := puS S 28 0) (fun a i q => b3.2.1 _ _ (by omega)), puS_I], FrE.pu.tr b3.e⟩
  show z_ev X 6 (193, 0, [some (.ref 72)], [], mk S) = _
  simp (disch := first | omega | assumption | exact b01_rng _ | exact st_5 | exact st_12 | exact st_19 | (simp only [isSt_sI, isSt_sJ, isSt_sF, isSt_sG, isSt_sA]; assumption)) only [↓B193_0, ↓B193_7, ↓B193_10, ↓B193_17, ↓B193_21, ↓B193_23, ↓B193_29, ↓B193_32, ↓B193_38, ↓B193_40, ↓B193_44, ↓o_72, c177, k183, b1, i_lit, i_add, i_sub, i_mul, i_neg, i_lt, i_le, i_eq, i32_gI, i64_gJ, i32_id, i32_to, i64_to, sI_i32, sJ_i64, b01_t, b01_f, i32_b01, b01_0, ↓a_s0, ↓n_s0, ↓a_s1, ↓n_s1, Int.add_zero, t_lt, f_lt, t_le, f_le, t_eq, f_eq, true_and, and_true, false_and, and_false, and_self, ↓reduceIte, z_bool_of, or_true, true_or, or_false, false_or, Int.neg_neg, not_true_eq_false, not_false_eq_true, lg_lt, lg_le, lg_gt, lg_ge, lg_eq, j_lit, j_add, j_sub, j_mul, j_neg, j_eq, i64_id, ij, ji, z_rt, Nat.reduceEqDiff, Nat.reduceAdd, Int.reduceAdd, Int.reduceSub, Int.reduceMul, Int.reduceNeg, Int.reduceLT, Int.reduceLE, Int.reduceEq, wn, q]
/-- a bracket -/
theorem z193p {X : zX} {d : Nat} (hd : 6 < d) {b : Int → Int} {n : Int} {T t : Nat} (hT : RTape b n T) {S : zS} {ord dp k : Int} {p : Nat × Int} {P : List En} (h : RX S b n T t ord p P dp k) (q : tc b n t = 40) (hdp : dp < 8) : ∃ S' : zS, (∀ {cm cp : Nat} {L : zL} {st : List Value}, z_evc X d 193 [.ref 72] (cm, cp, L, st, mk S) = z_ev X d (cm, cp, L, .int (Int32.ofInt 0) :: st, mk S')) ∧ RX S' b n T (t + 1) ord p ((31, 0) :: P) (dp + 1) k ∧ IM ord S' = IM ord S ∧ FrE S S' := by
  have wn : (gI S 72 16 = 1 ∧ gJ S 72 17 = 14836) = (tc b n t = 267) := h.1.w hT.1 (k := 11) rfl
  have w40 : (gI S 72 16 = 3 ∧ gJ S 72 17 = 40) = (tc b n t = 40) := h.1.s hT.1 (c := 40) (by omega) (by unfold isL; omega) (by unfold isD; omega)
  obtain ⟨S1, a1, a2, a3, a4⟩ := z190 (X := X) (d := 6) (by omega) hT h (by omega) (op := 31) (by omega) hdp
  have qn : ¬ (tc b n t = 267) := by omega
  refine ⟨S1, fun {cm cp L st} => z_evc_of (r := (some (.int (Int32.ofInt 0)), mk S1)) (ck := (cm, cp, L, st, mk S)) hd ?_, a2, a3, a4⟩
  show z_ev X 6 (193, 0, [some (.ref 72)], [], mk S) = _
  simp (disch := first | omega | assumption | exact b01_rng _ | exact st_5 | exact st_12 | exact st_19 | (simp only [isSt_sI, isSt_sJ, isSt_sF, isSt_sG, isSt_sA]; assumption)) only [↓B193_0, ↓B193_7, ↓B193_10, ↓B193_17, ↓B193_21, ↓B193_23, ↓B193_29, ↓B193_32, ↓B193_38, ↓B193_40, ↓B193_44, ↓o_72, c177, c178, a1, i_lit, i_add, i_sub, i_mul, i_neg, i_lt, i_le, i_eq, i32_gI, i64_gJ, i32_id, i32_to, i64_to, sI_i32, sJ_i64, b01_t, b01_f, i32_b01, b01_0, ↓a_s0, ↓n_s0, ↓a_s1, ↓n_s1, Int.add_zero, t_lt, f_lt, t_le, f_le, t_eq, f_eq, true_and, and_true, false_and, and_false, and_self, ↓reduceIte, z_bool_of, or_true, true_or, or_false, false_or, Int.neg_neg, not_true_eq_false, not_false_eq_true, lg_lt, lg_le, lg_gt, lg_ge, lg_eq, j_lit, j_add, j_sub, j_mul, j_neg, j_eq, i64_id, ij, ji, z_rt, Nat.reduceEqDiff, Nat.reduceAdd, Int.reduceAdd, Int.reduceSub, Int.reduceMul, Int.reduceNeg, Int.reduceLT, Int.reduceLE, Int.reduceEq, wn, w40, qn, q]
theorem y193p {X : zX} {d : Nat} (hd : 6 < d) {b : Int → Int} {n : Int} {T t : Nat} (hT : RTape b n T) {S : zS} {ord k : Int} {p : Nat × Int} {P : List En} (h : RX S b n T t ord p P 8 k) (q : tc b n t = 40) {cm cp : Nat} {L : zL} {st : List Value} : z_evc X d 193 [.ref 72] (cm, cp, L, st, mk S) = z_ev X d (cm, cp, L, .int (Int32.ofInt 0) :: st, mk (badS S)) := by
  have wn : (gI S 72 16 = 1 ∧ gJ S 72 17 = 14836) = (tc b n t = 267) := h.1.w hT.1 (k := 11) rfl
  have w40 : (gI S 72 16 = 3 ∧ gJ S 72 17 = 40) = (tc b n t = 40) := h.1.s hT.1 (c := 40) (by omega) (by unfold isL; omega) (by unfold isD; omega)
  have k190 := fun {cm cp : Nat} {L : zL} {st : List Value} => y190 (X := X) (d := 6) (by omega) h.1.2.2.2 h.2.2.2.2.2.1 (op := 31) (cm := cm) (cp := cp) (L := L) (st := st)
  have qn : ¬ (tc b n t = 267) := by omega
  refine z_evc_of (r := (some (.int (Int32.ofInt 0)), mk (badS S))) (ck := (cm, cp, L, st, mk S)) hd ?_
  show z_ev X 6 (193, 0, [some (.ref 72)], [], mk S) = _
  simp (disch := first | omega | assumption | exact b01_rng _ | exact st_5 | exact st_12 | exact st_19 | (simp only [isSt_sI, isSt_sJ, isSt_sF, isSt_sG, isSt_sA]; assumption)) only [↓B193_0, ↓B193_7, ↓B193_10, ↓B193_17, ↓B193_21, ↓B193_23, ↓B193_29, ↓B193_32, ↓B193_38, ↓B193_40, ↓B193_44, ↓o_72, c177, c178, k190, i_lit, i_add, i_sub, i_mul, i_neg, i_lt, i_le, i_eq, i32_gI, i64_gJ, i32_id, i32_to, i64_to, sI_i32, sJ_i64, b01_t, b01_f, i32_b01, b01_0, ↓a_s0, ↓n_s0, ↓a_s1, ↓n_s1, Int.add_zero, t_lt, f_lt, t_le, f_le, t_eq, f_eq, true_and, and_true, false_and, and_false, and_self, ↓reduceIte, z_bool_of, or_true, true_or, or_false, false_or, Int.neg_neg, not_true_eq_false, not_false_eq_true, lg_lt, lg_le, lg_gt, lg_ge, lg_eq, j_lit, j_add, j_sub, j_mul, j_neg, j_eq, i64_id, ij, ji, z_rt, Nat.reduceEqDiff, Nat.reduceAdd, Int.reduceAdd, Int.reduceSub, Int.reduceMul, Int.reduceNeg, Int.reduceLT, Int.reduceLE, Int.reduceEq, wn, w40, qn, q]
/-- no not, no bracket: a part -/
theorem hd6_01 {X : zX} {d : Nat} (hd : 6 < d) {b : Int → Int} {n : Int} {T t : Nat} (hT : RTape b n T) {S : zS} (hK : KW S) {ord ts dp k : Int} {p : Nat × Int} {P : List En} (h : RX S b n T t ord p P dp k) (q1 : tc b n t ≠ 267) (q2 : tc b n t ≠ 40) : hd6 X d ts 0 S = hd6 X d ts 1 S := by
  have h19 := h.1.2.2.2
  have key : ∀ {S' : zS} {v : Int}, z_ev X 5 (192, 0, L192, [], mk S) = some (some (.int (Int32.ofInt v)), mk S') → hd6 X d ts 0 S = hd6 X d ts 1 S := fun {S' v} e => by
    rw [hd6_0 h19 (ev193 hd hT.1 h.1 q1 q2 e), hd6_1 h19 (ev192 (by omega) e)]
  by_cases q : tc b n t = 91
  · by_cases hdp : dp < 8
    · obtain ⟨S1, a1, -⟩ := z192b (X := X) hT h q hdp
      exact key a1
    · have : dp = 8 := by have := h.2.2.2.2.2.2; omega
      subst this
      exact key (y192b hT h q)
  · have := z192 (X := X) hT hK h q
    cases hr : pLeaf (tc b n) (tv b n) ord p t with
    | inl e => rw [hr] at this; obtain ⟨S1, a1, -⟩ := this; exact key a1
    | inr x => obtain ⟨e, p1, t1⟩ := x; rw [hr] at this; obtain ⟨S1, a1, -⟩ := this; exact key a1
