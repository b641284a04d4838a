/-! readOrder: one order -/
theorem z260 {X : zX} {d : Nat} (hd : 9 < d) {b : Int → Int} {n : Int} {T t : Nat} (hT : RTape b n T) {S : zS} (hK : KW S) (hL : KO S) {nc k : Int} {p : Nat × Int} (h : RE S b n T t 1 p k) (h21 : gI S 72 21 = nc) (hnc : 0 ≤ nc ∧ nc < 12) : match pCl b n 1 p t with
  | .inl e => ∃ S' : zS, (∀ {cm cp : Nat} {L : zL} {st : List Value}, z_evc X d 260 [.ref 72] (cm, cp, L, st, mk S) = z_ev X d (cm, cp, L, st, mk S')) ∧ RBad S' (tpos b n e) ∧ FrOw S S'
  | .inr (cl, p1, t1) => ∃ (S' : zS) (k1 : Int), (∀ {cm cp : Nat} {L : zL} {st : List Value}, z_evc X d 260 [.ref 72] (cm, cp, L, st, mk S) = z_ev X d (cm, cp, L, st, mk S')) ∧ RE S' b n T t1 1 p1 k1 ∧ gI S' 72 21 = nc + 1 ∧ ROc (IM 1 S') k1 (gI S' 112) nc cl ∧ (∀ i, i < k → IM 1 S' i = IM 1 S i) ∧ (∀ i, i < 8 * nc → gI S' 112 i = gI S 112 i) ∧ t < t1 ∧ k ≤ k1 ∧ FrOw S S' := by
  by_cases q : okw (tc b n t) = -1
  · have : pCl b n 1 p t = .inl t := by unfold pCl pClause; rw [if_neg (by rw [knw_okw q]; decide)]
    rw [this]
    obtain ⟨c1, c2⟩ := h.bad hT
    exact ⟨badS S, fun {cm cp L st} => y260 hd hT hL h h21 (by omega) (Or.inr q), c1, c2.o⟩
  obtain ⟨l1, l2, l3, l4, l5, htc⟩ := okw_knw q
  have htT := tc_lt hT.2.1 htc
  have ht3 := hT.2.2
  obtain ⟨S1, a1, a2, a3⟩ := z179 (X := X) (d := 9) (by omega) hT.1 h.1
  have hS1 := h.nx a2 a3 (by omega) (by omega)
  have g21 : gI S1 72 21 = nc := by rw [a3.2.1 _ _ (by omega)]; exact h21
  have ev : ∀ {S' : zS}, z_ev X 9 (260, 57, L260 (okw (tc b n t)) 4, [], mk S1) = some (none, mk S') → ∀ {cm cp : Nat} {L : zL} {st : List Value}, z_evc X d 260 [.ref 72] (cm, cp, L, st, mk S) = z_ev X d (cm, cp, L, st, mk S') := fun {S'} hh {cm cp L st} => z_evc_of (r := (none, mk S')) (ck := (cm, cp, L, st, mk S)) hd (by
    show z_ev X 9 (260, 0, [some (.ref 72), none, none, none], [], mk S) = _
    rw [l260a (by omega) hT.1 h.1 hL, ← hh]
    generalize okw (tc b n t) = lk at *
    simp (disch := first | omega | assumption | exact b01_rng _ | exact st_5 | exact st_12 | exact st_19 | (simp only [isSt_sI, isSt_sJ, isSt_sF, isSt_sG, isSt_sA]; assumption)) only [↓B260_0, ↓B260_4, ↓B260_9, ↓B260_19, ↓B260_22, ↓B260_26, ↓B260_27, ↓B260_34, ↓B260_40, ↓B260_49, ↓B260_53, ↓B260_54, ↓B260_64, ↓B260_65, ↓B260_85, ↓B260_91, ↓B260_106, ↓B260_118, ↓B260_125, ↓B260_129, ↓B260_136, ↓B260_144, ↓B260_147, ↓B260_154, ↓B260_171, ↓B260_178, ↓B260_181, ↓B260_185, ↓B260_201, ↓B260_202, ↓B260_221, ↓B260_228, ↓B260_231, ↓B260_235, ↓B260_240, ↓a_111, ↓a_112, ↓n_111, ↓n_112, ↓o_72, ↓r_72_19, ↓r_72_21, ↓r_72_23, ↓r_72_63, ↓r_72_64, ↓s_111, ↓s_112, ↓w_72_21, a1, i_lit, i_add, i_sub, i_mul, i_neg, i_lt, i_le, i_eq, i32_gI, i64_gJ, i32_id, i32_to, i64_to, sI_i32, sJ_i64, b01_t, b01_f, i32_b01, b01_0, ↓a_s0, ↓n_s0, ↓a_s1, ↓n_s1, Int.add_zero, t_lt, f_lt, t_le, f_le, t_eq, f_eq, true_and, and_true, false_and, and_false, and_self, ↓reduceIte, z_bool_of, or_true, true_or, or_false, false_or, Int.neg_neg, not_true_eq_false, not_false_eq_true, lg_lt, lg_le, lg_gt, lg_ge, lg_eq, j_lit, j_add, j_sub, j_mul, j_neg, j_eq, i64_id, ij, ji, z_rt, Nat.reduceEqDiff, Nat.reduceAdd, Int.reduceAdd, Int.reduceSub, Int.reduceMul, Int.reduceNeg, Int.reduceLT, Int.reduceLE, Int.reduceEq, q, h21])
  have hb := l260b (X := X) (d := 9) (S := S1) (lk := okw (tc b n t)) (nc := nc) a2.2.2.2 g21 hnc ⟨l2, l3⟩
  have hF2 : FrOw S (owS S1 nc (okw (tc b n t))) := a3.e.o.tr owS_F
  have hS2 : RE (owS S1 nc (okw (tc b n t))) b n T (t + 1) 1 p k := hS1.f2 (fun i q => owS_o (by omega) (by omega)) (fun i => owS_o (by omega) (by omega)) (by unfold owS ow0; rfl)
  have hI2 : IM 1 (owS S1 nc (okw (tc b n t))) = IM 1 S := by rw [IM_fr (S := S1) (fun a i q => owS_o (by omega) (by omega)), IM_fr (S := S) (fun a i q => a3.2.1 _ _ (by omega))]
  have v21 : gI (owS S1 nc (okw (tc b n t))) 72 21 = nc + 1 := by unfold owS; rw [gI_sI, if_neg (by omega), ow0_o (by omega), gI_sI, if_pos ⟨rfl, rfl⟩, i32_id (by omega) (by omega)]
  have v0 : gI (owS S1 nc (okw (tc b n t))) 112 (8 * nc) = okw (tc b n t) := by unfold owS; rw [gI_sI, if_pos ⟨rfl, rfl⟩, i32_id (by omega) (by omega)]
  have vz : ∀ j : Int, 1 ≤ j → j < 8 → gI (owS S1 nc (okw (tc b n t))) 112 (8 * nc + j) = 0 := fun j w1 w2 => by unfold owS; rw [gI_sI, if_neg (by omega), ow0_i (by omega)]
  have vl : ∀ i, i < 8 * nc → gI (owS S1 nc (okw (tc b n t))) 112 i = gI S 112 i := fun i w => by rw [owS_o (by omega) (by omega), a3.2.1 _ _ (by omega)]
  have hK2 : KW (owS S1 nc (okw (tc b n t))) := hK.fr (fun a i q => hF2.2.2.1 a i (by omega))
  generalize hS2e : owS S1 nc (okw (tc b n t)) = S2 at *
  generalize hlk : okw (tc b n t) = lk at *
  have kcl : ∀ r, (match pSt1 (pSum (tc b n) (tv b n) 1 8) (tc b n t) p (t + 1) with
    | .inl e => (.inl e : pC)
    | .inr (s, p1, t1) => match pSt2 (tc b n) (pSum (tc b n) (tv b n) 1 8) (tc b n t) p1 t1 with
      | .inl e => .inl e
      | .inr (u, p2, t2) => match pSt3 (tc b n) (tv b n) 1 t2 with
        | .inl e => .inl e
        | .inr (k, t3) => match pSt4 (tc b n) (pTest (tc b n) (tv b n) 1 8) p2 t3 with
          | .inl e => .inl e
          | .inr (q, p4, t4) => .inr ((tc b n t, k, s, u, q), p4, t4)) = r → pCl b n 1 p t = r := fun r hr => by
    unfold pCl pClause
    rw [if_pos l1]
    exact hr
  -- behind the first sum
  have tail : ∀ (S3 : zS) (s : Option Ev) (p1 : Nat × Int) (t1 : Nat) (k1 : Int), pSt1 (pSum (tc b n) (tv b n) 1 8) (tc b n t) p (t + 1) = .inr (s, p1, t1) → z_ev X 9 (260, 57, L260 lk 4, [], mk S1) = z_ev X 9 (260, 125, L260f lk (8 * nc), [], mk S3) → RE S3 b n T t1 1 p1 k1 → (0 ≤ gI S3 112 (8 * nc + 1) ∧ gI S3 112 (8 * nc + 1) ≤ gI S3 112 (8 * nc + 2) ∧ gI S3 112 (8 * nc + 2) ≤ k1) → RSg (IM 1 S3) s (gI S3 112 (8 * nc + 1)) (gI S3 112 (8 * nc + 2)) → (∀ i, i < k → IM 1 S3 i = IM 1 S2 i) → (∀ i, i ≠ 8 * nc + 1 → i ≠ 8 * nc + 2 → gI S3 112 i = gI S2 112 i) → gI S3 72 21 = nc + 1 → FrOw S2 S3 → t + 1 ≤ t1 → k ≤ k1 → match pCl b n 1 p t with
    | .inl e => ∃ S' : zS, (∀ {cm cp : Nat} {L : zL} {st : List Value}, z_evc X d 260 [.ref 72] (cm, cp, L, st, mk S) = z_ev X d (cm, cp, L, st, mk S')) ∧ RBad S' (tpos b n e) ∧ FrOw S S'
    | .inr (cl, p1, t1) => ∃ (S' : zS) (k1 : Int), (∀ {cm cp : Nat} {L : zL} {st : List Value}, z_evc X d 260 [.ref 72] (cm, cp, L, st, mk S) = z_ev X d (cm, cp, L, st, mk S')) ∧ RE S' b n T t1 1 p1 k1 ∧ gI S' 72 21 = nc + 1 ∧ ROc (IM 1 S') k1 (gI S' 112) nc cl ∧ (∀ i, i < k → IM 1 S' i = IM 1 S i) ∧ (∀ i, i < 8 * nc → gI S' 112 i = gI S 112 i) ∧ t < t1 ∧ k ≤ k1 ∧ FrOw S S' := by
    intro S3 s p1 t1 k1 q1 e1 e2 er e3 e4 eo e21 e5 e6 e7
    have hK3 : KW S3 := hK2.fr (fun a i q => e5.2.2.1 a i (by omega))
    have i2 := t125 (X := X) (d := 9) (by omega) hT hK3 (lk := lk) (x := 8 * nc) (c := tc b n t) (by omega) ⟨l2, l3⟩ l4 e2 (by rw [eo _ (by omega) (by omega)]; exact vz 3 (by omega) (by omega)) (by rw [eo _ (by omega) (by omega)]; exact vz 4 (by omega) (by omega))
    cases h2 : pSt2 (tc b n) (pSum (tc b n) (tv b n) 1 8) (tc b n t) p1 t1 with
    | inl e =>
      rw [h2] at i2
      obtain ⟨S4, c1, c2, c3⟩ := i2
      rw [kcl (.inl e) (by simp only [q1, h2])]
      exact ⟨S4, ev (by rw [e1]; exact c1), c2, (hF2.tr e5).tr c3⟩
    | inr y =>
      obtain ⟨u, p2, t2⟩ := y
      rw [h2] at i2
      obtain ⟨S4, k2, c1, c2, c3, c4, c5, c6, c7, c8, c9, c10⟩ := i2
      have i3 := t154 (X := X) (d := 9) (by omega) hT (lk := lk) (x := 8 * nc) (by omega) c2
      cases h3 : pSt3 (tc b n) (tv b n) 1 t2 with
      | inl e =>
        rw [h3] at i3
        obtain ⟨S5, d1, d2, d3⟩ := i3
        rw [kcl (.inl e) (by simp only [q1, h2, h3])]
        exact ⟨S5, ev (by rw [e1, c1]; exact d1), d2, ((hF2.tr e5).tr c10).tr d3⟩
      | inr y =>
        obtain ⟨ti, t3⟩ := y
        rw [h3] at i3
        obtain ⟨S5, d1, d2, d3, d4, d5, d6, d7, d8⟩ := i3
        have hK5 : KW S5 := hK3.fr (fun a i q => (c10.tr d8).2.2.1 a i (by omega))
        have i4 := t202 (X := X) (d := 9) (by omega) hT hK5 (lk := lk) (x := 8 * nc) (by omega) d2
        cases h4 : pSt4 (tc b n) (pTest (tc b n) (tv b n) 1 8) p2 t3 with
        | inl e =>
          rw [h4] at i4
          obtain ⟨S6, f1, f2, f3⟩ := i4
          rw [kcl (.inl e) (by simp only [q1, h2, h3, h4])]
          exact ⟨S6, ev (by rw [e1, c1, d1]; exact f1), f2, (((hF2.tr e5).tr c10).tr d8).tr f3⟩
        | inr y =>
          obtain ⟨qq, p4, t4⟩ := y
          rw [h4] at i4
          obtain ⟨S6, k4, f1, f2, f3, f4, f5, f6, f7, f8, f9, f10, f11⟩ := i4
          rw [kcl (.inr ((tc b n t, ti, s, u, qq), p4, t4)) (by simp only [q1, h2, h3, h4])]
          obtain ⟨k23, k0, kt⟩ := c2.2.2.2.2
          have oI : ∀ i, i < k2 → IM 1 S6 i = IM 1 S4 i := fun i hi => by rw [f6 i hi, d4]
          have o3 : ∀ j : Int, j = 1 ∨ j = 2 → gI S6 112 (8 * nc + j) = gI S3 112 (8 * nc + j) := fun j hj => by rw [f7 _ (by omega), d5 _ (by omega), c6 _ (by omega) (by omega)]
          have o4 : ∀ j : Int, j = 3 ∨ j = 4 → gI S6 112 (8 * nc + j) = gI S4 112 (8 * nc + j) := fun j hj => by rw [f7 _ (by omega), d5 _ (by omega)]
          have o2 : ∀ i : Int, i ≤ 8 * nc → gI S6 112 i = gI S2 112 i := fun i hi => by rw [f7 _ (by omega), d5 _ (by omega), c6 _ (by omega) (by omega), eo _ (by omega) (by omega)]
          refine ⟨S6, k4, ev (by rw [e1, c1, d1]; exact f1), f2, by rw [f10, d7, c9]; exact e21, ⟨⟨by rw [o2 _ (by omega), v0]; exact hlk.symm, by show okw (tc b n t) ≠ -1; rw [hlk]; exact q⟩, ?_, ?_, ?_, ?_, ?_, ?_, ?_⟩, fun i hi => ?_, fun i hi => ?_, by omega, by omega, (((hF2.tr e5).tr c10).tr d8).tr f11⟩
          · rw [o3 1 (by omega), o3 2 (by omega)]; omega
          · rw [o3 1 (by omega), o3 2 (by omega)]; exact e3.cg (fun i hi => by rw [oI i (by omega), c5 i (by omega)])
          · rw [o4 3 (by omega), o4 4 (by omega)]; omega
          · rw [o4 3 (by omega), o4 4 (by omega)]; exact c4.cg (fun i hi => oI i (by omega))
          · rw [f7 _ (by omega)]; exact d3
          · rw [f3, f4]; omega
          · rw [f3, f4]; exact f5
          · rw [oI i (by omega), c5 i (by omega), e4 i hi, hI2]
          · rw [o2 i (by omega)]; exact vl i hi
  by_cases q0 : lk = 3
  · have hs : hasS (tc b n t) = false := by rw [l5]; exact decide_eq_false (fun w => w q0)
    have e1 : pSt1 (pSum (tc b n) (tv b n) 1 8) (tc b n t) p (t + 1) = .inr (none, p, t + 1) := by unfold pSt1; rw [if_neg (by rw [hs]; decide)]
    rw [if_pos q0] at hb
    obtain ⟨k23, k0, kt⟩ := hS2.2.2.2.2
    exact tail S2 none p (t + 1) k e1 hb hS2 (by rw [vz 1 (by omega) (by omega), vz 2 (by omega) (by omega)]; omega) (by rw [vz 1 (by omega) (by omega), vz 2 (by omega) (by omega)]; rfl) (fun _ _ => rfl) (fun _ _ _ => rfl) v21 FrOw.rf (Nat.le_refl _) (Int.le_refl _)
  · have hs : hasS (tc b n t) = true := by rw [l5]; exact decide_eq_true q0
    have e1 : pSt1 (pSum (tc b n) (tv b n) 1 8) (tc b n t) p (t + 1) = lift1 (pSum (tc b n) (tv b n) 1 8 p (t + 1)) := by unfold pSt1; rw [if_pos hs]
    rw [if_neg q0] at hb
    have := z259 (X := X) (d := 9) (by omega) hT hK2 (x := 8 * nc + 1) (by omega) hS2
    have e12 : 8 * nc + 1 + 1 = 8 * nc + 2 := by omega
    rw [e12] at this
    obtain ⟨k23, k0, kt⟩ := hS2.2.2.2.2
    cases hr : pSum (tc b n) (tv b n) 1 8 p (t + 1) with
    | inl e =>
      rw [hr] at this e1
      obtain ⟨S3, c1, c2, c3⟩ := this
      obtain ⟨S4, d1, d2, d3⟩ := b125 (X := X) (d := 9) (by omega) (lk := lk) (x := 8 * nc) ⟨l2, l3⟩ (by omega) c2
      rw [kcl (.inl e) (by rw [e1]; rfl)]
      refine ⟨S4, ev ?_, d2, (hF2.tr c3).tr d3⟩
      rw [hb, ← d1]
      simp (disch := first | omega | assumption | exact b01_rng _ | exact st_5 | exact st_12 | exact st_19 | (simp only [isSt_sI, isSt_sJ, isSt_sF, isSt_sG, isSt_sA]; assumption)) only [↓B260_118, ↓a_111, ↓a_112, ↓n_111, ↓n_112, ↓o_72, ↓r_72_19, ↓r_72_21, ↓r_72_23, ↓r_72_63, ↓r_72_64, ↓s_111, ↓s_112, ↓w_72_21, c1, i_lit, i_add, i_sub, i_mul, i_neg, i_lt, i_le, i_eq, i32_gI, i64_gJ, i32_id, i32_to, i64_to, sI_i32, sJ_i64, b01_t, b01_f, i32_b01, b01_0, ↓a_s0, ↓n_s0, ↓a_s1, ↓n_s1, Int.add_zero, t_lt, f_lt, t_le, f_le, t_eq, f_eq, true_and, and_true, false_and, and_false, and_self, ↓reduceIte, z_bool_of, or_true, true_or, or_false, false_or, Int.neg_neg, not_true_eq_false, not_false_eq_true, lg_lt, lg_le, lg_gt, lg_ge, lg_eq, j_lit, j_add, j_sub, j_mul, j_neg, j_eq, i64_id, ij, ji, z_rt, Nat.reduceEqDiff, Nat.reduceAdd, Int.reduceAdd, Int.reduceSub, Int.reduceMul, Int.reduceNeg, Int.reduceLT, Int.reduceLE, Int.reduceEq]
    | inr y =>
      obtain ⟨e, p1, t1⟩ := y
      rw [hr] at this e1
      obtain ⟨S3, k1, c1, c2, c3, c4, c5, c6, c7, c8, c9, c10, c11⟩ := this
      exact tail S3 (some e) p1 t1 k1 e1 (by rw [hb]; simp (disch := first | omega | assumption | exact b01_rng _ | exact st_5 | exact st_12 | exact st_19 | (simp only [isSt_sI, isSt_sJ, isSt_sF, isSt_sG, isSt_sA]; assumption)) only [↓B260_118, ↓a_111, ↓a_112, ↓n_111, ↓n_112, ↓o_72, ↓r_72_19, ↓r_72_21, ↓r_72_23, ↓r_72_63, ↓r_72_64, ↓s_111, ↓s_112, ↓w_72_21, c1, i_lit, i_add, i_sub, i_mul, i_neg, i_lt, i_le, i_eq, i32_gI, i64_gJ, i32_id, i32_to, i64_to, sI_i32, sJ_i64, b01_t, b01_f, i32_b01, b01_0, ↓a_s0, ↓n_s0, ↓a_s1, ↓n_s1, Int.add_zero, t_lt, f_lt, t_le, f_le, t_eq, f_eq, true_and, and_true, false_and, and_false, and_self, ↓reduceIte, z_bool_of, or_true, true_or, or_false, false_or, Int.neg_neg, not_true_eq_false, not_false_eq_true, lg_lt, lg_le, lg_gt, lg_ge, lg_eq, j_lit, j_add, j_sub, j_mul, j_neg, j_eq, i64_id, ij, ji, z_rt, Nat.reduceEqDiff, Nat.reduceAdd, Int.reduceAdd, Int.reduceSub, Int.reduceMul, Int.reduceNeg, Int.reduceLT, Int.reduceLE, Int.reduceEq]) c2 (by rw [c3, c4]; omega) (by rw [c3, c4]; exact c5) c6 c7 (by rw [c10]; exact v21) c11 (by omega) (by omega)
