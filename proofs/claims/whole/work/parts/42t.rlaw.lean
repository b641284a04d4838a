/-! readLaw, whole -/
theorem y199 {X : zX} {d : Nat} (hd : 8 < d) {b : Int → Int} {n : Int} {T t : Nat} (hT : RTape b n T) {S : zS} (hL : KL S) {nc k : Int} {p : Nat × Int} (h : RE S b n T t 0 p k) (h21 : gI S 72 21 = nc) (hnc : 0 ≤ nc ∧ nc ≤ 12) (hb : nc = 12 ∨ lkw (tc b n t) = -1) {cm cp : Nat} {L : zL} {st : List Value} : z_evc X d 199 [.ref 72] (cm, cp, L, st, mk S) = z_ev X d (cm, cp, L, st, mk (badS S)) := by
  have h19 := h.1.2.2.2
  have k179 := fun {cm cp : Nat} {L : zL} {st : List Value} => c179b (X := X) (d := 8) (S := S) (by omega) h19 (cm := cm) (cp := cp) (L := L) (st := st)
  have h19' : gI (sI (sI S 72 19 1) 72 18 (gI S 72 14)) 72 19 = 1 := by simp (disch := first | omega | assumption | exact b01_rng _ | exact st_5 | exact st_12 | exact st_19 | (simp only [isSt_sI, isSt_sJ, isSt_sF, isSt_sG, isSt_sA]; assumption)) only [gI_sI, i_lit, i_add, i_sub, i_mul, i_neg, i_lt, i_le, i_eq, i32_gI, i64_gJ, i32_id, i32_to, i64_to, sI_i32, sJ_i64, b01_t, b01_f, i32_b01, b01_0, ↓a_s0, ↓n_s0, ↓a_s1, ↓n_s1, Int.add_zero, t_lt, f_lt, t_le, f_le, t_eq, f_eq, true_and, and_true, false_and, and_false, and_self, ↓reduceIte, z_bool_of, or_true, true_or, or_false, false_or, Int.neg_neg, not_true_eq_false, not_false_eq_true, lg_lt, lg_le, lg_gt, lg_ge, lg_eq, j_lit, j_add, j_sub, j_mul, j_neg, j_eq, i64_id, ij, ji, z_rt, Nat.reduceEqDiff, Nat.reduceAdd, Int.reduceAdd, Int.reduceSub, Int.reduceMul, Int.reduceNeg, Int.reduceLT, Int.reduceLE, Int.reduceEq]
  have hlr : -1 ≤ lkw (tc b n t) ∧ lkw (tc b n t) ≤ 2 := by unfold lkw; repeat (first | omega | split)
  refine z_evc_of (r := (none, mk (badS S))) (ck := (cm, cp, L, st, mk S)) hd ?_
  show z_ev X 8 (199, 0, [some (.ref 72), none, none, none], [], mk S) = _
  rw [l199a (by omega) hT.1 h.1 hL]
  generalize lkw (tc b n t) = lk at *
  unfold badS
  by_cases q : lk = -1
  · simp (disch := first | omega | assumption | exact b01_rng _ | exact st_5 | exact st_12 | exact st_19 | (simp only [isSt_sI, isSt_sJ, isSt_sF, isSt_sG, isSt_sA]; assumption)) only [↓B199_0, ↓B199_4, ↓B199_9, ↓B199_19, ↓B199_22, ↓B199_26, ↓B199_27, ↓B199_34, ↓B199_40, ↓B199_49, ↓B199_53, ↓B199_54, ↓B199_57, ↓B199_64, ↓B199_65, ↓B199_75, ↓B199_81, ↓B199_96, ↓B199_129, ↓B199_134, ↓B199_165, ↓B199_172, ↓B199_175, ↓B199_179, ↓B199_184, ↓a_82, ↓a_89, ↓n_82, ↓n_89, ↓o_72, ↓r_72_19, ↓r_72_21, ↓r_72_22, ↓r_72_23, ↓r_72_33, ↓s_82, ↓s_89, ↓w_72_21, k179, i_lit, i_add, i_sub, i_mul, i_neg, i_lt, i_le, i_eq, i32_gI, i64_gJ, i32_id, i32_to, i64_to, sI_i32, sJ_i64, b01_t, b01_f, i32_b01, b01_0, ↓a_s0, ↓n_s0, ↓a_s1, ↓n_s1, Int.add_zero, t_lt, f_lt, t_le, f_le, t_eq, f_eq, true_and, and_true, false_and, and_false, and_self, ↓reduceIte, z_bool_of, or_true, true_or, or_false, false_or, Int.neg_neg, not_true_eq_false, not_false_eq_true, lg_lt, lg_le, lg_gt, lg_ge, lg_eq, j_lit, j_add, j_sub, j_mul, j_neg, j_eq, i64_id, ij, ji, z_rt, Nat.reduceEqDiff, Nat.reduceAdd, Int.reduceAdd, Int.reduceSub, Int.reduceMul, Int.reduceNeg, Int.reduceLT, Int.reduceLE, Int.reduceEq, q, h19']
  · have : nc = 12 := by omega
    subst this
    simp (disch := first | omega | assumption | exact b01_rng _ | exact st_5 | exact st_12 | exact st_19 | (simp only [isSt_sI, isSt_sJ, isSt_sF, isSt_sG, isSt_sA]; assumption)) only [↓B199_0, ↓B199_4, ↓B199_9, ↓B199_19, ↓B199_22, ↓B199_26, ↓B199_27, ↓B199_34, ↓B199_40, ↓B199_49, ↓B199_53, ↓B199_54, ↓B199_57, ↓B199_64, ↓B199_65, ↓B199_75, ↓B199_81, ↓B199_96, ↓B199_129, ↓B199_134, ↓B199_165, ↓B199_172, ↓B199_175, ↓B199_179, ↓B199_184, ↓a_82, ↓a_89, ↓n_82, ↓n_89, ↓o_72, ↓r_72_19, ↓r_72_21, ↓r_72_22, ↓r_72_23, ↓r_72_33, ↓s_82, ↓s_89, ↓w_72_21, k179, i_lit, i_add, i_sub, i_mul, i_neg, i_lt, i_le, i_eq, i32_gI, i64_gJ, i32_id, i32_to, i64_to, sI_i32, sJ_i64, b01_t, b01_f, i32_b01, b01_0, ↓a_s0, ↓n_s0, ↓a_s1, ↓n_s1, Int.add_zero, t_lt, f_lt, t_le, f_le, t_eq, f_eq, true_and, and_true, false_and, and_false, and_self, ↓reduceIte, z_bool_of, or_true, true_or, or_false, false_or, Int.neg_neg, not_true_eq_false, not_false_eq_true, lg_lt, lg_le, lg_gt, lg_ge, lg_eq, j_lit, j_add, j_sub, j_mul, j_neg, j_eq, i64_id, ij, ji, z_rt, Nat.reduceEqDiff, Nat.reduceAdd, Int.reduceAdd, Int.reduceSub, Int.reduceMul, Int.reduceNeg, Int.reduceLT, Int.reduceLE, Int.reduceEq, q, h21, h19']
theorem RE.bad {S : zS} {b : Int → Int} {n : Int} {T t : Nat} {ord k : Int} {p : Nat × Int} (h : RE S b n T t ord p k) (hT : RTape b n T) : RBad (badS S) (tpos b n t) ∧ FrE S (badS S) := ⟨(badS_bad h.1 hT.1.1).1, (FrE.I (by omega)).tr (FrE.I (by omega))⟩
noncomputable def pCl (b : Int → Int) (n ord : Int) : Nat × Int → Nat → pC := pClause (tc b n) (tv b n) ord (pSum (tc b n) (tv b n) ord 8) (pTest (tc b n) (tv b n) ord 8)
theorem lkw_knw {c : Int} (h : lkw c ≠ -1) : knw 0 c = true ∧ lkw c = c - 262 ∧ 0 ≤ lkw c ∧ lkw c ≤ 2 ∧ (lkw c = 0 → c = 262) ∧ hasS c = decide (lkw c = 0) ∧ c ≠ 276 := by
  unfold lkw at h ⊢
  by_cases e0 : c = 262
  · subst e0; decide
  by_cases e1 : c = 263
  · subst e1; decide
  by_cases e2 : c = 264
  · subst e2; decide
  rw [if_neg e0, if_neg e1, if_neg e2] at h
  exact absurd rfl h
theorem knw_lkw {c : Int} (h : lkw c = -1) : knw 0 c = false := by
  unfold lkw at h
  by_cases e0 : c = 262
  · rw [if_pos e0] at h; omega
  by_cases e1 : c = 263
  · rw [if_neg e0, if_pos e1] at h; omega
  by_cases e2 : c = 264
  · rw [if_neg e0, if_neg e1, if_pos e2] at h; omega
  show (if (0 : Int) = 0 then decide (262 ≤ c ∧ c ≤ 264) else _) = false
  rw [if_pos rfl]
  exact decide_eq_false (by omega)
/-- behind the sum -/
theorem pCl_0 {b : Int → Int} {n : Int} {p : Nat × Int} {t : Nat} (h : lkw (tc b n t) ≠ -1) : pCl b n 0 p t = (match pSt1 (pSum (tc b n) (tv b n) 0 8) (tc b n t) p (t + 1) with
  | .inl e => .inl e
  | .inr (s, p1, t1) => match pSt4 (tc b n) (pTest (tc b n) (tv b n) 0 8) p1 t1 with
    | .inl e => .inl e
    | .inr (q, p4, t4) => .inr ((tc b n t, 1, s, none, q), p4, t4)) := by
  obtain ⟨h1, -, -, -, -, -, h2⟩ := lkw_knw h
  unfold pCl pClause
  rw [if_pos h1]
  cases pSt1 (pSum (tc b n) (tv b n) 0 8) (tc b n t) p (t + 1) with
  | inl e => rfl
  | inr x =>
    obtain ⟨s, p1, t1⟩ := x
    have e2 : pSt2 (tc b n) (pSum (tc b n) (tv b n) 0 8) (tc b n t) p1 t1 = .inr (none, p1, t1) := by unfold pSt2; rw [if_neg h2]
    have e3 : pSt3 (tc b n) (tv b n) 0 t1 = .inr (1, t1) := by unfold pSt3; rw [if_neg (by omega)]
    simp only [e2, e3]
    cases pSt4 (tc b n) (pTest (tc b n) (tv b n) 0 8) p1 t1 with
    | inl e => rfl
    | inr x => rfl
theorem z199 {X : zX} {d : Nat} (hd : 8 < d) {b : Int → Int} {n : Int} {T t : Nat} (hT : RTape b n T) {S : zS} (hK : KW S) (hL : KL S) {nc k : Int} {p : Nat × Int} (h : RE S b n T t 0 p k) (h21 : gI S 72 21 = nc) (hnc : 0 ≤ nc ∧ nc < 12) : match pCl b n 0 p t with
  | .inl e => ∃ S' : zS, (∀ {cm cp : Nat} {L : zL} {st : List Value}, z_evc X d 199 [.ref 72] (cm, cp, L, st, mk S) = z_ev X d (cm, cp, L, st, mk S')) ∧ RBad S' (tpos b n e) ∧ FrLw S S'
  | .inr (cl, p1, t1) => ∃ (S' : zS) (k1 : Int), (∀ {cm cp : Nat} {L : zL} {st : List Value}, z_evc X d 199 [.ref 72] (cm, cp, L, st, mk S) = z_ev X d (cm, cp, L, st, mk S')) ∧ RE S' b n T t1 0 p1 k1 ∧ gI S' 72 21 = nc + 1 ∧ RCl0 (IM 0 S') k1 (gI S' 82) nc cl ∧ (∀ i, i < k → IM 0 S' i = IM 0 S i) ∧ (∀ i, i < 8 * nc → gI S' 82 i = gI S 82 i) ∧ t < t1 ∧ k ≤ k1 ∧ FrLw S S' := by
  by_cases q : lkw (tc b n t) = -1
  · have : pCl b n 0 p t = .inl t := by unfold pCl pClause; rw [if_neg (by rw [knw_lkw q]; decide)]
    rw [this]
    obtain ⟨c1, c2⟩ := h.bad hT
    exact ⟨badS S, fun {cm cp L st} => y199 hd hT hL h h21 (by omega) (Or.inr q), c1, c2.w⟩
  rw [pCl_0 q]
  obtain ⟨-, l2, l3, l4, l5, l6, l7⟩ := lkw_knw q
  have htc : tc b n t ≠ 301 := by omega
  have htT := tc_lt hT.2.1 htc
  have ht3 := hT.2.2
  obtain ⟨S1, a1, a2, a3⟩ := z179 (X := X) (d := 8) (by omega) hT.1 h.1
  have hS1 := h.nx a2 a3 (by omega) (by omega)
  have g21 : gI S1 72 21 = nc := by rw [a3.2.1 _ _ (by omega)]; exact h21
  have ev : ∀ {S' : zS}, z_ev X 8 (199, 57, L199 (lkw (tc b n t)) 3, [], mk S1) = some (none, mk S') → ∀ {cm cp : Nat} {L : zL} {st : List Value}, z_evc X d 199 [.ref 72] (cm, cp, L, st, mk S) = z_ev X d (cm, cp, L, st, mk S') := fun {S'} hh {cm cp L st} => z_evc_of (r := (none, mk S')) (ck := (cm, cp, L, st, mk S)) hd (by
    show z_ev X 8 (199, 0, [some (.ref 72), none, none, none], [], mk S) = _
    rw [l199a (by omega) hT.1 h.1 hL, ← hh]
    generalize lkw (tc b n t) = lk at *
    simp (disch := first | omega | assumption | exact b01_rng _ | exact st_5 | exact st_12 | exact st_19 | (simp only [isSt_sI, isSt_sJ, isSt_sF, isSt_sG, isSt_sA]; assumption)) only [↓B199_0, ↓B199_4, ↓B199_9, ↓B199_19, ↓B199_22, ↓B199_26, ↓B199_27, ↓B199_34, ↓B199_40, ↓B199_49, ↓B199_53, ↓B199_54, ↓B199_64, ↓B199_65, ↓B199_75, ↓B199_81, ↓B199_96, ↓B199_129, ↓B199_134, ↓B199_165, ↓B199_172, ↓B199_175, ↓B199_179, ↓B199_184, ↓a_82, ↓a_89, ↓n_82, ↓n_89, ↓o_72, ↓r_72_19, ↓r_72_21, ↓r_72_22, ↓r_72_23, ↓r_72_33, ↓s_82, ↓s_89, ↓w_72_21, a1, i_lit, i_add, i_sub, i_mul, i_neg, i_lt, i_le, i_eq, i32_gI, i64_gJ, i32_id, i32_to, i64_to, sI_i32, sJ_i64, b01_t, b01_f, i32_b01, b01_0, ↓a_s0, ↓n_s0, ↓a_s1, ↓n_s1, Int.add_zero, t_lt, f_lt, t_le, f_le, t_eq, f_eq, true_and, and_true, false_and, and_false, and_self, ↓reduceIte, z_bool_of, or_true, true_or, or_false, false_or, Int.neg_neg, not_true_eq_false, not_false_eq_true, lg_lt, lg_le, lg_gt, lg_ge, lg_eq, j_lit, j_add, j_sub, j_mul, j_neg, j_eq, i64_id, ij, ji, z_rt, Nat.reduceEqDiff, Nat.reduceAdd, Int.reduceAdd, Int.reduceSub, Int.reduceMul, Int.reduceNeg, Int.reduceLT, Int.reduceLE, Int.reduceEq, q, h21])
  have hb := l199b (X := X) (d := 8) (S := S1) (lk := lkw (tc b n t)) (nc := nc) a2.2.2.2 g21 hnc ⟨l3, l4⟩
  have hF2 : FrLw S (lwS S1 nc (lkw (tc b n t))) := a3.e.w.tr lwS_F
  have hS2 : RE (lwS S1 nc (lkw (tc b n t))) b n T (t + 1) 0 p k := hS1.f2 (fun i q => lwS_o (by omega) (by omega)) (fun i => lwS_o (by omega) (by omega)) (by unfold lwS lw0; rfl)
  have hI2 : IM 0 (lwS S1 nc (lkw (tc b n t))) = IM 0 S := by rw [IM_fr (S := S1) (fun a i q => lwS_o (by omega) (by omega)), IM_fr (S := S) (fun a i q => a3.2.1 _ _ (by omega))]
  have v21 : gI (lwS S1 nc (lkw (tc b n t))) 72 21 = nc + 1 := by unfold lwS; rw [gI_sI, if_neg (by omega), gI_sI, if_pos ⟨rfl, rfl⟩, i32_id (by omega) (by omega)]
  obtain ⟨k23, k0, kt⟩ := hS1.2.2.2.2
  have v0 : gI (lwS S1 nc (lkw (tc b n t))) 82 (8 * nc) = lkw (tc b n t) := by unfold lwS; rw [gI_sI, if_neg (by omega), gI_sI, if_neg (by omega), gI_sI, if_pos ⟨rfl, rfl⟩, i32_id (by omega) (by omega)]
  have v3 : gI (lwS S1 nc (lkw (tc b n t))) 82 (8 * nc + 3) = k := by unfold lwS; rw [gI_sI, if_pos ⟨rfl, rfl⟩, k23, i32_id (by omega) (by omega)]
  have vl : ∀ i, i < 8 * nc → gI (lwS S1 nc (lkw (tc b n t))) 82 i = gI S 82 i := fun i w => by rw [lwS_o (by omega) (by omega), a3.2.1 _ _ (by omega)]
  have hK2 : KW (lwS S1 nc (lkw (tc b n t))) := hK.fr (fun a i q => hF2.2.2.1 a i (by omega))
  generalize hS2e : lwS S1 nc (lkw (tc b n t)) = S2 at *
  generalize hlk : lkw (tc b n t) = lk at *
  -- the end, behind the sum or none
  have tail : ∀ (S3 : zS) (s : Option Ev) (p1 : Nat × Int) (t1 : Nat) (k1 : Int), z_ev X 8 (199, 57, L199 lk 3, [], mk S1) = z_ev X 8 (199, 134, L199f lk (8 * nc), [], mk S3) → RE S3 b n T t1 0 p1 k1 → RSg (IM 0 S3) s k k1 → (∀ i, i < k → IM 0 S3 i = IM 0 S2 i) → FrE S2 S3 → t + 1 ≤ t1 → k ≤ k1 → match (match pSt4 (tc b n) (pTest (tc b n) (tv b n) 0 8) p1 t1 with
    | .inl e => (.inl e : pC)
    | .inr (q, p4, t4) => (.inr ((tc b n t, 1, s, none, q), p4, t4) : pC)) with
    | .inl e => ∃ S' : zS, (∀ {cm cp : Nat} {L : zL} {st : List Value}, z_evc X d 199 [.ref 72] (cm, cp, L, st, mk S) = z_ev X d (cm, cp, L, st, mk S')) ∧ RBad S' (tpos b n e) ∧ FrLw S S'
    | .inr (cl, p1, t1) => ∃ (S' : zS) (k1 : Int), (∀ {cm cp : Nat} {L : zL} {st : List Value}, z_evc X d 199 [.ref 72] (cm, cp, L, st, mk S) = z_ev X d (cm, cp, L, st, mk S')) ∧ RE S' b n T t1 0 p1 k1 ∧ gI S' 72 21 = nc + 1 ∧ RCl0 (IM 0 S') k1 (gI S' 82) nc cl ∧ (∀ i, i < k → IM 0 S' i = IM 0 S i) ∧ (∀ i, i < 8 * nc → gI S' 82 i = gI S 82 i) ∧ t < t1 ∧ k ≤ k1 ∧ FrLw S S' := by
    intro S3 s p1 t1 k1 e1 e2 e3 e4 e5 e6 e7
    have := t199 (X := X) hT (hK2.e e5) (lk := lk) (x := 8 * nc) (by omega) e2
    cases hr : pSt4 (tc b n) (pTest (tc b n) (tv b n) 0 8) p1 t1 with
    | inl e =>
      rw [hr] at this
      obtain ⟨S4, c1, c2, c3⟩ := this
      exact ⟨S4, ev (by rw [e1]; exact c1), c2, (hF2.tr e5.w).tr c3⟩
    | inr y =>
      obtain ⟨qq, p4, t4⟩ := y
      rw [hr] at this
      obtain ⟨S4, k4, c1, c2, c3, c4, c5, c6, c7, c8, c9, c10, c11, c12⟩ := this
      have o82 : ∀ i, ¬ (8 * nc + 4 ≤ i ∧ i ≤ 8 * nc + 6) → gI S4 82 i = gI S2 82 i := fun i w => by rw [c8 i w, e5.2.1 _ _ (by omega) (by omega)]
      refine ⟨S4, k4, ev (by rw [e1]; exact c1), c2, by rw [c11, e5.2.1 _ _ (by omega) (by omega)]; exact v21, ⟨by rw [o82 _ (by omega), v0]; exact l2, ?_, ?_, rfl, rfl, ?_⟩, fun i hi => by rw [c7 i (by omega), e4 i hi, hI2], fun i hi => by rw [o82 i (by omega)]; exact vl i hi, by omega, by omega, (hF2.tr e5.w).tr c12⟩
      · rw [o82 _ (by omega), v3, c3, c4, c5]; omega
      · rw [o82 _ (by omega), v3, c3]; exact e3.cg c7
      · rw [c4, c5]; exact c6
  by_cases q0 : lk = 0
  · have hs : hasS (tc b n t) = true := by rw [l6]; exact decide_eq_true q0
    have e1 : pSt1 (pSum (tc b n) (tv b n) 0 8) (tc b n t) p (t + 1) = lift1 (pSum (tc b n) (tv b n) 0 8 p (t + 1)) := by unfold pSt1; rw [if_pos hs]
    rw [e1]
    rw [if_pos q0] at hb
    have := z196 (X := X) (d := 8) (by omega) hT hK2 (ts := 0) (Or.inl rfl) hS2
    have hpe : pEx b n 0 0 = pSum (tc b n) (tv b n) 0 8 := if_pos rfl
    rw [hpe] at this
    cases hr : pSum (tc b n) (tv b n) 0 8 p (t + 1) with
    | inl e =>
      rw [hr] at this
      obtain ⟨S3, c1, c2, c3⟩ := this
      obtain ⟨S4, d1, d2, d3⟩ := b199 (X := X) (d := 8) (lk := lk) (x := 8 * nc) (by omega) c2
      refine ⟨S4, ev ?_, d2, (hF2.tr c3.w).tr d3⟩
      rw [hb, ← d1]
      simp (disch := first | omega | assumption | exact b01_rng _ | exact st_5 | exact st_12 | exact st_19 | (simp only [isSt_sI, isSt_sJ, isSt_sF, isSt_sG, isSt_sA]; assumption)) only [↓B199_0, ↓B199_4, ↓B199_9, ↓B199_19, ↓B199_22, ↓B199_26, ↓B199_27, ↓B199_34, ↓B199_40, ↓B199_49, ↓B199_53, ↓B199_54, ↓B199_57, ↓B199_64, ↓B199_65, ↓B199_75, ↓B199_81, ↓B199_96, ↓B199_129, ↓B199_165, ↓B199_172, ↓B199_175, ↓B199_179, ↓B199_184, ↓a_82, ↓a_89, ↓n_82, ↓n_89, ↓o_72, ↓r_72_19, ↓r_72_21, ↓r_72_22, ↓r_72_23, ↓r_72_33, ↓s_82, ↓s_89, ↓w_72_21, c1, i_lit, i_add, i_sub, i_mul, i_neg, i_lt, i_le, i_eq, i32_gI, i64_gJ, i32_id, i32_to, i64_to, sI_i32, sJ_i64, b01_t, b01_f, i32_b01, b01_0, ↓a_s0, ↓n_s0, ↓a_s1, ↓n_s1, Int.add_zero, t_lt, f_lt, t_le, f_le, t_eq, f_eq, true_and, and_true, false_and, and_false, and_self, ↓reduceIte, z_bool_of, or_true, true_or, or_false, false_or, Int.neg_neg, not_true_eq_false, not_false_eq_true, lg_lt, lg_le, lg_gt, lg_ge, lg_eq, j_lit, j_add, j_sub, j_mul, j_neg, j_eq, i64_id, ij, ji, z_rt, Nat.reduceEqDiff, Nat.reduceAdd, Int.reduceAdd, Int.reduceSub, Int.reduceMul, Int.reduceNeg, Int.reduceLT, Int.reduceLE, Int.reduceEq]
    | inr y =>
      obtain ⟨e, p1, t1⟩ := y
      rw [hr] at this
      obtain ⟨S3, k1, m, c1, c2, c3, c4, c5, c6, c7⟩ := this
      have hp50 := c2.2.2.2.1.2
      have hkk := c3.1
      exact tail S3 (some e) p1 t1 k1 (by rw [hb]; simp (disch := first | omega | assumption | exact b01_rng _ | exact st_5 | exact st_12 | exact st_19 | (simp only [isSt_sI, isSt_sJ, isSt_sF, isSt_sG, isSt_sA]; assumption)) only [↓B199_0, ↓B199_4, ↓B199_9, ↓B199_19, ↓B199_22, ↓B199_26, ↓B199_27, ↓B199_34, ↓B199_40, ↓B199_49, ↓B199_53, ↓B199_54, ↓B199_57, ↓B199_64, ↓B199_65, ↓B199_75, ↓B199_81, ↓B199_96, ↓B199_129, ↓B199_165, ↓B199_172, ↓B199_175, ↓B199_179, ↓B199_184, ↓a_82, ↓a_89, ↓n_82, ↓n_89, ↓o_72, ↓r_72_19, ↓r_72_21, ↓r_72_22, ↓r_72_23, ↓r_72_33, ↓s_82, ↓s_89, ↓w_72_21, c1, i_lit, i_add, i_sub, i_mul, i_neg, i_lt, i_le, i_eq, i32_gI, i64_gJ, i32_id, i32_to, i64_to, sI_i32, sJ_i64, b01_t, b01_f, i32_b01, b01_0, ↓a_s0, ↓n_s0, ↓a_s1, ↓n_s1, Int.add_zero, t_lt, f_lt, t_le, f_le, t_eq, f_eq, true_and, and_true, false_and, and_false, and_self, ↓reduceIte, z_bool_of, or_true, true_or, or_false, false_or, Int.neg_neg, not_true_eq_false, not_false_eq_true, lg_lt, lg_le, lg_gt, lg_ge, lg_eq, j_lit, j_add, j_sub, j_mul, j_neg, j_eq, i64_id, ij, ji, z_rt, Nat.reduceEqDiff, Nat.reduceAdd, Int.reduceAdd, Int.reduceSub, Int.reduceMul, Int.reduceNeg, Int.reduceLT, Int.reduceLE, Int.reduceEq]) c2 ⟨m, by omega, c3⟩ c5 c7 (by omega) (by omega)
  · have hs : hasS (tc b n t) = false := by rw [l6]; exact decide_eq_false q0
    have e1 : pSt1 (pSum (tc b n) (tv b n) 0 8) (tc b n t) p (t + 1) = .inr (none, p, t + 1) := by unfold pSt1; rw [if_neg (by rw [hs]; decide)]
    rw [e1]
    rw [if_neg q0] at hb
    exact tail S2 none p (t + 1) k hb hS2 rfl (fun _ _ => rfl) FrE.rf (Nat.le_refl _) (Int.le_refl _)
