/-! readLaw: its end, and the whole of it -/
theorem RE.f2 {S S' : zS} {b : Int → Int} {n : Int} {T t : Nat} {ord k : Int} {p : Nat × Int} (h : RE S b n T t ord p k) (hI : ∀ i, i ≠ 21 → gI S' 72 i = gI S 72 i) (h81 : ∀ i, gI S' 81 i = gI S 81 i) (hJ : gJ S' 72 17 = gJ S 72 17) : RE S' b n T t ord p k := by
  obtain ⟨a1, a2, a3, a4, a5⟩ := h
  exact ⟨a1.fr (fun i q => hI i (by omega)) h81 hJ, ⟨a2.1, by rw [hI _ (by omega)]; exact a2.2⟩, ⟨by rw [hI _ (by omega)]; exact a3.1, a3.2⟩, ⟨by rw [hI _ (by omega)]; exact a4.1, a4.2⟩, ⟨by rw [hI _ (by omega)]; exact a5.1, a5.2⟩⟩
def RSg (I : Ins) (x : Option Ev) (f g : Int) : Prop := match x with
  | none => f = g
  | some e => ∃ m : Nat, m ≤ 50 ∧ Seg I f g m e
theorem RSg.cg {I I' : Ins} {x : Option Ev} {f g : Int} (h : RSg I x f g) (hI : ∀ i, i < g → I' i = I i) : RSg I' x f g := by
  cases x with
  | none => exact h
  | some e => obtain ⟨m, h1, h2⟩ := h; exact ⟨m, h1, h2.cg (fun i _ q => hI i q)⟩
def RCl0 (I : Ins) (k : Int) (r : Int → Int) (q : Int) (cl : Cl) : Prop := r (8 * q) = cl.1 - 262 ∧ (0 ≤ r (8 * q + 3) ∧ r (8 * q + 3) ≤ r (8 * q + 4) ∧ r (8 * q + 5) = r (8 * q + 4) ∧ r (8 * q + 5) ≤ r (8 * q + 6) ∧ r (8 * q + 6) ≤ k) ∧ RSg I cl.2.2.1 (r (8 * q + 3)) (r (8 * q + 4)) ∧ cl.2.2.2.1 = none ∧ cl.2.1 = 1 ∧ RSg I cl.2.2.2.2 (r (8 * q + 5)) (r (8 * q + 6))
theorem b199 {X : zX} {d : Nat} {S : zS} {lk x f : Int} (hx : 0 ≤ x ∧ x ≤ 88) (h : RBad S f) : ∃ S' : zS, z_ev X d (199, 134, L199f lk x, [], mk S) = some (none, mk S') ∧ RBad S' f ∧ FrLw S S' := by
  obtain ⟨h19, h18⟩ := h
  have e : ∀ (i : Int), gI (sI (sI (sI S 82 (x + 4) (gI S 72 23)) 82 (x + 5) (gI S 72 23)) 82 (x + 6) (gI S 72 23)) 72 i = gI S 72 i := fun i => by rw [gI_sI, if_neg (by omega), gI_sI, if_neg (by omega), gI_sI, if_neg (by omega)]
  refine ⟨sI (sI (sI S 82 (x + 4) (gI S 72 23)) 82 (x + 5) (gI S 72 23)) 82 (x + 6) (gI S 72 23), ?_, ⟨by rw [e]; exact h19, by rw [e]; exact h18⟩, ((FrLw.I (by omega)).tr (FrLw.I (by omega))).tr (FrLw.I (by omega))⟩
  have g1 : gI (sI S 82 (x + 4) (gI S 72 23)) 72 23 = gI S 72 23 := by rw [gI_sI, if_neg (by omega)]
  have g2 : gI (sI (sI S 82 (x + 4) (gI S 72 23)) 82 (x + 5) (gI S 72 23)) 72 23 = gI S 72 23 := by rw [gI_sI, if_neg (by omega), gI_sI, if_neg (by omega)]
  have g3 : gI (sI (sI S 82 (x + 4) (gI S 72 23)) 82 (x + 5) (gI S 72 23)) 72 19 = 1 := by rw [gI_sI, if_neg (by omega), gI_sI, if_neg (by omega)]; exact h19
  simp (disch := first | omega | assumption | exact b01_rng _ | exact st_5 | exact st_12 | exact st_19 | (simp only [isSt_sI, isSt_sJ, isSt_sF, isSt_sG, isSt_sA]; assumption)) only [↓B199_0, ↓B199_4, ↓B199_9, ↓B199_19, ↓B199_22, ↓B199_26, ↓B199_27, ↓B199_34, ↓B199_40, ↓B199_49, ↓B199_53, ↓B199_54, ↓B199_57, ↓B199_64, ↓B199_65, ↓B199_75, ↓B199_81, ↓B199_96, ↓B199_129, ↓B199_134, ↓B199_165, ↓B199_172, ↓B199_175, ↓B199_179, ↓B199_184, ↓a_82, ↓a_89, ↓n_82, ↓n_89, ↓o_72, ↓r_72_19, ↓r_72_21, ↓r_72_22, ↓r_72_23, ↓r_72_33, ↓s_82, ↓s_89, ↓w_72_21, i_lit, i_add, i_sub, i_mul, i_neg, i_lt, i_le, i_eq, i32_gI, i64_gJ, i32_id, i32_to, i64_to, sI_i32, sJ_i64, b01_t, b01_f, i32_b01, b01_0, ↓a_s0, ↓n_s0, ↓a_s1, ↓n_s1, Int.add_zero, t_lt, f_lt, t_le, f_le, t_eq, f_eq, true_and, and_true, false_and, and_false, and_self, ↓reduceIte, z_bool_of, or_true, true_or, or_false, false_or, Int.neg_neg, not_true_eq_false, not_false_eq_true, lg_lt, lg_le, lg_gt, lg_ge, lg_eq, j_lit, j_add, j_sub, j_mul, j_neg, j_eq, i64_id, ij, ji, z_rt, Nat.reduceEqDiff, Nat.reduceAdd, Int.reduceAdd, Int.reduceSub, Int.reduceMul, Int.reduceNeg, Int.reduceLT, Int.reduceLE, Int.reduceEq, g1, g2, g3]
theorem t199 {X : zX} {b : Int → Int} {n : Int} {T t : Nat} (hT : RTape b n T) {S : zS} (hK : KW S) {lk x k : Int} (hx : 0 ≤ x ∧ x ≤ 88) {p : Nat × Int} (h : RE S b n T t 0 p k) : match pSt4 (tc b n) (pTest (tc b n) (tv b n) 0 8) p t with
  | .inl e => ∃ S' : zS, z_ev X 8 (199, 134, L199f lk x, [], mk S) = some (none, mk S') ∧ RBad S' (tpos b n e) ∧ FrLw S S'
  | .inr (q, p4, t4) => ∃ (S' : zS) (k4 : Int), z_ev X 8 (199, 134, L199f lk x, [], mk S) = some (none, mk S') ∧ RE S' b n T t4 0 p4 k4 ∧ gI S' 82 (x + 4) = k ∧ gI S' 82 (x + 5) = k ∧ gI S' 82 (x + 6) = k4 ∧ RSg (IM 0 S') q k k4 ∧ (∀ i, i < k → IM 0 S' i = IM 0 S i) ∧ (∀ i, ¬ (x + 4 ≤ i ∧ i ≤ x + 6) → gI S' 82 i = gI S 82 i) ∧ t ≤ t4 ∧ k ≤ k4 ∧ gI S' 72 21 = gI S 72 21 ∧ FrLw S S' := by
  have ht3 := hT.2.2
  have h1 := h.2.1.1
  obtain ⟨k23, k0, kt⟩ := h.2.2.2.2
  have h19 := h.1.2.2.2
  have e3 : ∀ (a : Nat) (i : Int), ¬ (a = 82 ∧ (i = x + 4 ∨ i = x + 5)) → gI (sI (sI S 82 (x + 4) k) 82 (x + 5) k) a i = gI S a i := fun a i q => by rw [gI_sI, if_neg (by omega), gI_sI, if_neg (by omega)]
  have hS3 : RE (sI (sI S 82 (x + 4) k) 82 (x + 5) k) b n T t 0 p k := h.f2 (fun i _ => e3 _ _ (by omega)) (fun i => e3 _ _ (by omega)) rfl
  have hF3 : FrLw S (sI (sI S 82 (x + 4) k) 82 (x + 5) k) := (FrLw.I (by omega)).tr (FrLw.I (by omega))
  have hI3 : IM 0 (sI (sI S 82 (x + 4) k) 82 (x + 5) k) = IM 0 S := IM_fr (fun a i q => e3 _ _ (by omega))
  have g4 : gI (sI (sI S 82 (x + 4) k) 82 (x + 5) k) 82 (x + 4) = k := by rw [gI_sI, if_neg (by omega), gI_sI, if_pos ⟨rfl, rfl⟩, i32_id (by omega) (by omega)]
  have g5 : gI (sI (sI S 82 (x + 4) k) 82 (x + 5) k) 82 (x + 5) = k := by rw [gI_sI, if_pos ⟨rfl, rfl⟩, i32_id (by omega) (by omega)]
  have f1 : gI (sI S 82 (x + 4) k) 72 23 = k := by rw [gI_sI, if_neg (by omega)]; exact k23
  have f2 := hS3.2.2.2.2.1
  have f3 := hS3.1.2.2.2
  generalize hS3e : sI (sI S 82 (x + 4) k) 82 (x + 5) k = S3 at *
  have wi : (gI S3 72 16 = 1 ∧ gJ S3 72 17 = 294) = (tc b n t = 265) := hS3.1.w hT.1 (k := 9) rfl
  unfold pSt4
  by_cases q : tc b n t = 265
  · rw [if_pos q]
    have htT := tc_lt hT.2.1 (t := t) (by omega)
    obtain ⟨S4, b1, b2, b3⟩ := z176 (X := X) (d := 8) (by omega) hT.1 hS3.1
    have hS4 := hS3.nx b2 b3 (by omega) (by omega)
    have hK4 : KW S4 := (hK.fr (fun a i q => hF3.2.2.1 a i (by omega))).e b3.e
    have hI4 : IM 0 S4 = IM 0 S := by rw [IM_fr (S := S3) (fun a i q => b3.2.1 _ _ (by omega)), hI3]
    have := z196 (X := X) (d := 8) (by omega) hT hK4 (ts := 1) (Or.inr rfl) hS4
    have hpe : pEx b n 0 1 = pTest (tc b n) (tv b n) 0 8 := if_neg (by omega)
    rw [hpe] at this
    cases hr : pTest (tc b n) (tv b n) 0 8 p (t + 1) with
    | inl e =>
      rw [hr] at this
      obtain ⟨S5, c1, ⟨c2, c2'⟩, c3⟩ := this
      have e6 : ∀ i, gI (sI S5 82 (x + 6) (gI S5 72 23)) 72 i = gI S5 72 i := fun i => by rw [gI_sI, if_neg (by omega)]
      refine ⟨sI S5 82 (x + 6) (gI S5 72 23), ?_, ⟨by rw [e6]; exact c2, by rw [e6]; exact c2'⟩, ((hF3.tr b3.e.w).tr c3.w).tr (FrLw.I (by omega))⟩
      simp (disch := first | omega | assumption | exact b01_rng _ | exact st_5 | exact st_12 | exact st_19 | (simp only [isSt_sI, isSt_sJ, isSt_sF, isSt_sG, isSt_sA]; assumption)) only [↓B199_0, ↓B199_4, ↓B199_9, ↓B199_19, ↓B199_22, ↓B199_26, ↓B199_27, ↓B199_34, ↓B199_40, ↓B199_49, ↓B199_53, ↓B199_54, ↓B199_57, ↓B199_64, ↓B199_65, ↓B199_75, ↓B199_81, ↓B199_96, ↓B199_129, ↓B199_134, ↓B199_165, ↓B199_172, ↓B199_175, ↓B199_179, ↓B199_184, ↓a_82, ↓a_89, ↓n_82, ↓n_89, ↓o_72, ↓r_72_19, ↓r_72_21, ↓r_72_22, ↓r_72_23, ↓r_72_33, ↓s_82, ↓s_89, ↓w_72_21, c177, b1, c1, i_lit, i_add, i_sub, i_mul, i_neg, i_lt, i_le, i_eq, i32_gI, i64_gJ, i32_id, i32_to, i64_to, sI_i32, sJ_i64, b01_t, b01_f, i32_b01, b01_0, ↓a_s0, ↓n_s0, ↓a_s1, ↓n_s1, Int.add_zero, t_lt, f_lt, t_le, f_le, t_eq, f_eq, true_and, and_true, false_and, and_false, and_self, ↓reduceIte, z_bool_of, or_true, true_or, or_false, false_or, Int.neg_neg, not_true_eq_false, not_false_eq_true, lg_lt, lg_le, lg_gt, lg_ge, lg_eq, j_lit, j_add, j_sub, j_mul, j_neg, j_eq, i64_id, ij, ji, z_rt, Nat.reduceEqDiff, Nat.reduceAdd, Int.reduceAdd, Int.reduceSub, Int.reduceMul, Int.reduceNeg, Int.reduceLT, Int.reduceLE, Int.reduceEq, k23, f1, f2, f3, hS3e, wi, q]
    | inr y =>
      obtain ⟨e, p4, t4⟩ := y
      rw [hr] at this
      obtain ⟨S5, k4, m, c1, c2, c3, c4, c5, c6, c7⟩ := this
      obtain ⟨d23, d0, dt⟩ := c2.2.2.2.2
      have h2 := c2.2.1.1
      have hp50 := c2.2.2.2.1.2
      have e6 : ∀ (a : Nat) (i : Int), ¬ (a = 82 ∧ i = x + 6) → gI (sI S5 82 (x + 6) k4) a i = gI S5 a i := fun a i w => by rw [gI_sI, if_neg (by omega)]
      have e5 : ∀ i, gI S5 82 i = gI S3 82 i := fun i => by rw [c7.2.1 _ _ (by omega) (by omega), b3.2.1 _ _ (by omega)]
      have hkk := c3.1
      refine ⟨sI S5 82 (x + 6) k4, k4, ?_, c2.f2 (fun i _ => e6 _ _ (by omega)) (fun i => e6 _ _ (by omega)) rfl, by rw [e6 _ _ (by omega), e5]; exact g4, by rw [e6 _ _ (by omega), e5]; exact g5, by rw [gI_sI, if_pos ⟨rfl, rfl⟩, i32_id (by omega) (by omega)], ⟨m, by omega, by rw [IM_fr (S := S5) (fun a i q => e6 _ _ (by omega))]; exact c3⟩, fun i hi => ?_, fun i hi => ?_, by omega, by omega, ?_, ((hF3.tr b3.e.w).tr c7.w).tr (FrLw.I (by omega))⟩
      · simp (disch := first | omega | assumption | exact b01_rng _ | exact st_5 | exact st_12 | exact st_19 | (simp only [isSt_sI, isSt_sJ, isSt_sF, isSt_sG, isSt_sA]; assumption)) only [↓B199_0, ↓B199_4, ↓B199_9, ↓B199_19, ↓B199_22, ↓B199_26, ↓B199_27, ↓B199_34, ↓B199_40, ↓B199_49, ↓B199_53, ↓B199_54, ↓B199_57, ↓B199_64, ↓B199_65, ↓B199_75, ↓B199_81, ↓B199_96, ↓B199_129, ↓B199_134, ↓B199_165, ↓B199_172, ↓B199_175, ↓B199_179, ↓B199_184, ↓a_82, ↓a_89, ↓n_82, ↓n_89, ↓o_72, ↓r_72_19, ↓r_72_21, ↓r_72_22, ↓r_72_23, ↓r_72_33, ↓s_82, ↓s_89, ↓w_72_21, c177, b1, c1, i_lit, i_add, i_sub, i_mul, i_neg, i_lt, i_le, i_eq, i32_gI, i64_gJ, i32_id, i32_to, i64_to, sI_i32, sJ_i64, b01_t, b01_f, i32_b01, b01_0, ↓a_s0, ↓n_s0, ↓a_s1, ↓n_s1, Int.add_zero, t_lt, f_lt, t_le, f_le, t_eq, f_eq, true_and, and_true, false_and, and_false, and_self, ↓reduceIte, z_bool_of, or_true, true_or, or_false, false_or, Int.neg_neg, not_true_eq_false, not_false_eq_true, lg_lt, lg_le, lg_gt, lg_ge, lg_eq, j_lit, j_add, j_sub, j_mul, j_neg, j_eq, i64_id, ij, ji, z_rt, Nat.reduceEqDiff, Nat.reduceAdd, Int.reduceAdd, Int.reduceSub, Int.reduceMul, Int.reduceNeg, Int.reduceLT, Int.reduceLE, Int.reduceEq, k23, f1, f2, f3, hS3e, wi, q, d23]
      · rw [IM_fr (S := S5) (fun a i q => e6 _ _ (by omega)), c5 i hi, hI4]
      · rw [e6 _ _ (by omega), e5, e3 _ _ (by omega)]
      · rw [e6 _ _ (by omega), c7.2.1 _ _ (by omega) (by omega), b3.2.1 _ _ (by omega), e3 _ _ (by omega)]
  · rw [if_neg q]
    have e6 : ∀ (a : Nat) (i : Int), ¬ (a = 82 ∧ i = x + 6) → gI (sI S3 82 (x + 6) k) a i = gI S3 a i := fun a i w => by rw [gI_sI, if_neg (by omega)]
    refine ⟨sI S3 82 (x + 6) k, k, ?_, hS3.f2 (fun i _ => e6 _ _ (by omega)) (fun i => e6 _ _ (by omega)) rfl, by rw [e6 _ _ (by omega)]; exact g4, by rw [e6 _ _ (by omega)]; exact g5, by rw [gI_sI, if_pos ⟨rfl, rfl⟩, i32_id (by omega) (by omega)], rfl, fun i hi => ?_, fun i hi => ?_, Nat.le_refl _, Int.le_refl _, ?_, hF3.tr (FrLw.I (by omega))⟩
    · simp (disch := first | omega | assumption | exact b01_rng _ | exact st_5 | exact st_12 | exact st_19 | (simp only [isSt_sI, isSt_sJ, isSt_sF, isSt_sG, isSt_sA]; assumption)) only [↓B199_0, ↓B199_4, ↓B199_9, ↓B199_19, ↓B199_22, ↓B199_26, ↓B199_27, ↓B199_34, ↓B199_40, ↓B199_49, ↓B199_53, ↓B199_54, ↓B199_57, ↓B199_64, ↓B199_65, ↓B199_75, ↓B199_81, ↓B199_96, ↓B199_129, ↓B199_134, ↓B199_165, ↓B199_172, ↓B199_175, ↓B199_179, ↓B199_184, ↓a_82, ↓a_89, ↓n_82, ↓n_89, ↓o_72, ↓r_72_19, ↓r_72_21, ↓r_72_22, ↓r_72_23, ↓r_72_33, ↓s_82, ↓s_89, ↓w_72_21, c177, i_lit, i_add, i_sub, i_mul, i_neg, i_lt, i_le, i_eq, i32_gI, i64_gJ, i32_id, i32_to, i64_to, sI_i32, sJ_i64, b01_t, b01_f, i32_b01, b01_0, ↓a_s0, ↓n_s0, ↓a_s1, ↓n_s1, Int.add_zero, t_lt, f_lt, t_le, f_le, t_eq, f_eq, true_and, and_true, false_and, and_false, and_self, ↓reduceIte, z_bool_of, or_true, true_or, or_false, false_or, Int.neg_neg, not_true_eq_false, not_false_eq_true, lg_lt, lg_le, lg_gt, lg_ge, lg_eq, j_lit, j_add, j_sub, j_mul, j_neg, j_eq, i64_id, ij, ji, z_rt, Nat.reduceEqDiff, Nat.reduceAdd, Int.reduceAdd, Int.reduceSub, Int.reduceMul, Int.reduceNeg, Int.reduceLT, Int.reduceLE, Int.reduceEq, k23, f1, f2, f3, hS3e, wi, q]
    · rw [IM_fr (S := S3) (fun a i q => e6 _ _ (by omega)), hI3]
    · rw [e6 _ _ (by omega), e3 _ _ (by omega)]
    · rw [e6 _ _ (by omega), e3 _ _ (by omega)]
