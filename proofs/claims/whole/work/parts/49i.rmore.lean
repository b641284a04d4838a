/-! the reference: reach, length -/
section
variable {X : zX} {d : Nat} {E : Ln} {f : Int → Int → Int} {M : Int}
theorem RcR.step {S : zS} {n s t v : Int} (hs : 0 ≤ s) (ht : 0 ≤ t ∧ t ≤ n) (hn : n ≤ 200) (h : RcR S E n s t) (hv : (v = 1 ∧ Gs E (UA S n) t s) ∨ (v = 0 ∧ ¬ Gs E (UA S n) t s)) : RcR (sI S 108 (201 * s + t) v) E n s (t + 1) := by
  intro s' t' q0 q1 q2 q4
  have hu : UA (sI S 108 (201 * s + t) v) n = UA S n := FrRc.ua (S := S) FrRc.I
  rw [hu, gI_sI]
  by_cases w : s' = s ∧ t' = t
  · obtain ⟨rfl, rfl⟩ := w
    rw [if_pos ⟨rfl, rfl⟩, i32_id (by omega) (by omega)]
    exact hv
  · rw [if_neg (by omega)]
    exact h s' t' q0 q1 q2 (by omega)
/-- the latest place that was reached -/
def ItR (E : Ln) (U : Au) (n s t its : Int) : Prop := (0 ≤ its ∧ its ≤ s) ∧ (its = 0 ∨ ∃ q, 0 ≤ q ∧ q ≤ n ∧ Gs E U q its) ∧ (∀ p q, its < p → p < s → 0 ≤ q → q ≤ n → ¬ Gs E U q p) ∧ (its < s → ∀ q, 0 ≤ q → q < t → ¬ Gs E U q s)
abbrev L238 (m its s : Int) (x4 : Option Value) : zL := [some (.ref 72), some (.int (Int32.ofInt m)), some (.int (Int32.ofInt its)), some (.int (Int32.ofInt s)), x4]
theorem l238i (hd : 1 < d) (hB : PrB E f M 100000000) (hn : 0 ≤ E.1 ∧ E.1 ≤ 20) (hE : ∀ p v, E.2.2 p v → 0 ≤ p) {n s m : Int} (hn2 : 1 ≤ n ∧ n ≤ 200) (hs : 0 ≤ s ∧ s ≤ E.1) : ∀ (c : Nat) (t its : Int) (S : zS), t + c = n + 1 → 0 ≤ t → Laid S E f n → RcR S E n s t → ItR E (UA S n) n s t its → ∃ (S' : zS) (its' : Int), z_ev X d (238, 42, L238 m its s (vI t), [], mk S) = z_ev X d (238, 99, L238 m its' s (vI (n + 1)), [], mk S') ∧ FrRc S S' ∧ RcR S' E n s (n + 1) ∧ ItR E (UA S n) n s (n + 1) its' := by
  intro c
  induction c with
  | zero =>
    intro t its S hc ht hL hR hI
    have : t = n + 1 := by omega
    subst this
    refine ⟨S, its, ?_, FrRc.rf, hR, hI⟩
    have h51 := hL.2.1
    rw [B238_42]
    simp (disch := first | omega | assumption | exact b01_rng _ | exact st_5 | exact st_12 | exact st_19 | (simp only [isSt_sI, isSt_sJ, isSt_sF, isSt_sG, isSt_sA]; assumption)) only [↓a_108, ↓a_74, ↓n_108, ↓n_74, ↓o_72, ↓r_72_3, ↓r_72_51, ↓r_72_60, ↓s_108, ↓s_74, ↓w_72_0, i_lit, i_add, i_sub, i_mul, i_neg, i_lt, i_le, i_eq, i32_gI, i64_gJ, i32_id, i32_to, i64_to, sI_i32, sJ_i64, b01_t, b01_f, i32_b01, b01_0, ↓a_s0, ↓n_s0, ↓a_s1, ↓n_s1, Int.add_zero, t_lt, f_lt, t_le, f_le, t_eq, f_eq, true_and, and_true, false_and, and_false, and_self, ↓reduceIte, z_bool_of, or_true, true_or, or_false, false_or, Int.neg_neg, not_true_eq_false, not_false_eq_true, lg_lt, lg_le, lg_gt, lg_ge, lg_eq, j_lit, j_add, j_sub, j_mul, j_neg, j_eq, i64_id, ij, ji, z_rt, Nat.reduceEqDiff, Nat.reduceAdd, Int.reduceAdd, Int.reduceSub, Int.reduceMul, Int.reduceNeg, Int.reduceLT, Int.reduceLE, Int.reduceEq, h51]
  | succ c ih =>
    intro t its S hc ht hL hR hI
    have h51 := hL.2.1
    obtain ⟨v, e1, e2⟩ := x237 (X := X) (d := 1) (by omega) hB hn hE hn2 hL hs (t := t) (by omega) hR
    have ev := fun {cm cp : Nat} {L : zL} {st : List Value} => evI (X := X) (d := d) hd e1 (cm := cm) (cp := cp) (L := L) (st := st)
    have hu : UA (sI S 108 (201 * s + t) v) n = UA S n := FrRc.ua (S := S) FrRc.I
    obtain ⟨i1, i2, i3, i4⟩ := hI
    have hI' : ItR E (UA S n) n s (t + 1) (if v = 1 then s else its) := by
      rcases e2 with ⟨w1, w2⟩ | ⟨w1, w2⟩
      · rw [if_pos w1]
        exact ⟨by omega, Or.inr ⟨t, ht, by omega, w2⟩, fun p q q1 q2 => by omega, fun q => by omega⟩
      · rw [if_neg (by omega)]
        refine ⟨i1, i2, i3, fun w q q1 q2 => ?_⟩
        by_cases e : q = t
        · subst e; exact w2
        · exact i4 w q q1 (by omega)
    obtain ⟨S', its', w1, w2, w3, w4⟩ := ih (t + 1) (if v = 1 then s else its) (sI S 108 (201 * s + t) v) (by omega) (by omega) (hL.rc FrRc.I) (hR.step hs.1 (by omega) hn2.2 e2) (by rw [hu]; exact hI')
    rw [hu] at w4
    refine ⟨S', its', ?_, FrRc.I.tr w2, w3, w4⟩
    rw [← w1, B238_42]
    rcases e2 with ⟨u, -⟩ | ⟨u, -⟩
    · subst u
      rw [if_pos rfl]
      simp (disch := first | omega | assumption | exact b01_rng _ | exact st_5 | exact st_12 | exact st_19 | (simp only [isSt_sI, isSt_sJ, isSt_sF, isSt_sG, isSt_sA]; assumption)) only [↓B238_51, ↓B238_70, ↓B238_87, ↓B238_92, ↓a_108, ↓a_74, ↓n_108, ↓n_74, ↓o_72, ↓r_72_3, ↓r_72_51, ↓r_72_60, ↓s_108, ↓s_74, ↓w_72_0, ↓o_72, ev, i_lit, i_add, i_sub, i_mul, i_neg, i_lt, i_le, i_eq, i32_gI, i64_gJ, i32_id, i32_to, i64_to, sI_i32, sJ_i64, b01_t, b01_f, i32_b01, b01_0, ↓a_s0, ↓n_s0, ↓a_s1, ↓n_s1, Int.add_zero, t_lt, f_lt, t_le, f_le, t_eq, f_eq, true_and, and_true, false_and, and_false, and_self, ↓reduceIte, z_bool_of, or_true, true_or, or_false, false_or, Int.neg_neg, not_true_eq_false, not_false_eq_true, lg_lt, lg_le, lg_gt, lg_ge, lg_eq, j_lit, j_add, j_sub, j_mul, j_neg, j_eq, i64_id, ij, ji, z_rt, Nat.reduceEqDiff, Nat.reduceAdd, Int.reduceAdd, Int.reduceSub, Int.reduceMul, Int.reduceNeg, Int.reduceLT, Int.reduceLE, Int.reduceEq, gI_sI, gI_sJ, gI_sF, gI_sG, gI_sQ, gI_sA, gJ_sI, gJ_sJ, gJ_sF, gJ_sG, gJ_sQ, gJ_sA, gQ_sI, gQ_sJ, gQ_sF, gQ_sG, gQ_sQ, gQ_sA, gH_sI, gH_sJ, gH_sF, gH_sG, gH_sQ, gH_sA, gN_sI, gN_sJ, gN_sF, gN_sG, gN_sQ, gN_sA, gW_sI, gW_sJ, gW_sF, gW_sG, gW_sQ, gW_sA, h51]
    · subst u
      rw [if_neg (by omega)]
      simp (disch := first | omega | assumption | exact b01_rng _ | exact st_5 | exact st_12 | exact st_19 | (simp only [isSt_sI, isSt_sJ, isSt_sF, isSt_sG, isSt_sA]; assumption)) only [↓B238_51, ↓B238_70, ↓B238_91, ↓B238_92, ↓a_108, ↓a_74, ↓n_108, ↓n_74, ↓o_72, ↓r_72_3, ↓r_72_51, ↓r_72_60, ↓s_108, ↓s_74, ↓w_72_0, ↓o_72, ev, i_lit, i_add, i_sub, i_mul, i_neg, i_lt, i_le, i_eq, i32_gI, i64_gJ, i32_id, i32_to, i64_to, sI_i32, sJ_i64, b01_t, b01_f, i32_b01, b01_0, ↓a_s0, ↓n_s0, ↓a_s1, ↓n_s1, Int.add_zero, t_lt, f_lt, t_le, f_le, t_eq, f_eq, true_and, and_true, false_and, and_false, and_self, ↓reduceIte, z_bool_of, or_true, true_or, or_false, false_or, Int.neg_neg, not_true_eq_false, not_false_eq_true, lg_lt, lg_le, lg_gt, lg_ge, lg_eq, j_lit, j_add, j_sub, j_mul, j_neg, j_eq, i64_id, ij, ji, z_rt, Nat.reduceEqDiff, Nat.reduceAdd, Int.reduceAdd, Int.reduceSub, Int.reduceMul, Int.reduceNeg, Int.reduceLT, Int.reduceLE, Int.reduceEq, gI_sI, gI_sJ, gI_sF, gI_sG, gI_sQ, gI_sA, gJ_sI, gJ_sJ, gJ_sF, gJ_sG, gJ_sQ, gJ_sA, gQ_sI, gQ_sJ, gQ_sF, gQ_sG, gQ_sQ, gQ_sA, gH_sI, gH_sJ, gH_sF, gH_sG, gH_sQ, gH_sA, gN_sI, gN_sJ, gN_sF, gN_sG, gN_sQ, gN_sA, gW_sI, gW_sJ, gW_sF, gW_sG, gW_sQ, gW_sA, h51]
theorem l238 (hd : 1 < d) (hB : PrB E f M 100000000) (hn : 0 ≤ E.1 ∧ E.1 ≤ 20) (hE : ∀ p v, E.2.2 p v → 0 ≤ p) {n m : Int} (hn2 : 1 ≤ n ∧ n ≤ 200) : ∀ (c : Nat) (s its : Int) (S : zS) (x4 : Option Value), s + c = E.1 + 1 → 0 ≤ s → Laid S E f n → RcR S E n s 0 → (0 < s → ItR E (UA S n) n (s - 1) (n + 1) its) → (s = 0 → its = 0) → ∃ (S' : zS) (its' : Int), z_ev X d (238, 29, L238 m its s x4, [], mk S) = some (vI its', mk S') ∧ FrRc S S' ∧ ItR E (UA S n) n E.1 (n + 1) its' := by
  intro c
  induction c with
  | zero =>
    intro s its S x4 hc hs hL hR hI h0
    have : s = E.1 + 1 := by omega
    subst this
    have hI := hI (by omega)
    rw [show E.1 + 1 - 1 = E.1 by omega] at hI
    refine ⟨S, its, ?_, FrRc.rf, hI⟩
    have l1 := hL.1
    rw [B238_29]
    simp (disch := first | omega | assumption | exact b01_rng _ | exact st_5 | exact st_12 | exact st_19 | (simp only [isSt_sI, isSt_sJ, isSt_sF, isSt_sG, isSt_sA]; assumption)) only [↓B238_105, ↓a_108, ↓a_74, ↓n_108, ↓n_74, ↓o_72, ↓r_72_3, ↓r_72_51, ↓r_72_60, ↓s_108, ↓s_74, ↓w_72_0, i_lit, i_add, i_sub, i_mul, i_neg, i_lt, i_le, i_eq, i32_gI, i64_gJ, i32_id, i32_to, i64_to, sI_i32, sJ_i64, b01_t, b01_f, i32_b01, b01_0, ↓a_s0, ↓n_s0, ↓a_s1, ↓n_s1, Int.add_zero, t_lt, f_lt, t_le, f_le, t_eq, f_eq, true_and, and_true, false_and, and_false, and_self, ↓reduceIte, z_bool_of, or_true, true_or, or_false, false_or, Int.neg_neg, not_true_eq_false, not_false_eq_true, lg_lt, lg_le, lg_gt, lg_ge, lg_eq, j_lit, j_add, j_sub, j_mul, j_neg, j_eq, i64_id, ij, ji, z_rt, Nat.reduceEqDiff, Nat.reduceAdd, Int.reduceAdd, Int.reduceSub, Int.reduceMul, Int.reduceNeg, Int.reduceLT, Int.reduceLE, Int.reduceEq, l1]
  | succ c ih =>
    intro s its S x4 hc hs hL hR hI h0
    have l1 := hL.1
    have hib : 0 ≤ its ∧ its ≤ s := by
      by_cases q : s = 0
      · have := h0 q; omega
      · have := (hI (by omega)).1; omega
    have hI0 : ItR E (UA S n) n s 0 its := by
      by_cases q : s = 0
      · have := h0 q
        subst this
        exact ⟨by omega, Or.inl rfl, fun p q q1 q2 => by omega, fun _ q q1 q2 => by omega⟩
      · obtain ⟨i1, i2, i3, i4⟩ := hI (by omega)
        refine ⟨by omega, i2, fun p q' q1 q2 q3 q4 => ?_, fun _ q q1 q2 => by omega⟩
        by_cases e : p = s - 1
        · subst e; exact i4 q1 q' q3 (by omega)
        · exact i3 p q' q1 (by omega) q3 q4
    obtain ⟨S1, its1, e1, e2, e3, e4⟩ := l238i (X := X) (d := d) (m := m) hd hB hn hE hn2 (s := s) (by omega) (n + 1).toNat 0 its S (by omega) (by omega) hL hR hI0
    have hu := e2.ua (n := n)
    obtain ⟨S', its', w1, w2, w3⟩ := ih (s + 1) its1 S1 (vI (n + 1)) (by omega) (by omega) (hL.rc e2) (fun s' t' q1 q2 q3 q4 => e3 s' t' q1 q2 q3 (by omega)) (fun _ => by rw [hu, show s + 1 - 1 = s by omega]; exact e4) (fun q => by omega)
    rw [hu] at w3
    refine ⟨S', its', ?_, e2.tr w2, w3⟩
    have b1 := e4.1
    have st : z_ev X d (238, 29, L238 m its s x4, [], mk S) = z_ev X d (238, 42, L238 m its s (vI 0), [], mk S) := by
      rw [B238_29]
      simp (disch := first | omega | assumption | exact b01_rng _ | exact st_5 | exact st_12 | exact st_19 | (simp only [isSt_sI, isSt_sJ, isSt_sF, isSt_sG, isSt_sA]; assumption)) only [↓B238_39, ↓a_108, ↓a_74, ↓n_108, ↓n_74, ↓o_72, ↓r_72_3, ↓r_72_51, ↓r_72_60, ↓s_108, ↓s_74, ↓w_72_0, i_lit, i_add, i_sub, i_mul, i_neg, i_lt, i_le, i_eq, i32_gI, i64_gJ, i32_id, i32_to, i64_to, sI_i32, sJ_i64, b01_t, b01_f, i32_b01, b01_0, ↓a_s0, ↓n_s0, ↓a_s1, ↓n_s1, Int.add_zero, t_lt, f_lt, t_le, f_le, t_eq, f_eq, true_and, and_true, false_and, and_false, and_self, ↓reduceIte, z_bool_of, or_true, true_or, or_false, false_or, Int.neg_neg, not_true_eq_false, not_false_eq_true, lg_lt, lg_le, lg_gt, lg_ge, lg_eq, j_lit, j_add, j_sub, j_mul, j_neg, j_eq, i64_id, ij, ji, z_rt, Nat.reduceEqDiff, Nat.reduceAdd, Int.reduceAdd, Int.reduceSub, Int.reduceMul, Int.reduceNeg, Int.reduceLT, Int.reduceLE, Int.reduceEq, l1]
    rw [st, e1, ← w1]
    simp (disch := first | omega | assumption | exact b01_rng _ | exact st_5 | exact st_12 | exact st_19 | (simp only [isSt_sI, isSt_sJ, isSt_sF, isSt_sG, isSt_sA]; assumption)) only [↓B238_99, i_lit, i_add, i_sub, i_mul, i_neg, i_lt, i_le, i_eq, i32_gI, i64_gJ, i32_id, i32_to, i64_to, sI_i32, sJ_i64, b01_t, b01_f, i32_b01, b01_0, ↓a_s0, ↓n_s0, ↓a_s1, ↓n_s1, Int.add_zero, t_lt, f_lt, t_le, f_le, t_eq, f_eq, true_and, and_true, false_and, and_false, and_self, ↓reduceIte, z_bool_of, or_true, true_or, or_false, false_or, Int.neg_neg, not_true_eq_false, not_false_eq_true, lg_lt, lg_le, lg_gt, lg_ge, lg_eq, j_lit, j_add, j_sub, j_mul, j_neg, j_eq, i64_id, ij, ji, z_rt, Nat.reduceEqDiff, Nat.reduceAdd, Int.reduceAdd, Int.reduceSub, Int.reduceMul, Int.reduceNeg, Int.reduceLT, Int.reduceLE, Int.reduceEq]
/-- reach, behind the question whether there is such a metre -/
theorem x238 (hd : 9 < d) {S : zS} {cls : List Cl} (hQ : RefQ S cls) {m : Int} (hm : 0 ≤ m ∧ m < 6) {x : T3} (hX : MtR (gI S 74) (80 + 402 * m) x) : ∃ (S' : zS) (r : Int), z_ev X d (238, 15, [some (.ref 72), some (.int (Int32.ofInt m)), none, none, none], [], mk S) = some (vI r, mk S') ∧ FrQm S S' ∧ IsFar (LnH 0 cls (gI S 74)) x.1 r := by
  obtain ⟨S1, a1, a2, a3⟩ := x220 (X := X) (d := 9) (by omega) hm hX
  have evA := fun {cm cp : Nat} {L : zL} {st : List Value} => evV (X := X) (d := d) hd a1 (cm := cm) (cp := cp) (L := L) (st := st)
  have g1 := a2.q.g
  obtain ⟨q1, q2, q3, q4⟩ := hQ.fr a2.q
  obtain ⟨S2, b1, b2, b3⟩ := x223 (X := X) (d := 9) (cls := cls) (by omega) (S := S1) (how := 0) (by omega) q1 q2 q3 q4
  have evB := fun {cm cp : Nat} {L : zL} {st : List Value} => evV (X := X) (d := d) hd b1 (cm := cm) (cp := cp) (L := L) (st := st)
  have g2 := b2.q.g
  rw [g1] at b3
  have hk := hQ.2.2.2.1.1
  obtain ⟨y1, y2, y3, y4, y5, y6⟩ := a3
  have k : ∀ b i, 99 ≤ b → b ≤ 102 → gI S2 b i = gI S1 b i := fun b i w1 w2 => b2.2.1 b i (by omega) (by omega)
  have hlaid : Laid S2 (LnH 0 cls (gI S 74)) (fH 0 cls (gI S 74)) x.2.1 := ⟨by rw [g2, g1], by rw [b2.2.1 72 51 (by omega) (by omega)]; exact y1, fun i w1 w2 => by rw [k 101 i (by omega) (by omega), k 102 i (by omega) (by omega), k 99 i (by omega) (by omega)]; exact y3 i w1 w2, fun s o w1 w2 w3 => by rw [k 100 _ (by omega) (by omega)]; exact y4 s o w1 w2 w3, PrS_R hk b3, CuR_R (by rw [g2, g1])⟩
  have hu : UA S2 x.2.1 = UA S1 x.2.1 := UA_cg (fun i => k 99 i (by omega) (by omega)) (fun i => k 100 i (by omega) (by omega)) (fun i => k 102 i (by omega) (by omega))
  have hg := hQ.1.1
  obtain ⟨S3, its, c1, c2, c3⟩ := l238 (X := X) (d := d) (m := m) (by omega) (PrB_R (how := 0) hQ.1 hk) hg (fun p v w => w.1.1) (n := x.2.1) (by omega) (gI S 74 0 + 1).toNat 0 0 S2 none (by show (0 : Int) + _ = gI S 74 0 + 1; omega) (by omega) hlaid (fun s' t' w1 w2 w3 w4 => by omega) (fun w => by omega) (fun _ => rfl)
  refine ⟨S3, its, ?_, (a2.q.tr b2.q).tr c2.q, ?_⟩
  · rw [← c1]
    simp (disch := first | omega | assumption | exact b01_rng _ | exact st_5 | exact st_12 | exact st_19 | (simp only [isSt_sI, isSt_sJ, isSt_sF, isSt_sG, isSt_sA]; assumption)) only [↓B238_15, ↓B238_20, ↓B238_25, ↓o_72, evA, evB, i_lit, i_add, i_sub, i_mul, i_neg, i_lt, i_le, i_eq, i32_gI, i64_gJ, i32_id, i32_to, i64_to, sI_i32, sJ_i64, b01_t, b01_f, i32_b01, b01_0, ↓a_s0, ↓n_s0, ↓a_s1, ↓n_s1, Int.add_zero, t_lt, f_lt, t_le, f_le, t_eq, f_eq, true_and, and_true, false_and, and_false, and_self, ↓reduceIte, z_bool_of, or_true, true_or, or_false, false_or, Int.neg_neg, not_true_eq_false, not_false_eq_true, lg_lt, lg_le, lg_gt, lg_ge, lg_eq, j_lit, j_add, j_sub, j_mul, j_neg, j_eq, i64_id, ij, ji, z_rt, Nat.reduceEqDiff, Nat.reduceAdd, Int.reduceAdd, Int.reduceSub, Int.reduceMul, Int.reduceNeg, Int.reduceLT, Int.reduceLE, Int.reduceEq]
  · obtain ⟨i1, i2, i3, i4⟩ := c3
    rw [hu] at i2 i3 i4
    have hGs : ∀ q : Int, Gu (LnH 0 cls (gI S 74)) x.1 0 q ↔ ∃ s, 0 ≤ s ∧ s ≤ (x.2.1 : Int) ∧ Gs (LnH 0 cls (gI S 74)) (UA S1 x.2.1) s q := fun q => by
      rw [← y5]
      exact Gu_Gs y6 (by omega) (fun s o w => by have := w.1; omega)
    refine ⟨i1.1, i1.2, ?_, fun p w1 w2 w3 => ?_⟩
    · rcases i2 with w | w
      · exact Or.inl w
      · exact Or.inr ((hGs its).mpr w)
    · obtain ⟨s, v1, v2, v3⟩ := (hGs p).mp w3
      by_cases e : p = gI S 74 0
      · subst e; exact i4 w1 s v1 (by omega) v3
      · exact i3 p s w1 (show p < gI S 74 0 by have : p ≤ gI S 74 0 := w2; omega) v1 v2 v3
end
/-! how long lines are -/
def LM (what : Int) (A : Lg) (v : Int) : Prop := if what = 0 then LMin A v else LMax A v
theorem LM.uniq {what : Int} {A : Lg} {u v : Int} (h1 : LM what A u) (h2 : LM what A v) : u = v := by
  unfold LM at h1 h2
  split at h1
  · next q => rw [if_pos q] at h2; exact h1.uniq h2
  · next q => rw [if_neg q] at h2; exact h1.uniq h2
def Stv (what : Int) (hp : Int → Int) : List T3 → Int → Prop
  | [], tot => tot = 0
  | x :: st, tot => ∃ v, hp st.length = v ∧ LM what x.1 v ∧ (0 ≤ v ∧ v ≤ x.2.1) ∧ Stv what hp st (tot - x.2.1)
theorem Stv.cg {what : Int} {hp hq : Int → Int} : ∀ {st : List T3} {tot : Int}, Stv what hp st tot → (∀ i : Int, 0 ≤ i → i < st.length → hq i = hp i) → Stv what hq st tot := by
  intro st
  induction st with
  | nil => intro tot h _; exact h
  | cons x st ih =>
    intro tot h h0
    obtain ⟨v, e1, e2, e3, e4⟩ := h
    exact ⟨v, by rw [h0 _ (by omega) (by rw [List.length_cons]; omega)]; exact e1, e2, e3, ih e4 (fun i q1 q2 => h0 i q1 (by rw [List.length_cons]; omega))⟩
theorem Stv.nn {what : Int} {hp : Int → Int} : ∀ {st : List T3} {tot : Int}, Stv what hp st tot → 0 ≤ tot := by
  intro st
  induction st with
  | nil => intro tot h; have : tot = 0 := h; omega
  | cons x st ih =>
    intro tot h
    obtain ⟨v, e1, e2, e3, e4⟩ := h
    have := ih e4
    omega
section
variable {X : zX} {d : Nat}
abbrev L239 (m what at_ top k : Int) (x6 x7 x8 : Option Value) : zL := [some (.ref 72), some (.int (Int32.ofInt m)), some (.int (Int32.ofInt what)), some (.int (Int32.ofInt at_)), some (.int (Int32.ofInt top)), some (.int (Int32.ofInt k)), x6, x7, x8]
def FrHp (S S' : zS) : Prop := Dyn S S' ∧ (∀ a i, a ≠ 97 → gI S' a i = gI S a i) ∧ (∀ a i, gJ S' a i = gJ S a i) ∧ (∀ a i, gQ S' a i = gQ S a i)
theorem FrHp.rf {S : zS} : FrHp S S := ⟨Dyn.rf, fun _ _ _ => rfl, fun _ _ => rfl, fun _ _ => rfl⟩
theorem FrHp.tr {A B C : zS} (h1 : FrHp A B) (h2 : FrHp B C) : FrHp A C := ⟨h1.1.tr h2.1, fun a i q => (h2.2.1 a i q).trans (h1.2.1 a i q), fun a i => (h2.2.2.1 a i).trans (h1.2.2.1 a i), fun a i => (h2.2.2.2 a i).trans (h1.2.2.2 a i)⟩
theorem FrHp.I {S : zS} {i x : Int} : FrHp S (sI S 97 i x) := ⟨Dyn.sI (by decide) Dyn.rf, fun b j q => by rw [gI_sI, if_neg (by omega)], fun _ _ => rfl, fun _ _ => rfl⟩
theorem FrHp.q {S S' : zS} (h : FrHp S S') : FrQm S S' := ⟨h.1, fun a i q r s => h.2.1 a i q, fun a i _ _ => h.2.2.1 a i, h.2.2.2⟩
theorem l239 {m what at_ : Int} (hw : what = 0 ∨ what = 1) (hat : 80 ≤ at_ ∧ at_ ≤ 2090) : ∀ (r : List Int) (k tot : Int) (S : zS) (st : List T3) (x6 x7 x8 : Option Value), 0 ≤ k → gI S 74 at_ = k + r.length → gI S 74 at_ ≤ 400 → (∀ (j : Nat) (y : Int), r[j]? = some y → gI S 74 (at_ + 1 + (k + j)) = y) → vld r st.length → (∀ y ∈ r, 0 ≤ y ∧ y ≤ 5) → (st.length : Int) ≤ k → tot + nst r ≤ 200 → Stv what (gI S 97) st tot → ∃ (S' : zS) (y3 : Int) (y6 y7 y8 : Option Value), z_ev X d (239, 40, L239 m what at_ st.length k x6 x7 x8, [], mk S) = z_ev X d (239, 177, L239 m what at_ y3 (k + r.length) y6 y7 y8, [], mk S') ∧ FrHp S S' ∧ Stv what (gI S' 97) (r.foldl dst3 st) (tot + nst r) := by
  intro r
  induction r with
  | nil =>
    intro k tot S st x6 x7 x8 hk hlen h400 hops hv hr hle h200 hF
    have e0 : (([] : List Int).length : Int) = 0 := rfl
    have e1 : (nst [] : Int) = 0 := rfl
    rw [e0, Int.add_zero] at hlen
    rw [e0, e1, Int.add_zero, Int.add_zero]
    refine ⟨S, st.length, x6, x7, x8, ?_, FrHp.rf, hF⟩
    rw [B239_40]
    simp (disch := first | omega | assumption | exact b01_rng _ | exact st_5 | exact st_12 | exact st_19 | (simp only [isSt_sI, isSt_sJ, isSt_sF, isSt_sG, isSt_sA]; assumption)) only [↓a_74, ↓a_97, ↓n_74, ↓n_97, ↓o_72, ↓r_72_3, ↓r_72_48, ↓s_74, ↓s_97, ↓w_72_0, i_lit, i_add, i_sub, i_mul, i_neg, i_lt, i_le, i_eq, i32_gI, i64_gJ, i32_id, i32_to, i64_to, sI_i32, sJ_i64, b01_t, b01_f, i32_b01, b01_0, ↓a_s0, ↓n_s0, ↓a_s1, ↓n_s1, Int.add_zero, t_lt, f_lt, t_le, f_le, t_eq, f_eq, true_and, and_true, false_and, and_false, and_self, ↓reduceIte, z_bool_of, or_true, true_or, or_false, false_or, Int.neg_neg, not_true_eq_false, not_false_eq_true, lg_lt, lg_le, lg_gt, lg_ge, lg_eq, j_lit, j_add, j_sub, j_mul, j_neg, j_eq, i64_id, ij, ji, z_rt, Nat.reduceEqDiff, Nat.reduceAdd, Int.reduceAdd, Int.reduceSub, Int.reduceMul, Int.reduceNeg, Int.reduceLT, Int.reduceLE, Int.reduceEq, hlen]
  | cons op r ih =>
    intro k tot S st x6 x7 x8 hk hlen h400 hops hv hr hle h200 hF
    have hop : gI S 74 (at_ + 1 + k) = op := by
      have := hops 0 op rfl
      rw [show at_ + 1 + (k + ((0 : Nat) : Int)) = at_ + 1 + k by omega] at this; exact this
    have hlc : (((op :: r).length : Nat) : Int) = r.length + 1 := by rw [List.length_cons]; omega
    rw [hlc] at hlen
    have hro := hr op (List.mem_cons_self ..)
    have hr' := fun y hy => hr y (List.mem_cons_of_mem _ hy)
    have hops' : ∀ (S' : zS), FrHp S S' → ∀ (j : Nat) (y : Int), r[j]? = some y → gI S' 74 (at_ + 1 + (k + 1 + j)) = y := fun S' hfr j y hy => by
      have := hops (j + 1) y hy
      rw [hfr.2.1 74 _ (by omega), show at_ + 1 + (k + 1 + (j : Int)) = at_ + 1 + (k + ((j + 1 : Nat) : Int)) by omega]; exact this
    have hfold : (op :: r).foldl dst3 st = r.foldl dst3 (dst3 st op) := rfl
    rw [hfold, hlc]
    by_cases q : op < 4
    · have hns : nst (op :: r) = nst r + 1 := by
        unfold nst; rw [List.filter_cons, if_pos (by rw [decide_eq_true_eq]; exact q), List.length_cons]
      rw [hns] at h200 ⊢
      have hv' : vld r (st.length + 1) := by
        have : (if op < 4 then 0 ≤ op ∧ vld r (st.length + 1) else _) := hv
        rw [if_pos q] at this; exact this.2
      have hd3 : dst3 st op = (l1 op, 1, [op]) :: st := by unfold dst3; rw [if_pos q]
      have hrd : 0 ≤ rd1 op ∧ rd1 op ≤ 1 := by unfold rd1; split <;> omega
      have f1 : FrHp S (sI S 97 st.length (rd1 op)) := FrHp.I
      obtain ⟨S', y3, y6, y7, y8, w1, w2, w3⟩ := ih (k + 1) (tot + 1) (sI S 97 st.length (rd1 op)) (dst3 st op) (vI op) x7 x8 (by omega) (by rw [f1.2.1 74 _ (by omega)]; omega) (by rw [f1.2.1 74 _ (by omega)]; exact h400) (hops' _ f1) (by rw [hd3]; exact hv') hr' (by rw [hd3, List.length_cons]; omega) (by omega) (by
        rw [hd3]
        refine ⟨rd1 op, by rw [gI_sI, if_pos ⟨rfl, rfl⟩, i32_id (by omega) (by omega)], ?_, ⟨hrd.1, hrd.2⟩, ?_⟩
        · unfold LM
          split
          · exact LMin.one op
          · exact LMax.one op
        · rw [show tot + 1 - ((1 : Nat) : Int) = tot by omega]
          exact hF.cg (fun i q1 q2 => by rw [gI_sI, if_neg (by omega)]))
      refine ⟨S', y3, y6, y7, y8, ?_, f1.tr w2, by rw [show tot + ((nst r + 1 : Nat) : Int) = tot + 1 + nst r by omega]; exact w3⟩
      rw [show k + ((r.length : Int) + 1) = k + 1 + r.length by omega, ← w1, hd3]
      show _ = z_ev X d (239, 40, L239 m what at_ ((st.length + 1 : Nat) : Int) (k + 1) (vI op) x7 x8, [], mk (sI S 97 st.length (rd1 op)))
      rw [show ((st.length + 1 : Nat) : Int) = (st.length : Int) + 1 by omega, B239_40]
      unfold rd1
      by_cases q3 : op = 3
      · rw [if_pos q3]
        simp (disch := first | omega | assumption | exact b01_rng _ | exact st_5 | exact st_12 | exact st_19 | (simp only [isSt_sI, isSt_sJ, isSt_sF, isSt_sG, isSt_sA]; assumption)) only [↓B239_51, ↓B239_70, ↓B239_82, ↓B239_87, ↓B239_171, ↓a_74, ↓a_97, ↓n_74, ↓n_97, ↓o_72, ↓r_72_3, ↓r_72_48, ↓s_74, ↓s_97, ↓w_72_0, i_lit, i_add, i_sub, i_mul, i_neg, i_lt, i_le, i_eq, i32_gI, i64_gJ, i32_id, i32_to, i64_to, sI_i32, sJ_i64, b01_t, b01_f, i32_b01, b01_0, ↓a_s0, ↓n_s0, ↓a_s1, ↓n_s1, Int.add_zero, t_lt, f_lt, t_le, f_le, t_eq, f_eq, true_and, and_true, false_and, and_false, and_self, ↓reduceIte, z_bool_of, or_true, true_or, or_false, false_or, Int.neg_neg, not_true_eq_false, not_false_eq_true, lg_lt, lg_le, lg_gt, lg_ge, lg_eq, j_lit, j_add, j_sub, j_mul, j_neg, j_eq, i64_id, ij, ji, z_rt, Nat.reduceEqDiff, Nat.reduceAdd, Int.reduceAdd, Int.reduceSub, Int.reduceMul, Int.reduceNeg, Int.reduceLT, Int.reduceLE, Int.reduceEq, hop, q3]
      · rw [if_neg q3]
        simp (disch := first | omega | assumption | exact b01_rng _ | exact st_5 | exact st_12 | exact st_19 | (simp only [isSt_sI, isSt_sJ, isSt_sF, isSt_sG, isSt_sA]; assumption)) only [↓B239_51, ↓B239_70, ↓B239_86, ↓B239_87, ↓B239_171, ↓a_74, ↓a_97, ↓n_74, ↓n_97, ↓o_72, ↓r_72_3, ↓r_72_48, ↓s_74, ↓s_97, ↓w_72_0, i_lit, i_add, i_sub, i_mul, i_neg, i_lt, i_le, i_eq, i32_gI, i64_gJ, i32_id, i32_to, i64_to, sI_i32, sJ_i64, b01_t, b01_f, i32_b01, b01_0, ↓a_s0, ↓n_s0, ↓a_s1, ↓n_s1, Int.add_zero, t_lt, f_lt, t_le, f_le, t_eq, f_eq, true_and, and_true, false_and, and_false, and_self, ↓reduceIte, z_bool_of, or_true, true_or, or_false, false_or, Int.neg_neg, not_true_eq_false, not_false_eq_true, lg_lt, lg_le, lg_gt, lg_ge, lg_eq, j_lit, j_add, j_sub, j_mul, j_neg, j_eq, i64_id, ij, ji, z_rt, Nat.reduceEqDiff, Nat.reduceAdd, Int.reduceAdd, Int.reduceSub, Int.reduceMul, Int.reduceNeg, Int.reduceLT, Int.reduceLE, Int.reduceEq, hop, q3]
    · have hns : nst (op :: r) = nst r := by
        unfold nst; rw [List.filter_cons, if_neg (by rw [decide_eq_true_eq]; exact q)]
      rw [hns] at h200 ⊢
      have hv' : 2 ≤ st.length ∧ vld r (st.length - 1) := by
        have : (if op < 4 then 0 ≤ op ∧ vld r (st.length + 1) else if op < 6 then 2 ≤ st.length ∧ vld r (st.length - 1) else _) := hv
        rw [if_neg q, if_pos (by omega)] at this; exact this
      obtain ⟨x, y, rs, hst, hd3⟩ := dst3_len (op := op) (st := st) (by omega) hv'.1
      subst hst
      have hl2 : ((y :: x :: rs).length : Int) = rs.length + 2 := by rw [List.length_cons, List.length_cons]; omega
      have hl3 : (y :: x :: rs).length - 1 = rs.length + 1 := by rw [List.length_cons, List.length_cons]; omega
      rw [hl3] at hv'
      rw [hl2] at hle
      obtain ⟨vy, y1, y2, y3, vx, x1, x2, x3, hrest⟩ := hF
      rw [List.length_cons] at y1
      have hnn := hrest.nn
      have ey : gI S 97 ((rs.length : Int) + 1) = vy := by rw [← y1]; congr 1
      obtain ⟨z, hz⟩ : ∃ z : Int, z = (if op = 4 then vx + vy else if what = 0 then min vx vy else max vx vy) := ⟨_, rfl⟩
      have hzb : 0 ≤ z ∧ z ≤ (x.2.1 : Int) + y.2.1 := by rw [hz]; split; omega; split; omega; omega
      have hLM : LM what (if op = 4 then cat3 x y else or3 x y).1 z ∧ (((if op = 4 then cat3 x y else or3 x y).2.1 : Nat) : Int) = (x.2.1 : Int) + y.2.1 := by
        rw [hz]
        by_cases q4 : op = 4
        · rw [if_pos q4, if_pos q4]
          refine ⟨?_, by show ((x.2.1 + y.2.1 : Nat) : Int) = _; omega⟩
          unfold LM at x2 y2 ⊢
          split
          · next w => rw [if_pos w] at x2 y2; exact x2.cat y2
          · next w => rw [if_neg w] at x2 y2; exact x2.cat y2
        · rw [if_neg q4, if_neg q4]
          refine ⟨?_, by show ((x.2.1 + y.2.1 : Nat) : Int) = _; omega⟩
          unfold LM at x2 y2 ⊢
          split
          · next w => rw [if_pos w] at x2 y2; exact x2.or y2
          · next w => rw [if_neg w] at x2 y2; exact x2.or y2
      have f1 : FrHp S (sI S 97 rs.length z) := FrHp.I
      have hdl : (dst3 (y :: x :: rs) op).length = rs.length + 1 := by rw [hd3]; rfl
      obtain ⟨S', y3', y6, y7, y8, w1, w2, w3⟩ := ih (k + 1) tot (sI S 97 rs.length z) (dst3 (y :: x :: rs) op) (vI op) (vI vx) (vI vy) (by omega) (by rw [f1.2.1 74 _ (by omega)]; omega) (by rw [f1.2.1 74 _ (by omega)]; exact h400) (hops' _ f1) (by rw [hdl]; exact hv'.2) hr' (by rw [hdl]; omega) h200 (by
        rw [hd3]
        refine ⟨z, by rw [gI_sI, if_pos ⟨rfl, rfl⟩, i32_id (by omega) (by omega)], hLM.1, ⟨hzb.1, by rw [hLM.2]; exact hzb.2⟩, ?_⟩
        rw [hLM.2, show tot - ((x.2.1 : Int) + y.2.1) = tot - y.2.1 - x.2.1 by omega]
        exact hrest.cg (fun i q1 q2 => by rw [gI_sI, if_neg (by omega)]))
      refine ⟨S', y3', y6, y7, y8, ?_, f1.tr w2, w3⟩
      rw [hl2, show k + ((r.length : Int) + 1) = k + 1 + r.length by omega, ← w1, hdl, show ((rs.length + 1 : Nat) : Int) = (rs.length : Int) + 1 by omega, B239_40, hz]
      have e1 : (rs.length : Int) + 2 + -1 = rs.length + 1 := by omega
      have e2 : (rs.length : Int) + 1 - 1 = rs.length := by omega
      by_cases q4 : op = 4
      · rw [if_pos q4]
        simp (disch := first | omega | assumption | exact b01_rng _ | exact st_5 | exact st_12 | exact st_19 | (simp only [isSt_sI, isSt_sJ, isSt_sF, isSt_sG, isSt_sA]; assumption)) only [↓B239_51, ↓B239_94, ↓B239_131, ↓B239_170, ↓B239_171, ↓a_74, ↓a_97, ↓n_74, ↓n_97, ↓o_72, ↓r_72_3, ↓r_72_48, ↓s_74, ↓s_97, ↓w_72_0, i_lit, i_add, i_sub, i_mul, i_neg, i_lt, i_le, i_eq, i32_gI, i64_gJ, i32_id, i32_to, i64_to, sI_i32, sJ_i64, b01_t, b01_f, i32_b01, b01_0, ↓a_s0, ↓n_s0, ↓a_s1, ↓n_s1, Int.add_zero, t_lt, f_lt, t_le, f_le, t_eq, f_eq, true_and, and_true, false_and, and_false, and_self, ↓reduceIte, z_bool_of, or_true, true_or, or_false, false_or, Int.neg_neg, not_true_eq_false, not_false_eq_true, lg_lt, lg_le, lg_gt, lg_ge, lg_eq, j_lit, j_add, j_sub, j_mul, j_neg, j_eq, i64_id, ij, ji, z_rt, Nat.reduceEqDiff, Nat.reduceAdd, Int.reduceAdd, Int.reduceSub, Int.reduceMul, Int.reduceNeg, Int.reduceLT, Int.reduceLE, Int.reduceEq, hop, q4, e1, e2, x1, ey]
      · have q5 : op = 5 := by omega
        rw [if_neg q4]
        by_cases hlt : vy ≤ vx
        · rcases hw with rfl | rfl
          · rw [if_pos rfl, show min vx vy = vy by omega]
            simp (disch := first | omega | assumption | exact b01_rng _ | exact st_5 | exact st_12 | exact st_19 | (simp only [isSt_sI, isSt_sJ, isSt_sF, isSt_sG, isSt_sA]; assumption)) only [↓B239_51, ↓B239_94, ↓B239_139, ↓B239_143, ↓B239_148, ↓B239_159, ↓B239_160, ↓B239_168, ↓B239_170, ↓B239_171, ↓a_74, ↓a_97, ↓n_74, ↓n_97, ↓o_72, ↓r_72_3, ↓r_72_48, ↓s_74, ↓s_97, ↓w_72_0, i_lit, i_add, i_sub, i_mul, i_neg, i_lt, i_le, i_eq, i32_gI, i64_gJ, i32_id, i32_to, i64_to, sI_i32, sJ_i64, b01_t, b01_f, i32_b01, b01_0, ↓a_s0, ↓n_s0, ↓a_s1, ↓n_s1, Int.add_zero, t_lt, f_lt, t_le, f_le, t_eq, f_eq, true_and, and_true, false_and, and_false, and_self, ↓reduceIte, z_bool_of, or_true, true_or, or_false, false_or, Int.neg_neg, not_true_eq_false, not_false_eq_true, lg_lt, lg_le, lg_gt, lg_ge, lg_eq, j_lit, j_add, j_sub, j_mul, j_neg, j_eq, i64_id, ij, ji, z_rt, Nat.reduceEqDiff, Nat.reduceAdd, Int.reduceAdd, Int.reduceSub, Int.reduceMul, Int.reduceNeg, Int.reduceLT, Int.reduceLE, Int.reduceEq, hop, q5, e1, e2, x1, ey]
          · rw [if_neg (by omega), show max vx vy = vx by omega]
            simp (disch := first | omega | assumption | exact b01_rng _ | exact st_5 | exact st_12 | exact st_19 | (simp only [isSt_sI, isSt_sJ, isSt_sF, isSt_sG, isSt_sA]; assumption)) only [↓B239_51, ↓B239_94, ↓B239_139, ↓B239_147, ↓B239_148, ↓B239_159, ↓B239_160, ↓B239_163, ↓B239_170, ↓B239_171, ↓a_74, ↓a_97, ↓n_74, ↓n_97, ↓o_72, ↓r_72_3, ↓r_72_48, ↓s_74, ↓s_97, ↓w_72_0, i_lit, i_add, i_sub, i_mul, i_neg, i_lt, i_le, i_eq, i32_gI, i64_gJ, i32_id, i32_to, i64_to, sI_i32, sJ_i64, b01_t, b01_f, i32_b01, b01_0, ↓a_s0, ↓n_s0, ↓a_s1, ↓n_s1, Int.add_zero, t_lt, f_lt, t_le, f_le, t_eq, f_eq, true_and, and_true, false_and, and_false, and_self, ↓reduceIte, z_bool_of, or_true, true_or, or_false, false_or, Int.neg_neg, not_true_eq_false, not_false_eq_true, lg_lt, lg_le, lg_gt, lg_ge, lg_eq, j_lit, j_add, j_sub, j_mul, j_neg, j_eq, i64_id, ij, ji, z_rt, Nat.reduceEqDiff, Nat.reduceAdd, Int.reduceAdd, Int.reduceSub, Int.reduceMul, Int.reduceNeg, Int.reduceLT, Int.reduceLE, Int.reduceEq, hop, q5, e1, e2, x1, ey]
        · rcases hw with rfl | rfl
          · rw [if_pos rfl, show min vx vy = vx by omega]
            simp (disch := first | omega | assumption | exact b01_rng _ | exact st_5 | exact st_12 | exact st_19 | (simp only [isSt_sI, isSt_sJ, isSt_sF, isSt_sG, isSt_sA]; assumption)) only [↓B239_51, ↓B239_94, ↓B239_139, ↓B239_143, ↓B239_148, ↓B239_155, ↓B239_160, ↓B239_163, ↓B239_170, ↓B239_171, ↓a_74, ↓a_97, ↓n_74, ↓n_97, ↓o_72, ↓r_72_3, ↓r_72_48, ↓s_74, ↓s_97, ↓w_72_0, i_lit, i_add, i_sub, i_mul, i_neg, i_lt, i_le, i_eq, i32_gI, i64_gJ, i32_id, i32_to, i64_to, sI_i32, sJ_i64, b01_t, b01_f, i32_b01, b01_0, ↓a_s0, ↓n_s0, ↓a_s1, ↓n_s1, Int.add_zero, t_lt, f_lt, t_le, f_le, t_eq, f_eq, true_and, and_true, false_and, and_false, and_self, ↓reduceIte, z_bool_of, or_true, true_or, or_false, false_or, Int.neg_neg, not_true_eq_false, not_false_eq_true, lg_lt, lg_le, lg_gt, lg_ge, lg_eq, j_lit, j_add, j_sub, j_mul, j_neg, j_eq, i64_id, ij, ji, z_rt, Nat.reduceEqDiff, Nat.reduceAdd, Int.reduceAdd, Int.reduceSub, Int.reduceMul, Int.reduceNeg, Int.reduceLT, Int.reduceLE, Int.reduceEq, hop, q5, e1, e2, x1, ey]
          · rw [if_neg (by omega), show max vx vy = vy by omega]
            simp (disch := first | omega | assumption | exact b01_rng _ | exact st_5 | exact st_12 | exact st_19 | (simp only [isSt_sI, isSt_sJ, isSt_sF, isSt_sG, isSt_sA]; assumption)) only [↓B239_51, ↓B239_94, ↓B239_139, ↓B239_147, ↓B239_148, ↓B239_155, ↓B239_160, ↓B239_168, ↓B239_170, ↓B239_171, ↓a_74, ↓a_97, ↓n_74, ↓n_97, ↓o_72, ↓r_72_3, ↓r_72_48, ↓s_74, ↓s_97, ↓w_72_0, i_lit, i_add, i_sub, i_mul, i_neg, i_lt, i_le, i_eq, i32_gI, i64_gJ, i32_id, i32_to, i64_to, sI_i32, sJ_i64, b01_t, b01_f, i32_b01, b01_0, ↓a_s0, ↓n_s0, ↓a_s1, ↓n_s1, Int.add_zero, t_lt, f_lt, t_le, f_le, t_eq, f_eq, true_and, and_true, false_and, and_false, and_self, ↓reduceIte, z_bool_of, or_true, true_or, or_false, false_or, Int.neg_neg, not_true_eq_false, not_false_eq_true, lg_lt, lg_le, lg_gt, lg_ge, lg_eq, j_lit, j_add, j_sub, j_mul, j_neg, j_eq, i64_id, ij, ji, z_rt, Nat.reduceEqDiff, Nat.reduceAdd, Int.reduceAdd, Int.reduceSub, Int.reduceMul, Int.reduceNeg, Int.reduceLT, Int.reduceLE, Int.reduceEq, hop, q5, e1, e2, x1, ey]
/-- length, behind the questions -/
theorem x239 {S : zS} {m what : Int} (hw : what = 0 ∨ what = 1) (hm : 0 ≤ m ∧ m < 6) {x : T3} (hX : MtR (gI S 74) (80 + 402 * m) x) : ∃ (S' : zS) (v : Int), z_ev X d (239, 25, [some (.ref 72), some (.int (Int32.ofInt m)), some (.int (Int32.ofInt what)), none, none, none, none, none, none], [], mk S) = some (vI v, mk S') ∧ FrHp S S' ∧ LM what x.1 v := by
  obtain ⟨⟨o1, o2, o3, o4, o5⟩, h200, hl, hops⟩ := hX
  have hl4 : x.2.2.length + 1 = 2 * x.2.1 := o3
  obtain ⟨S', y3, y6, y7, y8, w1, w2, w3⟩ := l239 (X := X) (d := d) (m := m) (what := what) (at_ := 80 + 402 * m) hw (by omega) x.2.2 0 0 S [] none none none (by omega) (by omega) (by omega) (fun j y hj => by rw [show 80 + 402 * m + 1 + (0 + (j : Int)) = 80 + 402 * m + 1 + j by omega]; exact hops j y hj) (by have := o1.2 0 [] trivial; rw [List.append_nil] at this; exact this) o4 (by show (0 : Int) ≤ 0; omega) (by rw [o5]; omega) (by show (0 : Int) = 0; rfl)
  rw [o1.1 []] at w3
  obtain ⟨v, e1, e2, e3, -⟩ := w3
  have e1' : gI S' 97 0 = v := e1
  refine ⟨S', v, ?_, w2, e2⟩
  have st : z_ev X d (239, 25, [some (.ref 72), some (.int (Int32.ofInt m)), some (.int (Int32.ofInt what)), none, none, none, none, none, none], [], mk S) = z_ev X d (239, 40, L239 m what (80 + 402 * m) 0 0 none none none, [], mk S) := by
    simp (disch := first | omega | assumption | exact b01_rng _ | exact st_5 | exact st_12 | exact st_19 | (simp only [isSt_sI, isSt_sJ, isSt_sF, isSt_sG, isSt_sA]; assumption)) only [↓B239_25, i_lit, i_add, i_sub, i_mul, i_neg, i_lt, i_le, i_eq, i32_gI, i64_gJ, i32_id, i32_to, i64_to, sI_i32, sJ_i64, b01_t, b01_f, i32_b01, b01_0, ↓a_s0, ↓n_s0, ↓a_s1, ↓n_s1, Int.add_zero, t_lt, f_lt, t_le, f_le, t_eq, f_eq, true_and, and_true, false_and, and_false, and_self, ↓reduceIte, z_bool_of, or_true, true_or, or_false, false_or, Int.neg_neg, not_true_eq_false, not_false_eq_true, lg_lt, lg_le, lg_gt, lg_ge, lg_eq, j_lit, j_add, j_sub, j_mul, j_neg, j_eq, i64_id, ij, ji, z_rt, Nat.reduceEqDiff, Nat.reduceAdd, Int.reduceAdd, Int.reduceSub, Int.reduceMul, Int.reduceNeg, Int.reduceLT, Int.reduceLE, Int.reduceEq]
  have w1' : z_ev X d (239, 40, L239 m what (80 + 402 * m) 0 0 none none none, [], mk S) = _ := w1
  rw [st, w1']
  simp (disch := first | omega | assumption | exact b01_rng _ | exact st_5 | exact st_12 | exact st_19 | (simp only [isSt_sI, isSt_sJ, isSt_sF, isSt_sG, isSt_sA]; assumption)) only [↓B239_177, ↓a_74, ↓a_97, ↓n_74, ↓n_97, ↓o_72, ↓r_72_3, ↓r_72_48, ↓s_74, ↓s_97, ↓w_72_0, i_lit, i_add, i_sub, i_mul, i_neg, i_lt, i_le, i_eq, i32_gI, i64_gJ, i32_id, i32_to, i64_to, sI_i32, sJ_i64, b01_t, b01_f, i32_b01, b01_0, ↓a_s0, ↓n_s0, ↓a_s1, ↓n_s1, Int.add_zero, t_lt, f_lt, t_le, f_le, t_eq, f_eq, true_and, and_true, false_and, and_false, and_self, ↓reduceIte, z_bool_of, or_true, true_or, or_false, false_or, Int.neg_neg, not_true_eq_false, not_false_eq_true, lg_lt, lg_le, lg_gt, lg_ge, lg_eq, j_lit, j_add, j_sub, j_mul, j_neg, j_eq, i64_id, ij, ji, z_rt, Nat.reduceEqDiff, Nat.reduceAdd, Int.reduceAdd, Int.reduceSub, Int.reduceMul, Int.reduceNeg, Int.reduceLT, Int.reduceLE, Int.reduceEq, e1']
end
