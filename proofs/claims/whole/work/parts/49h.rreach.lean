/-! the reference: isReached, reach -/
def FrRc (S S' : zS) : Prop := Dyn S S' ∧ (∀ a i, a ≠ 108 → gI S' a i = gI S a i) ∧ (∀ a i, gJ S' a i = gJ S a i) ∧ (∀ a i, gQ S' a i = gQ S a i)
theorem FrRc.rf {S : zS} : FrRc S S := ⟨Dyn.rf, fun _ _ _ => rfl, fun _ _ => rfl, fun _ _ => rfl⟩
theorem FrRc.tr {A B C : zS} (h1 : FrRc A B) (h2 : FrRc B C) : FrRc A C := ⟨h1.1.tr h2.1, fun a i q => (h2.2.1 a i q).trans (h1.2.1 a i q), fun a i => (h2.2.2.1 a i).trans (h1.2.2.1 a i), fun a i => (h2.2.2.2 a i).trans (h1.2.2.2 a i)⟩
theorem FrRc.I {S : zS} {i x : Int} : FrRc S (sI S 108 i x) := ⟨Dyn.sI (by decide) Dyn.rf, fun b j q => by rw [gI_sI, if_neg (by omega)], fun _ _ => rfl, fun _ _ => rfl⟩
theorem FrRc.q {S S' : zS} (h : FrRc S S') : FrQm S S' := ⟨h.1, fun a i q r s => h.2.1 a i (by omega), fun a i _ _ => h.2.2.1 a i, h.2.2.2⟩
theorem FrRc.ua {S S' : zS} {n : Int} (hF : FrRc S S') : UA S' n = UA S n := UA_cg (fun i => hF.2.1 99 i (by omega)) (fun i => hF.2.1 100 i (by omega)) (fun i => hF.2.1 102 i (by omega))
theorem Laid.rc {S S' : zS} {E : Ln} {f : Int → Int → Int} {n : Int} (h : Laid S E f n) (hF : FrRc S S') : Laid S' E f n := by
  obtain ⟨h1, h2, h3, h4, h5, h6⟩ := h
  have k : ∀ b, b ≠ 108 → ∀ i, gI S' b i = gI S b i := fun b q i => hF.2.1 b i q
  exact ⟨by rw [k 74 (by omega)]; exact h1, by rw [k 72 (by omega)]; exact h2, fun i q1 q2 => by rw [k 101 (by omega), k 102 (by omega), k 99 (by omega)]; exact h3 i q1 q2, fun s o q1 q2 q3 => by rw [k 100 (by omega)]; exact h4 s o q1 q2 q3, fun p v q1 q2 q3 q4 => by rw [k 103 (by omega)]; exact h5 p v q1 q2 q3 q4, fun s q1 q2 => by rw [k 74 (by omega)]; exact h6 s q1 q2⟩
/-- what was reached: all ahead of place s, and there steps ahead of t -/
def RcR (S : zS) (E : Ln) (n s t : Int) : Prop := ∀ s' t' : Int, 0 ≤ s' → 0 ≤ t' → t' ≤ n → (s' < s ∨ (s' = s ∧ t' < t)) → (gI S 108 (201 * s' + t') = 1 ∧ Gs E (UA S n) t' s') ∨ (gI S 108 (201 * s' + t') = 0 ∧ ¬ Gs E (UA S n) t' s')
section
variable {X : zX} {d : Nat} {E : Ln} {f : Int → Int → Int} {M : Int}
/-- ways of reading below far are such that can be -/
theorem PrS.can {S : zS} (hP : PrS S E f) (hB : PrB E f M 100000000) {p v : Int} (hp : 0 ≤ p ∧ p < E.1) (hv : 0 ≤ v ∧ v ≤ 2) : gI S 103 (3 * p + v) < 100000000 ↔ E.2.2 p v := by
  obtain ⟨h1, h2⟩ := hP p v hp.1 hp.2 hv.1 hv.2
  constructor
  · intro w
    apply Classical.byContradiction
    intro u
    have := h1.2.2 (fun z => u z.2)
    omega
  · intro w
    have e := h1.2.1 ⟨hp.2, w⟩
    have := hB.2.1 p v w
    have := hB.2.2
    omega
theorem PrS.step {S : zS} (hP : PrS S E f) (hB : PrB E f M 100000000) {p x : Int} (hp : 0 ≤ p ∧ p < E.1) (hx : 0 ≤ x ∧ x ≤ 2) : spR S p x < 100000000 ↔ ∃ v, p < E.1 ∧ E.2.2 p v ∧ gos x v := by
  have c1 := hP.can hB (p := p) (v := 1) hp (by omega)
  have c0 := hP.can hB (p := p) (v := 0) hp (by omega)
  rw [Int.add_zero] at c0
  unfold spR
  rcases (show x = 0 ∨ x = 1 ∨ x = 2 by omega) with rfl | rfl | rfl
  · rw [if_pos rfl, c1]
    constructor
    · intro w; exact ⟨1, hp.2, w, Or.inl ⟨rfl, rfl⟩⟩
    · rintro ⟨v, -, w, u⟩
      have : v = 1 := by unfold gos at u; omega
      subst this; exact w
  · rw [if_neg (by omega), if_pos rfl, c0]
    constructor
    · intro w; exact ⟨0, hp.2, w, Or.inr (Or.inl ⟨rfl, rfl⟩)⟩
    · rintro ⟨v, -, w, u⟩
      have : v = 0 := by unfold gos at u; omega
      subst this; exact w
  · rw [if_neg (by omega), if_neg (by omega)]
    constructor
    · intro w
      by_cases u : gI S 103 (3 * p + 1) < 100000000
      · exact ⟨1, hp.2, c1.mp u, Or.inr (Or.inr ⟨rfl, Or.inr rfl⟩)⟩
      · exact ⟨0, hp.2, c0.mp (by omega), Or.inr (Or.inr ⟨rfl, Or.inl rfl⟩)⟩
    · rintro ⟨v, -, w, u⟩
      have : v = 0 ∨ v = 1 := by unfold gos at u; omega
      rcases this with rfl | rfl
      · have := c0.mpr w; omega
      · have := c1.mpr w; omega
/-- what is asked for: where one comes from below o -/
def GT (E : Ln) (U : Au) (s t o : Int) : Prop := ((t = 0 ∧ s = 0) ∨ (s - 1 < E.1 ∧ E.2.2 (s - 1) 2 ∧ Gs E U t (s - 1))) ∨ ∃ m, m < o ∧ U.1 m t ∧ ((U.2.2 t = 3 ∧ E.2.1 s ∧ Gs E U m s) ∨ (U.2.2 t ≠ 3 ∧ ∃ v, s - 1 < E.1 ∧ E.2.2 (s - 1) v ∧ gos (U.2.2 t) v ∧ Gs E U m (s - 1)))
abbrev L237 (s t so : Int) (x4 : Option Value) : zL := [some (.ref 72), some (.int (Int32.ofInt s)), some (.int (Int32.ofInt t)), some (.int (Int32.ofInt so)), x4]
theorem t237 (hd : 0 < d) (hB : PrB E f M 100000000) (hn : 0 ≤ E.1 ∧ E.1 ≤ 20) (hE : ∀ p v, E.2.2 p v → 0 ≤ p) {S : zS} {n s t o : Int} (hn2 : 1 ≤ n ∧ n ≤ 200) (hL : Laid S E f n) (hs : 0 ≤ s ∧ s ≤ E.1) (ht : t ≤ n) (ho : 0 ≤ o ∧ o < t) (hR : RcR S E n s t) (hno : ¬ GT E (UA S n) s t o) : ∃ so : Int, z_ev X d (237, 66, L237 s t 0 (vI o), [], mk S) = z_ev X d (237, 66, L237 s t so (vI (o + 1)), [], mk S) ∧ ((so = 1 ∧ GT E (UA S n) s t (o + 1)) ∨ (so = 0 ∧ ¬ GT E (UA S n) s t (o + 1))) := by
  obtain ⟨l1, l2, l3, l4, l5, l6⟩ := hL
  obtain ⟨b1, b2, b3, b4⟩ := l3 t (by omega) ht
  have ff := l4 o t ho.1 ho.2 ht
  have hc := l6 s hs.1 hs.2
  have dl : GT E (UA S n) s t (o + 1) ↔ ((UA S n).1 o t ∧ ((gI S 99 t = 3 ∧ E.2.1 s ∧ Gs E (UA S n) o s) ∨ (gI S 99 t ≠ 3 ∧ ∃ v, s - 1 < E.1 ∧ E.2.2 (s - 1) v ∧ gos (gI S 99 t) v ∧ Gs E (UA S n) o (s - 1)))) := by
    constructor
    · rintro (w | ⟨m, w1, w2, w3⟩)
      · exact absurd (Or.inl w) hno
      · by_cases e : m = o
        · subst e; exact ⟨w2, w3⟩
        · exact absurd (Or.inr ⟨m, by omega, w2, w3⟩) hno
    · rintro ⟨w2, w3⟩; exact Or.inr ⟨o, by omega, w2, w3⟩
  rw [dl]
  by_cases q : gI S 100 (201 * o + t) = 1
  · have hU : (UA S n).1 o t := ⟨⟨ho.1, ho.2, ht⟩, q⟩
    have q' : ¬ gI S 100 (201 * o + t) = 0 := by omega
    by_cases w3 : gI S 99 t = 3
    · by_cases u : s = 0 ∨ gI S 74 (28 + (s - 1)) = 1
      · have hb1 : b01 (s = 0 ∨ gI S 74 (28 + (s - 1)) = 1) = 1 := if_pos u
        rcases hR s o hs.1 ho.1 (by omega) (Or.inr ⟨rfl, ho.2⟩) with ⟨r1, r2⟩ | ⟨r1, r2⟩
        · refine ⟨1, ?_, Or.inl ⟨rfl, hU, Or.inl ⟨w3, hc.mpr u, r2⟩⟩⟩
          rw [B237_66]
          simp (disch := first | omega | assumption | exact b01_rng _ | exact st_5 | exact st_12 | exact st_19 | (simp only [isSt_sI, isSt_sJ, isSt_sF, isSt_sG, isSt_sA]; assumption)) only [↓B237_72, ↓B237_76, ↓B237_92, ↓B237_102, ↓B237_107, ↓B237_110, ↓B237_126, ↓B237_182, ↓B237_183, ↓a_100, ↓a_103, ↓a_108, ↓a_99, ↓n_100, ↓n_103, ↓n_108, ↓n_99, ↓o_72, ↓r_72_50, ↓r_72_52, ↓r_72_55, ↓r_72_60, ↓s_100, ↓s_103, ↓s_108, ↓s_99, ↓o_72, c225, i_lit, i_add, i_sub, i_mul, i_neg, i_lt, i_le, i_eq, i32_gI, i64_gJ, i32_id, i32_to, i64_to, sI_i32, sJ_i64, b01_t, b01_f, i32_b01, b01_0, ↓a_s0, ↓n_s0, ↓a_s1, ↓n_s1, Int.add_zero, t_lt, f_lt, t_le, f_le, t_eq, f_eq, true_and, and_true, false_and, and_false, and_self, ↓reduceIte, z_bool_of, or_true, true_or, or_false, false_or, Int.neg_neg, not_true_eq_false, not_false_eq_true, lg_lt, lg_le, lg_gt, lg_ge, lg_eq, j_lit, j_add, j_sub, j_mul, j_neg, j_eq, i64_id, ij, ji, z_rt, Nat.reduceEqDiff, Nat.reduceAdd, Int.reduceAdd, Int.reduceSub, Int.reduceMul, Int.reduceNeg, Int.reduceLT, Int.reduceLE, Int.reduceEq, q, w3, hb1, r1]
        · refine ⟨0, ?_, Or.inr ⟨rfl, ?_⟩⟩
          · rw [B237_66]
            simp (disch := first | omega | assumption | exact b01_rng _ | exact st_5 | exact st_12 | exact st_19 | (simp only [isSt_sI, isSt_sJ, isSt_sF, isSt_sG, isSt_sA]; assumption)) only [↓B237_72, ↓B237_76, ↓B237_92, ↓B237_102, ↓B237_107, ↓B237_110, ↓B237_130, ↓B237_182, ↓B237_183, ↓a_100, ↓a_103, ↓a_108, ↓a_99, ↓n_100, ↓n_103, ↓n_108, ↓n_99, ↓o_72, ↓r_72_50, ↓r_72_52, ↓r_72_55, ↓r_72_60, ↓s_100, ↓s_103, ↓s_108, ↓s_99, ↓o_72, c225, i_lit, i_add, i_sub, i_mul, i_neg, i_lt, i_le, i_eq, i32_gI, i64_gJ, i32_id, i32_to, i64_to, sI_i32, sJ_i64, b01_t, b01_f, i32_b01, b01_0, ↓a_s0, ↓n_s0, ↓a_s1, ↓n_s1, Int.add_zero, t_lt, f_lt, t_le, f_le, t_eq, f_eq, true_and, and_true, false_and, and_false, and_self, ↓reduceIte, z_bool_of, or_true, true_or, or_false, false_or, Int.neg_neg, not_true_eq_false, not_false_eq_true, lg_lt, lg_le, lg_gt, lg_ge, lg_eq, j_lit, j_add, j_sub, j_mul, j_neg, j_eq, i64_id, ij, ji, z_rt, Nat.reduceEqDiff, Nat.reduceAdd, Int.reduceAdd, Int.reduceSub, Int.reduceMul, Int.reduceNeg, Int.reduceLT, Int.reduceLE, Int.reduceEq, q, w3, hb1, r1]
          · rintro ⟨-, ⟨-, -, z⟩ | ⟨z, -⟩⟩
            · exact r2 z
            · exact z w3
      · have hb1 : b01 (s = 0 ∨ gI S 74 (28 + (s - 1)) = 1) = 0 := if_neg u
        refine ⟨0, ?_, Or.inr ⟨rfl, ?_⟩⟩
        · rw [B237_66]
          simp (disch := first | omega | assumption | exact b01_rng _ | exact st_5 | exact st_12 | exact st_19 | (simp only [isSt_sI, isSt_sJ, isSt_sF, isSt_sG, isSt_sA]; assumption)) only [↓B237_72, ↓B237_76, ↓B237_92, ↓B237_102, ↓B237_107, ↓B237_130, ↓B237_182, ↓B237_183, ↓a_100, ↓a_103, ↓a_108, ↓a_99, ↓n_100, ↓n_103, ↓n_108, ↓n_99, ↓o_72, ↓r_72_50, ↓r_72_52, ↓r_72_55, ↓r_72_60, ↓s_100, ↓s_103, ↓s_108, ↓s_99, ↓o_72, c225, i_lit, i_add, i_sub, i_mul, i_neg, i_lt, i_le, i_eq, i32_gI, i64_gJ, i32_id, i32_to, i64_to, sI_i32, sJ_i64, b01_t, b01_f, i32_b01, b01_0, ↓a_s0, ↓n_s0, ↓a_s1, ↓n_s1, Int.add_zero, t_lt, f_lt, t_le, f_le, t_eq, f_eq, true_and, and_true, false_and, and_false, and_self, ↓reduceIte, z_bool_of, or_true, true_or, or_false, false_or, Int.neg_neg, not_true_eq_false, not_false_eq_true, lg_lt, lg_le, lg_gt, lg_ge, lg_eq, j_lit, j_add, j_sub, j_mul, j_neg, j_eq, i64_id, ij, ji, z_rt, Nat.reduceEqDiff, Nat.reduceAdd, Int.reduceAdd, Int.reduceSub, Int.reduceMul, Int.reduceNeg, Int.reduceLT, Int.reduceLE, Int.reduceEq, q, w3, hb1]
        · rintro ⟨-, ⟨-, z, -⟩ | ⟨z, -⟩⟩
          · exact u (hc.mp z)
          · exact z w3
    · by_cases s0 : 0 < s
      · have hsp := l5.step hB (p := s - 1) (x := gI S 99 t) (by omega) (by omega)
        have e3 : 201 * s - 201 + o = 201 * (s - 1) + o := by omega
        have bsp : 0 ≤ spR S (s - 1) (gI S 99 t) ∧ spR S (s - 1) (gI S 99 t) ≤ 100000000 := by
          have p1 := l5 (s - 1) 1 (by omega) (by omega) (by omega) (by omega)
          have p0 := l5 (s - 1) 0 (by omega) (by omega) (by omega) (by omega)
          rw [Int.add_zero] at p0
          have := p1.1.1
          have := p0.1.1
          unfold spR
          split
          · omega
          split
          · omega
          · omega
        by_cases u : spR S (s - 1) (gI S 99 t) < 100000000
        · rcases hR (s - 1) o (by omega) ho.1 (by omega) (Or.inl (by omega)) with ⟨r1, r2⟩ | ⟨r1, r2⟩
          · obtain ⟨v, v1, v2, v3⟩ := hsp.mp u
            refine ⟨1, ?_, Or.inl ⟨rfl, hU, Or.inr ⟨w3, v, v1, v2, v3, r2⟩⟩⟩
            rw [B237_66]
            simp (disch := first | omega | assumption | exact b01_rng _ | exact st_5 | exact st_12 | exact st_19 | (simp only [isSt_sI, isSt_sJ, isSt_sF, isSt_sG, isSt_sA]; assumption)) only [↓B237_72, ↓B237_76, ↓B237_92, ↓B237_134, ↓B237_138, ↓B237_151, ↓B237_157, ↓B237_177, ↓B237_182, ↓B237_183, ↓a_100, ↓a_103, ↓a_108, ↓a_99, ↓n_100, ↓n_103, ↓n_108, ↓n_99, ↓o_72, ↓r_72_50, ↓r_72_52, ↓r_72_55, ↓r_72_60, ↓s_100, ↓s_103, ↓s_108, ↓s_99, ↓o_72, c224, i_lit, i_add, i_sub, i_mul, i_neg, i_lt, i_le, i_eq, i32_gI, i64_gJ, i32_id, i32_to, i64_to, sI_i32, sJ_i64, b01_t, b01_f, i32_b01, b01_0, ↓a_s0, ↓n_s0, ↓a_s1, ↓n_s1, Int.add_zero, t_lt, f_lt, t_le, f_le, t_eq, f_eq, true_and, and_true, false_and, and_false, and_self, ↓reduceIte, z_bool_of, or_true, true_or, or_false, false_or, Int.neg_neg, not_true_eq_false, not_false_eq_true, lg_lt, lg_le, lg_gt, lg_ge, lg_eq, j_lit, j_add, j_sub, j_mul, j_neg, j_eq, i64_id, ij, ji, z_rt, Nat.reduceEqDiff, Nat.reduceAdd, Int.reduceAdd, Int.reduceSub, Int.reduceMul, Int.reduceNeg, Int.reduceLT, Int.reduceLE, Int.reduceEq, q, w3, e3, r1]
          · refine ⟨0, ?_, Or.inr ⟨rfl, ?_⟩⟩
            · rw [B237_66]
              simp (disch := first | omega | assumption | exact b01_rng _ | exact st_5 | exact st_12 | exact st_19 | (simp only [isSt_sI, isSt_sJ, isSt_sF, isSt_sG, isSt_sA]; assumption)) only [↓B237_72, ↓B237_76, ↓B237_92, ↓B237_134, ↓B237_138, ↓B237_151, ↓B237_157, ↓B237_181, ↓B237_182, ↓B237_183, ↓a_100, ↓a_103, ↓a_108, ↓a_99, ↓n_100, ↓n_103, ↓n_108, ↓n_99, ↓o_72, ↓r_72_50, ↓r_72_52, ↓r_72_55, ↓r_72_60, ↓s_100, ↓s_103, ↓s_108, ↓s_99, ↓o_72, c224, i_lit, i_add, i_sub, i_mul, i_neg, i_lt, i_le, i_eq, i32_gI, i64_gJ, i32_id, i32_to, i64_to, sI_i32, sJ_i64, b01_t, b01_f, i32_b01, b01_0, ↓a_s0, ↓n_s0, ↓a_s1, ↓n_s1, Int.add_zero, t_lt, f_lt, t_le, f_le, t_eq, f_eq, true_and, and_true, false_and, and_false, and_self, ↓reduceIte, z_bool_of, or_true, true_or, or_false, false_or, Int.neg_neg, not_true_eq_false, not_false_eq_true, lg_lt, lg_le, lg_gt, lg_ge, lg_eq, j_lit, j_add, j_sub, j_mul, j_neg, j_eq, i64_id, ij, ji, z_rt, Nat.reduceEqDiff, Nat.reduceAdd, Int.reduceAdd, Int.reduceSub, Int.reduceMul, Int.reduceNeg, Int.reduceLT, Int.reduceLE, Int.reduceEq, q, w3, e3, r1]
            · rintro ⟨-, ⟨z, -⟩ | ⟨-, v, -, -, -, z⟩⟩
              · exact w3 z
              · exact r2 z
        · refine ⟨0, ?_, Or.inr ⟨rfl, ?_⟩⟩
          · rw [B237_66]
            simp (disch := first | omega | assumption | exact b01_rng _ | exact st_5 | exact st_12 | exact st_19 | (simp only [isSt_sI, isSt_sJ, isSt_sF, isSt_sG, isSt_sA]; assumption)) only [↓B237_72, ↓B237_76, ↓B237_92, ↓B237_134, ↓B237_138, ↓B237_151, ↓B237_181, ↓B237_182, ↓B237_183, ↓a_100, ↓a_103, ↓a_108, ↓a_99, ↓n_100, ↓n_103, ↓n_108, ↓n_99, ↓o_72, ↓r_72_50, ↓r_72_52, ↓r_72_55, ↓r_72_60, ↓s_100, ↓s_103, ↓s_108, ↓s_99, ↓o_72, c224, i_lit, i_add, i_sub, i_mul, i_neg, i_lt, i_le, i_eq, i32_gI, i64_gJ, i32_id, i32_to, i64_to, sI_i32, sJ_i64, b01_t, b01_f, i32_b01, b01_0, ↓a_s0, ↓n_s0, ↓a_s1, ↓n_s1, Int.add_zero, t_lt, f_lt, t_le, f_le, t_eq, f_eq, true_and, and_true, false_and, and_false, and_self, ↓reduceIte, z_bool_of, or_true, true_or, or_false, false_or, Int.neg_neg, not_true_eq_false, not_false_eq_true, lg_lt, lg_le, lg_gt, lg_ge, lg_eq, j_lit, j_add, j_sub, j_mul, j_neg, j_eq, i64_id, ij, ji, z_rt, Nat.reduceEqDiff, Nat.reduceAdd, Int.reduceAdd, Int.reduceSub, Int.reduceMul, Int.reduceNeg, Int.reduceLT, Int.reduceLE, Int.reduceEq, q, w3]
          · rintro ⟨-, ⟨z, -⟩ | ⟨-, v, z1, z2, z3, -⟩⟩
            · exact w3 z
            · exact u (hsp.mpr ⟨v, z1, z2, z3⟩)
      · refine ⟨0, ?_, Or.inr ⟨rfl, ?_⟩⟩
        · rw [B237_66]
          simp (disch := first | omega | assumption | exact b01_rng _ | exact st_5 | exact st_12 | exact st_19 | (simp only [isSt_sI, isSt_sJ, isSt_sF, isSt_sG, isSt_sA]; assumption)) only [↓B237_72, ↓B237_76, ↓B237_92, ↓B237_134, ↓B237_181, ↓B237_182, ↓B237_183, ↓a_100, ↓a_103, ↓a_108, ↓a_99, ↓n_100, ↓n_103, ↓n_108, ↓n_99, ↓o_72, ↓r_72_50, ↓r_72_52, ↓r_72_55, ↓r_72_60, ↓s_100, ↓s_103, ↓s_108, ↓s_99, i_lit, i_add, i_sub, i_mul, i_neg, i_lt, i_le, i_eq, i32_gI, i64_gJ, i32_id, i32_to, i64_to, sI_i32, sJ_i64, b01_t, b01_f, i32_b01, b01_0, ↓a_s0, ↓n_s0, ↓a_s1, ↓n_s1, Int.add_zero, t_lt, f_lt, t_le, f_le, t_eq, f_eq, true_and, and_true, false_and, and_false, and_self, ↓reduceIte, z_bool_of, or_true, true_or, or_false, false_or, Int.neg_neg, not_true_eq_false, not_false_eq_true, lg_lt, lg_le, lg_gt, lg_ge, lg_eq, j_lit, j_add, j_sub, j_mul, j_neg, j_eq, i64_id, ij, ji, z_rt, Nat.reduceEqDiff, Nat.reduceAdd, Int.reduceAdd, Int.reduceSub, Int.reduceMul, Int.reduceNeg, Int.reduceLT, Int.reduceLE, Int.reduceEq, q, w3]
        · rintro ⟨-, ⟨z, -⟩ | ⟨-, v, z1, z2, z3, -⟩⟩
          · exact w3 z
          · have := hE _ _ z2; omega
  · have q0 : gI S 100 (201 * o + t) = 0 := by omega
    refine ⟨0, ?_, Or.inr ⟨rfl, fun z => q z.1.2⟩⟩
    rw [B237_66]
    simp (disch := first | omega | assumption | exact b01_rng _ | exact st_5 | exact st_12 | exact st_19 | (simp only [isSt_sI, isSt_sJ, isSt_sF, isSt_sG, isSt_sA]; assumption)) only [↓B237_72, ↓B237_76, ↓B237_183, ↓a_100, ↓a_103, ↓a_108, ↓a_99, ↓n_100, ↓n_103, ↓n_108, ↓n_99, ↓o_72, ↓r_72_50, ↓r_72_52, ↓r_72_55, ↓r_72_60, ↓s_100, ↓s_103, ↓s_108, ↓s_99, i_lit, i_add, i_sub, i_mul, i_neg, i_lt, i_le, i_eq, i32_gI, i64_gJ, i32_id, i32_to, i64_to, sI_i32, sJ_i64, b01_t, b01_f, i32_b01, b01_0, ↓a_s0, ↓n_s0, ↓a_s1, ↓n_s1, Int.add_zero, t_lt, f_lt, t_le, f_le, t_eq, f_eq, true_and, and_true, false_and, and_false, and_self, ↓reduceIte, z_bool_of, or_true, true_or, or_false, false_or, Int.neg_neg, not_true_eq_false, not_false_eq_true, lg_lt, lg_le, lg_gt, lg_ge, lg_eq, j_lit, j_add, j_sub, j_mul, j_neg, j_eq, i64_id, ij, ji, z_rt, Nat.reduceEqDiff, Nat.reduceAdd, Int.reduceAdd, Int.reduceSub, Int.reduceMul, Int.reduceNeg, Int.reduceLT, Int.reduceLE, Int.reduceEq, q0]
theorem l237 (hd : 0 < d) (hB : PrB E f M 100000000) (hn : 0 ≤ E.1 ∧ E.1 ≤ 20) (hE : ∀ p v, E.2.2 p v → 0 ≤ p) {S : zS} {n s t : Int} (hn2 : 1 ≤ n ∧ n ≤ 200) (hL : Laid S E f n) (hs : 0 ≤ s ∧ s ≤ E.1) (ht : 0 ≤ t ∧ t ≤ n) (hR : RcR S E n s t) : ∀ (c : Nat) (o so : Int), o + c = t → 0 ≤ o → ((so = 1 ∧ GT E (UA S n) s t o) ∨ (so = 0 ∧ ¬ GT E (UA S n) s t o)) → ∃ r : Int, z_ev X d (237, 66, L237 s t so (vI o), [], mk S) = some (vI r, mk S) ∧ ((r = 1 ∧ Gs E (UA S n) t s) ∨ (r = 0 ∧ ¬ Gs E (UA S n) t s)) := by
  have key : GT E (UA S n) s t t ↔ Gs E (UA S n) t s := by
    rw [Gs_iff (fun m h => by have := h.1; omega)]
    constructor
    · rintro ((w | w) | ⟨m, -, w⟩)
      · exact Or.inl w
      · exact Or.inr (Or.inl w)
      · exact Or.inr (Or.inr ⟨m, w⟩)
    · rintro (w | w | ⟨m, w⟩)
      · exact Or.inl (Or.inl w)
      · exact Or.inl (Or.inr w)
      · exact Or.inr ⟨m, w.1.1.2.1, w⟩
  have up : ∀ o, GT E (UA S n) s t o → o ≤ t → Gs E (UA S n) t s := fun o h ho => key.mp (by
    rcases h with w | ⟨m, w1, w2⟩
    · exact Or.inl w
    · exact Or.inr ⟨m, by omega, w2⟩)
  intro c
  induction c with
  | zero =>
    intro o so hc ho h
    have : o = t := by omega
    subst this
    rw [key] at h
    refine ⟨so, ?_, h⟩
    have hso : so = 0 ∨ so = 1 := by rcases h with w | w <;> omega
    rw [B237_66]
    simp (disch := first | omega | assumption | exact b01_rng _ | exact st_5 | exact st_12 | exact st_19 | (simp only [isSt_sI, isSt_sJ, isSt_sF, isSt_sG, isSt_sA]; assumption)) only [↓B237_189, i_lit, i_add, i_sub, i_mul, i_neg, i_lt, i_le, i_eq, i32_gI, i64_gJ, i32_id, i32_to, i64_to, sI_i32, sJ_i64, b01_t, b01_f, i32_b01, b01_0, ↓a_s0, ↓n_s0, ↓a_s1, ↓n_s1, Int.add_zero, t_lt, f_lt, t_le, f_le, t_eq, f_eq, true_and, and_true, false_and, and_false, and_self, ↓reduceIte, z_bool_of, or_true, true_or, or_false, false_or, Int.neg_neg, not_true_eq_false, not_false_eq_true, lg_lt, lg_le, lg_gt, lg_ge, lg_eq, j_lit, j_add, j_sub, j_mul, j_neg, j_eq, i64_id, ij, ji, z_rt, Nat.reduceEqDiff, Nat.reduceAdd, Int.reduceAdd, Int.reduceSub, Int.reduceMul, Int.reduceNeg, Int.reduceLT, Int.reduceLE, Int.reduceEq]
  | succ c ih =>
    intro o so hc ho h
    rcases h with ⟨h1, h2⟩ | ⟨h1, h2⟩
    · subst h1
      refine ⟨1, ?_, Or.inl ⟨rfl, up o h2 (by omega)⟩⟩
      rw [B237_66]
      simp (disch := first | omega | assumption | exact b01_rng _ | exact st_5 | exact st_12 | exact st_19 | (simp only [isSt_sI, isSt_sJ, isSt_sF, isSt_sG, isSt_sA]; assumption)) only [↓B237_72, ↓B237_189, i_lit, i_add, i_sub, i_mul, i_neg, i_lt, i_le, i_eq, i32_gI, i64_gJ, i32_id, i32_to, i64_to, sI_i32, sJ_i64, b01_t, b01_f, i32_b01, b01_0, ↓a_s0, ↓n_s0, ↓a_s1, ↓n_s1, Int.add_zero, t_lt, f_lt, t_le, f_le, t_eq, f_eq, true_and, and_true, false_and, and_false, and_self, ↓reduceIte, z_bool_of, or_true, true_or, or_false, false_or, Int.neg_neg, not_true_eq_false, not_false_eq_true, lg_lt, lg_le, lg_gt, lg_ge, lg_eq, j_lit, j_add, j_sub, j_mul, j_neg, j_eq, i64_id, ij, ji, z_rt, Nat.reduceEqDiff, Nat.reduceAdd, Int.reduceAdd, Int.reduceSub, Int.reduceMul, Int.reduceNeg, Int.reduceLT, Int.reduceLE, Int.reduceEq]
    · subst h1
      obtain ⟨so', e1, e2⟩ := t237 (X := X) (d := d) hd hB hn hE hn2 hL hs ht.2 (o := o) ⟨ho, by omega⟩ hR h2
      obtain ⟨r, w1, w2⟩ := ih (o + 1) so' (by omega) (by omega) e2
      exact ⟨r, by rw [e1]; exact w1, w2⟩
theorem x237 (hd : 0 < d) (hB : PrB E f M 100000000) (hn : 0 ≤ E.1 ∧ E.1 ≤ 20) (hE : ∀ p v, E.2.2 p v → 0 ≤ p) {S : zS} {n s t : Int} (hn2 : 1 ≤ n ∧ n ≤ 200) (hL : Laid S E f n) (hs : 0 ≤ s ∧ s ≤ E.1) (ht : 0 ≤ t ∧ t ≤ n) (hR : RcR S E n s t) : ∃ r : Int, z_ev X d (z_entry 237 [.ref 72, .int (Int32.ofInt s), .int (Int32.ofInt t)] (mk S)) = some (vI r, mk S) ∧ ((r = 1 ∧ Gs E (UA S n) t s) ∨ (r = 0 ∧ ¬ Gs E (UA S n) t s)) := by
  obtain ⟨l1, l2, l3, l4, l5, l6⟩ := id hL
  have g0 : GT E (UA S n) s t 0 ↔ ((t = 0 ∧ s = 0) ∨ (s - 1 < E.1 ∧ E.2.2 (s - 1) 2 ∧ Gs E (UA S n) t (s - 1))) := by
    constructor
    · rintro (w | ⟨m, w1, w2, -⟩)
      · exact w
      · have := w2.1; omega
    · intro w; exact Or.inl w
  have fin : ∀ so : Int, ((so = 1 ∧ GT E (UA S n) s t 0) ∨ (so = 0 ∧ ¬ GT E (UA S n) s t 0)) → z_ev X d (z_entry 237 [.ref 72, .int (Int32.ofInt s), .int (Int32.ofInt t)] (mk S)) = z_ev X d (237, 66, L237 s t so (vI 0), [], mk S) → ∃ r : Int, z_ev X d (z_entry 237 [.ref 72, .int (Int32.ofInt s), .int (Int32.ofInt t)] (mk S)) = some (vI r, mk S) ∧ ((r = 1 ∧ Gs E (UA S n) t s) ∨ (r = 0 ∧ ¬ Gs E (UA S n) t s)) := fun so h e => by
    obtain ⟨r, w1, w2⟩ := l237 (X := X) (d := d) hd hB hn hE hn2 hL hs ht hR t.toNat 0 so (by omega) (by omega) h
    exact ⟨r, by rw [e]; exact w1, w2⟩
  have ent : z_ev X d (z_entry 237 [.ref 72, .int (Int32.ofInt s), .int (Int32.ofInt t)] (mk S)) = z_ev X d (237, 0, [some (.ref 72), some (.int (Int32.ofInt s)), some (.int (Int32.ofInt t)), none, none], [], mk S) := rfl
  by_cases s0 : s = 0
  · subst s0
    have nel : ¬ ((0 : Int) - 1 < E.1 ∧ E.2.2 (0 - 1) 2 ∧ Gs E (UA S n) t (0 - 1)) := fun z => by have := hE _ _ z.2.1; omega
    by_cases t0 : t = 0
    · refine fin 1 (Or.inl ⟨rfl, g0.mpr (Or.inl ⟨t0, rfl⟩)⟩) ?_
      rw [ent]
      simp (disch := first | omega | assumption | exact b01_rng _ | exact st_5 | exact st_12 | exact st_19 | (simp only [isSt_sI, isSt_sJ, isSt_sF, isSt_sG, isSt_sA]; assumption)) only [↓B237_0, ↓B237_4, ↓B237_8, ↓B237_13, ↓B237_57, ↓B237_62, i_lit, i_add, i_sub, i_mul, i_neg, i_lt, i_le, i_eq, i32_gI, i64_gJ, i32_id, i32_to, i64_to, sI_i32, sJ_i64, b01_t, b01_f, i32_b01, b01_0, ↓a_s0, ↓n_s0, ↓a_s1, ↓n_s1, Int.add_zero, t_lt, f_lt, t_le, f_le, t_eq, f_eq, true_and, and_true, false_and, and_false, and_self, ↓reduceIte, z_bool_of, or_true, true_or, or_false, false_or, Int.neg_neg, not_true_eq_false, not_false_eq_true, lg_lt, lg_le, lg_gt, lg_ge, lg_eq, j_lit, j_add, j_sub, j_mul, j_neg, j_eq, i64_id, ij, ji, z_rt, Nat.reduceEqDiff, Nat.reduceAdd, Int.reduceAdd, Int.reduceSub, Int.reduceMul, Int.reduceNeg, Int.reduceLT, Int.reduceLE, Int.reduceEq, t0]
    · refine fin 0 (Or.inr ⟨rfl, fun z => ?_⟩) ?_
      · rcases g0.mp z with z | z
        · exact t0 z.1
        · exact nel z
      · rw [ent]
        simp (disch := first | omega | assumption | exact b01_rng _ | exact st_5 | exact st_12 | exact st_19 | (simp only [isSt_sI, isSt_sJ, isSt_sF, isSt_sG, isSt_sA]; assumption)) only [↓B237_0, ↓B237_4, ↓B237_12, ↓B237_13, ↓B237_18, ↓B237_61, ↓B237_62, i_lit, i_add, i_sub, i_mul, i_neg, i_lt, i_le, i_eq, i32_gI, i64_gJ, i32_id, i32_to, i64_to, sI_i32, sJ_i64, b01_t, b01_f, i32_b01, b01_0, ↓a_s0, ↓n_s0, ↓a_s1, ↓n_s1, Int.add_zero, t_lt, f_lt, t_le, f_le, t_eq, f_eq, true_and, and_true, false_and, and_false, and_self, ↓reduceIte, z_bool_of, or_true, true_or, or_false, false_or, Int.neg_neg, not_true_eq_false, not_false_eq_true, lg_lt, lg_le, lg_gt, lg_ge, lg_eq, j_lit, j_add, j_sub, j_mul, j_neg, j_eq, i64_id, ij, ji, z_rt, Nat.reduceEqDiff, Nat.reduceAdd, Int.reduceAdd, Int.reduceSub, Int.reduceMul, Int.reduceNeg, Int.reduceLT, Int.reduceLE, Int.reduceEq, t0]
  · have hcan := l5.can hB (p := s - 1) (v := 2) (by omega) (by omega)
    have e1 : 3 * (s - 1) + 2 = 3 * s - 1 := by omega
    have e2 : 201 * s - 201 + t = 201 * (s - 1) + t := by omega
    rw [e1] at hcan
    by_cases u : gI S 103 (3 * s - 1) < 100000000
    · rcases hR (s - 1) t (by omega) ht.1 ht.2 (Or.inl (by omega)) with ⟨r1, r2⟩ | ⟨r1, r2⟩
      · refine fin 1 (Or.inl ⟨rfl, g0.mpr (Or.inr ⟨by omega, hcan.mp u, r2⟩)⟩) ?_
        rw [ent]
        simp (disch := first | omega | assumption | exact b01_rng _ | exact st_5 | exact st_12 | exact st_19 | (simp only [isSt_sI, isSt_sJ, isSt_sF, isSt_sG, isSt_sA]; assumption)) only [↓B237_0, ↓B237_12, ↓B237_13, ↓B237_18, ↓B237_22, ↓B237_38, ↓B237_57, ↓B237_62, ↓a_100, ↓a_103, ↓a_108, ↓a_99, ↓n_100, ↓n_103, ↓n_108, ↓n_99, ↓o_72, ↓r_72_50, ↓r_72_52, ↓r_72_55, ↓r_72_60, ↓s_100, ↓s_103, ↓s_108, ↓s_99, i_lit, i_add, i_sub, i_mul, i_neg, i_lt, i_le, i_eq, i32_gI, i64_gJ, i32_id, i32_to, i64_to, sI_i32, sJ_i64, b01_t, b01_f, i32_b01, b01_0, ↓a_s0, ↓n_s0, ↓a_s1, ↓n_s1, Int.add_zero, t_lt, f_lt, t_le, f_le, t_eq, f_eq, true_and, and_true, false_and, and_false, and_self, ↓reduceIte, z_bool_of, or_true, true_or, or_false, false_or, Int.neg_neg, not_true_eq_false, not_false_eq_true, lg_lt, lg_le, lg_gt, lg_ge, lg_eq, j_lit, j_add, j_sub, j_mul, j_neg, j_eq, i64_id, ij, ji, z_rt, Nat.reduceEqDiff, Nat.reduceAdd, Int.reduceAdd, Int.reduceSub, Int.reduceMul, Int.reduceNeg, Int.reduceLT, Int.reduceLE, Int.reduceEq, s0, e2, r1]
      · refine fin 0 (Or.inr ⟨rfl, fun z => ?_⟩) ?_
        · rcases g0.mp z with z | z
          · exact s0 z.2
          · exact r2 z.2.2
        · rw [ent]
          simp (disch := first | omega | assumption | exact b01_rng _ | exact st_5 | exact st_12 | exact st_19 | (simp only [isSt_sI, isSt_sJ, isSt_sF, isSt_sG, isSt_sA]; assumption)) only [↓B237_0, ↓B237_12, ↓B237_13, ↓B237_18, ↓B237_22, ↓B237_38, ↓B237_61, ↓B237_62, ↓a_100, ↓a_103, ↓a_108, ↓a_99, ↓n_100, ↓n_103, ↓n_108, ↓n_99, ↓o_72, ↓r_72_50, ↓r_72_52, ↓r_72_55, ↓r_72_60, ↓s_100, ↓s_103, ↓s_108, ↓s_99, i_lit, i_add, i_sub, i_mul, i_neg, i_lt, i_le, i_eq, i32_gI, i64_gJ, i32_id, i32_to, i64_to, sI_i32, sJ_i64, b01_t, b01_f, i32_b01, b01_0, ↓a_s0, ↓n_s0, ↓a_s1, ↓n_s1, Int.add_zero, t_lt, f_lt, t_le, f_le, t_eq, f_eq, true_and, and_true, false_and, and_false, and_self, ↓reduceIte, z_bool_of, or_true, true_or, or_false, false_or, Int.neg_neg, not_true_eq_false, not_false_eq_true, lg_lt, lg_le, lg_gt, lg_ge, lg_eq, j_lit, j_add, j_sub, j_mul, j_neg, j_eq, i64_id, ij, ji, z_rt, Nat.reduceEqDiff, Nat.reduceAdd, Int.reduceAdd, Int.reduceSub, Int.reduceMul, Int.reduceNeg, Int.reduceLT, Int.reduceLE, Int.reduceEq, s0, e2, r1]
    · refine fin 0 (Or.inr ⟨rfl, fun z => ?_⟩) ?_
      · rcases g0.mp z with z | z
        · exact s0 z.2
        · exact u (hcan.mpr z.2.1)
      · rw [ent]
        simp (disch := first | omega | assumption | exact b01_rng _ | exact st_5 | exact st_12 | exact st_19 | (simp only [isSt_sI, isSt_sJ, isSt_sF, isSt_sG, isSt_sA]; assumption)) only [↓B237_0, ↓B237_12, ↓B237_13, ↓B237_18, ↓B237_22, ↓B237_61, ↓B237_62, ↓a_100, ↓a_103, ↓a_108, ↓a_99, ↓n_100, ↓n_103, ↓n_108, ↓n_99, ↓o_72, ↓r_72_50, ↓r_72_52, ↓r_72_55, ↓r_72_60, ↓s_100, ↓s_103, ↓s_108, ↓s_99, i_lit, i_add, i_sub, i_mul, i_neg, i_lt, i_le, i_eq, i32_gI, i64_gJ, i32_id, i32_to, i64_to, sI_i32, sJ_i64, b01_t, b01_f, i32_b01, b01_0, ↓a_s0, ↓n_s0, ↓a_s1, ↓n_s1, Int.add_zero, t_lt, f_lt, t_le, f_le, t_eq, f_eq, true_and, and_true, false_and, and_false, and_self, ↓reduceIte, z_bool_of, or_true, true_or, or_false, false_or, Int.neg_neg, not_true_eq_false, not_false_eq_true, lg_lt, lg_le, lg_gt, lg_ge, lg_eq, j_lit, j_add, j_sub, j_mul, j_neg, j_eq, i64_id, ij, ji, z_rt, Nat.reduceEqDiff, Nat.reduceAdd, Int.reduceAdd, Int.reduceSub, Int.reduceMul, Int.reduceNeg, Int.reduceLT, Int.reduceLE, Int.reduceEq, s0]
end
