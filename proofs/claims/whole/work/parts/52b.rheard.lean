/-! the reference: whether a metre takes what was heard -/
def OkK (k : Int) (g : Int → Int) (p v : Int) : Prop := ∀ j : Int, 0 ≤ j → j < k → g (68 + 2 * j) = p → g (69 + 2 * j) = v
theorem OkK_s {k : Int} {g : Int → Int} {p v : Int} (hk : 0 ≤ k) : OkK (k + 1) g p v ↔ OkK k g p v ∧ (g (68 + 2 * k) = p → g (69 + 2 * k) = v) := by
  constructor
  · intro h; exact ⟨fun j q1 q2 => h j q1 (by omega), h k hk (by omega)⟩
  · rintro ⟨h4, h5⟩ j q1 q2 q3
    by_cases e : j = k
    · subst e; exact h5 q3
    · exact h4 j q1 (by omega) q3
def FrHe (S S' : zS) : Prop := Dyn S S' ∧ (∀ a i, a ≠ 103 → gI S' a i = gI S a i) ∧ (∀ a i, gJ S' a i = gJ S a i) ∧ (∀ a i, gQ S' a i = gQ S a i)
theorem FrHe.rf {S : zS} : FrHe S S := ⟨Dyn.rf, fun _ _ _ => rfl, fun _ _ => rfl, fun _ _ => rfl⟩
theorem FrHe.tr {A B C : zS} (h1 : FrHe A B) (h2 : FrHe B C) : FrHe A C := ⟨h1.1.tr h2.1, fun a i q => (h2.2.1 a i q).trans (h1.2.1 a i q), fun a i => (h2.2.2.1 a i).trans (h1.2.2.1 a i), fun a i => (h2.2.2.2 a i).trans (h1.2.2.2 a i)⟩
theorem FrHe.I {S : zS} {i x : Int} : FrHe S (sI S 103 i x) := ⟨Dyn.sI (by decide) Dyn.rf, fun b j q => by rw [gI_sI, if_neg (by omega)], fun _ _ => rfl, fun _ _ => rfl⟩
theorem FrHe.q {S S' : zS} (h : FrHe S S') : FrQm S S' := ⟨h.1, fun a i q r s => h.2.1 a i (by omega), fun a i _ _ => h.2.2.1 a i, h.2.2.2⟩
section
variable {X : zX} {d : Nat} {cls : List Cl} {g : Int → Int}
/-- prices, so many of what was heard being asked -/
def PcK (S : zS) (cls : List Cl) (g : Int → Int) (k v : Int) : Prop := ∀ q u : Int, 0 ≤ q → q < g 0 → 0 ≤ u → u ≤ 2 → (OkK (if u < v then k + 1 else k) g q u ∧ gI S 103 (3 * q + u) = prR cls g 1 q u) ∨ (¬ OkK (if u < v then k + 1 else k) g q u ∧ gI S 103 (3 * q + u) = 100000000)
theorem PcK.nx {S : zS} {k : Int} (h : PcK S cls g k 3) : PcK S cls g (k + 1) 0 := fun q u q1 q2 q3 q4 => by
  have := h q u q1 q2 q3 q4
  rw [if_pos (by omega)] at this
  rw [if_neg (by omega)]; exact this
abbrev L253 (m so k : Int) (x4 x5 : Option Value) : zL := [some (.ref 72), some (.int (Int32.ofInt m)), some (.int (Int32.ofInt so)), some (.int (Int32.ofInt k)), x4, x5]
theorem prR_b (hk : ∀ cl ∈ cls, LwK cl) {p v : Int} : 0 ≤ prR cls g 1 p v ∧ prR cls g 1 p v ≤ 100000000 := by
  unfold prR
  split
  · rw [if_neg (by omega)]
    split <;> omega
  · split <;> omega
theorem t253 {S : zS} {m k v : Int} (hB : HdB g) (hgE : gI S 74 = g) (hk : 0 ≤ k ∧ k < g 2) (hp : g (68 + 2 * k) < g 0) (hg : g 0 ≤ 20) (hv : 0 ≤ v ∧ v ≤ 2) (hP : PcK S cls g k v) : ∃ S' : zS, z_ev X d (253, 59, L253 m 1 k (vI (g (68 + 2 * k))) (vI v), [], mk S) = z_ev X d (253, 59, L253 m 1 k (vI (g (68 + 2 * k))) (vI (v + 1)), [], mk S') ∧ FrHe S S' ∧ PcK S' cls g k (v + 1) := by
  obtain ⟨hb, hbk⟩ := hB
  obtain ⟨⟨p1, p2⟩, w1, w2⟩ := hbk k hk.1 hk.2
  have e1 : 68 + 2 * k + 1 = 69 + 2 * k := by omega
  have hw : gI S 74 (69 + 2 * k) = g (69 + 2 * k) := by rw [hgE]
  have same : ∀ u : Int, u ≠ v → (if u < v + 1 then k + 1 else k) = (if u < v then k + 1 else k) := fun u q => by
    by_cases z : u < v
    · rw [if_pos z, if_pos (by omega)]
    · rw [if_neg z, if_neg (by omega)]
  by_cases q : v = g (69 + 2 * k)
  · refine ⟨sI S 103 (3 * g (68 + 2 * k) + v) (gI S 103 (3 * g (68 + 2 * k) + v)), ?_, FrHe.I, fun r u q1 q2 q3 q4 => ?_⟩
    · rw [B253_59]
      simp (disch := first | omega | assumption | exact b01_rng _ | exact st_5 | exact st_12 | exact st_19 | (simp only [isSt_sI, isSt_sJ, isSt_sF, isSt_sG, isSt_sA]; assumption)) only [↓B253_65, ↓B253_69, ↓B253_98, ↓B253_116, ↓a_103, ↓a_74, ↓n_103, ↓n_74, ↓o_72, ↓r_72_3, ↓r_72_55, ↓s_103, ↓s_74, i_lit, i_add, i_sub, i_mul, i_neg, i_lt, i_le, i_eq, i32_gI, i64_gJ, i32_id, i32_to, i64_to, sI_i32, sJ_i64, b01_t, b01_f, i32_b01, b01_0, ↓a_s0, ↓n_s0, ↓a_s1, ↓n_s1, Int.add_zero, t_lt, f_lt, t_le, f_le, t_eq, f_eq, true_and, and_true, false_and, and_false, and_self, ↓reduceIte, z_bool_of, or_true, true_or, or_false, false_or, Int.neg_neg, not_true_eq_false, not_false_eq_true, lg_lt, lg_le, lg_gt, lg_ge, lg_eq, j_lit, j_add, j_sub, j_mul, j_neg, j_eq, i64_id, ij, ji, z_rt, Nat.reduceEqDiff, Nat.reduceAdd, Int.reduceAdd, Int.reduceSub, Int.reduceMul, Int.reduceNeg, Int.reduceLT, Int.reduceLE, Int.reduceEq, e1, hw, q]
    · have g3 : gI (sI S 103 (3 * g (68 + 2 * k) + v) (gI S 103 (3 * g (68 + 2 * k) + v))) 103 (3 * r + u) = gI S 103 (3 * r + u) := by
        rw [gI_sI]
        split
        · next z => rw [z.2, i32_gI]
        · rfl
      rw [g3]
      by_cases e : u = v
      · subst e
        have := hP r u q1 q2 q3 q4
        rw [if_neg (by omega)] at this
        rw [if_pos (by omega), OkK_s hk.1]
        rcases this with ⟨z1, z2⟩ | ⟨z1, z2⟩
        · exact Or.inl ⟨⟨z1, fun _ => q.symm⟩, z2⟩
        · exact Or.inr ⟨fun z => z1 z.1, z2⟩
      · rw [same u e]; exact hP r u q1 q2 q3 q4
  · refine ⟨sI S 103 (3 * g (68 + 2 * k) + v) 100000000, ?_, FrHe.I, fun r u q1 q2 q3 q4 => ?_⟩
    · rw [B253_59]
      simp (disch := first | omega | assumption | exact b01_rng _ | exact st_5 | exact st_12 | exact st_19 | (simp only [isSt_sI, isSt_sJ, isSt_sF, isSt_sG, isSt_sA]; assumption)) only [↓B253_65, ↓B253_69, ↓B253_113, ↓B253_116, ↓a_103, ↓a_74, ↓n_103, ↓n_74, ↓o_72, ↓r_72_3, ↓r_72_55, ↓s_103, ↓s_74, i_lit, i_add, i_sub, i_mul, i_neg, i_lt, i_le, i_eq, i32_gI, i64_gJ, i32_id, i32_to, i64_to, sI_i32, sJ_i64, b01_t, b01_f, i32_b01, b01_0, ↓a_s0, ↓n_s0, ↓a_s1, ↓n_s1, Int.add_zero, t_lt, f_lt, t_le, f_le, t_eq, f_eq, true_and, and_true, false_and, and_false, and_self, ↓reduceIte, z_bool_of, or_true, true_or, or_false, false_or, Int.neg_neg, not_true_eq_false, not_false_eq_true, lg_lt, lg_le, lg_gt, lg_ge, lg_eq, j_lit, j_add, j_sub, j_mul, j_neg, j_eq, i64_id, ij, ji, z_rt, Nat.reduceEqDiff, Nat.reduceAdd, Int.reduceAdd, Int.reduceSub, Int.reduceMul, Int.reduceNeg, Int.reduceLT, Int.reduceLE, Int.reduceEq, e1, hw, q]
    · rw [gI_sI]
      by_cases e : u = v
      · subst e
        have := hP r u q1 q2 q3 q4
        rw [if_neg (by omega)] at this
        rw [if_pos (show u < u + 1 by omega), OkK_s hk.1]
        by_cases e2 : r = g (68 + 2 * k)
        · rw [if_pos ⟨rfl, by omega⟩]
          exact Or.inr ⟨fun z => q (z.2 e2.symm).symm, rfl⟩
        · rw [if_neg (fun z => e2 (by omega))]
          rcases this with ⟨z1, z2⟩ | ⟨z1, z2⟩
          · exact Or.inl ⟨⟨z1, fun z => absurd z.symm e2⟩, z2⟩
          · exact Or.inr ⟨fun z => z1 z.1, z2⟩
      · rw [same u e, if_neg (show ¬ ((103 : Nat) = 103 ∧ 3 * r + u = 3 * g (68 + 2 * k) + v) from fun z => e (by omega))]; exact hP r u q1 q2 q3 q4
theorem l253 (hd : 1 < d) (hB : HdB g) (hg : 0 ≤ g 0 ∧ g 0 ≤ 20) {m : Int} : ∀ (c : Nat) (k so : Int) (S : zS) (x4 x5 : Option Value), k + c = g 2 → 0 ≤ k → gI S 74 = g → ((so = 1 ∧ HrA k g ∧ PcK S cls g k 0) ∨ (so = 0 ∧ ¬ HrA (g 2) g)) → ∃ (S' : zS) (so' : Int) (y4 y5 : Option Value), z_ev X d (253, 14, L253 m so k x4 x5, [], mk S) = z_ev X d (253, 129, L253 m so' (g 2) y4 y5, [], mk S') ∧ FrHe S S' ∧ ((so' = 1 ∧ HrA (g 2) g ∧ PcK S' cls g (g 2) 0) ∨ (so' = 0 ∧ ¬ HrA (g 2) g)) := by
  intro c
  induction c with
  | zero =>
    intro k so S x4 x5 hc hk hgE h
    have : k = g 2 := by omega
    subst this
    have b2 := hB.1
    have h2 : gI S 74 2 = g 2 := by rw [hgE]
    refine ⟨S, so, x4, x5, ?_, FrHe.rf, h⟩
    rw [B253_14]
    simp (disch := first | omega | assumption | exact b01_rng _ | exact st_5 | exact st_12 | exact st_19 | (simp only [isSt_sI, isSt_sJ, isSt_sF, isSt_sG, isSt_sA]; assumption)) only [↓a_103, ↓a_74, ↓n_103, ↓n_74, ↓o_72, ↓r_72_3, ↓r_72_55, ↓s_103, ↓s_74, i_lit, i_add, i_sub, i_mul, i_neg, i_lt, i_le, i_eq, i32_gI, i64_gJ, i32_id, i32_to, i64_to, sI_i32, sJ_i64, b01_t, b01_f, i32_b01, b01_0, ↓a_s0, ↓n_s0, ↓a_s1, ↓n_s1, Int.add_zero, t_lt, f_lt, t_le, f_le, t_eq, f_eq, true_and, and_true, false_and, and_false, and_self, ↓reduceIte, z_bool_of, or_true, true_or, or_false, false_or, Int.neg_neg, not_true_eq_false, not_false_eq_true, lg_lt, lg_le, lg_gt, lg_ge, lg_eq, j_lit, j_add, j_sub, j_mul, j_neg, j_eq, i64_id, ij, ji, z_rt, Nat.reduceEqDiff, Nat.reduceAdd, Int.reduceAdd, Int.reduceSub, Int.reduceMul, Int.reduceNeg, Int.reduceLT, Int.reduceLE, Int.reduceEq, h2]
  | succ c ih =>
    intro k so S x4 x5 hc hk hgE h
    obtain ⟨hb, hbk⟩ := id hB
    obtain ⟨⟨p1, p2⟩, w1, w2⟩ := hbk k hk (by omega)
    have h2 : gI S 74 2 = g 2 := by rw [hgE]
    have hp : gI S 74 (68 + 2 * k) = g (68 + 2 * k) := by rw [hgE]
    have h0 : gI S 74 0 = g 0 := by rw [hgE]
    have c162' := fun {cm cp : Nat} {L : zL} {st : List Value} => c162 (X := X) (d := d) hd (cm := cm) (cp := cp) (L := L) (st := st) (S := S) (g (68 + 2 * k)) (by omega) (by omega)
    rw [h0] at c162'
    rcases h with ⟨rfl, hA, hP⟩ | ⟨rfl, hno⟩
    · by_cases q : g (68 + 2 * k) < g 0
      · rw [show b01 (0 ≤ g (68 + 2 * k) ∧ g (68 + 2 * k) < g 0) = 1 from if_pos ⟨p1, q⟩] at c162'
        obtain ⟨S1, a1, a2, a3⟩ := t253 (X := X) (d := d) (m := m) hB hgE ⟨hk, by omega⟩ q hg.2 (v := 0) (by omega) hP
        obtain ⟨S2, b1, b2, b3⟩ := t253 (X := X) (d := d) (m := m) hB ((funext fun i => a2.2.1 74 i (by omega) : gI S1 74 = gI S 74).trans hgE) ⟨hk, by omega⟩ q hg.2 (v := 0 + 1) (by omega) a3
        have hg2 : gI S2 74 = g := ((funext fun i => (a2.tr b2).2.1 74 i (by omega) : gI S2 74 = gI S 74).trans hgE)
        obtain ⟨S3, d1, d2, d3⟩ := t253 (X := X) (d := d) (m := m) hB hg2 ⟨hk, by omega⟩ q hg.2 (v := 0 + 1 + 1) (by omega) b3
        have hg3 : gI S3 74 = g := ((funext fun i => ((a2.tr b2).tr d2).2.1 74 i (by omega) : gI S3 74 = gI S 74).trans hgE)
        obtain ⟨S', so', y4, y5, e1, e2, e3⟩ := ih (k + 1) 1 S3 (vI (g (68 + 2 * k))) (vI (0 + 1 + 1 + 1)) (by omega) (by omega) hg3 (Or.inl ⟨rfl, fun j q1 q2 => by
          by_cases e : j = k
          · subst e; exact q
          · exact hA j q1 (by omega), d3.nx⟩)
        refine ⟨S', so', y4, y5, ?_, ((a2.tr b2).tr d2).tr e2, e3⟩
        have f1 : z_ev X d (253, 14, L253 m 1 k x4 x5, [], mk S) = z_ev X d (253, 59, L253 m 1 k (vI (g (68 + 2 * k))) (vI 0), [], mk S) := by
          rw [B253_14]
          simp (disch := first | omega | assumption | exact b01_rng _ | exact st_5 | exact st_12 | exact st_19 | (simp only [isSt_sI, isSt_sJ, isSt_sF, isSt_sG, isSt_sA]; assumption)) only [↓B253_24, ↓B253_41, ↓B253_47, ↓B253_50, ↓B253_55, ↓a_103, ↓a_74, ↓n_103, ↓n_74, ↓o_72, ↓r_72_3, ↓r_72_55, ↓s_103, ↓s_74, ↓o_72, c162', i_lit, i_add, i_sub, i_mul, i_neg, i_lt, i_le, i_eq, i32_gI, i64_gJ, i32_id, i32_to, i64_to, sI_i32, sJ_i64, b01_t, b01_f, i32_b01, b01_0, ↓a_s0, ↓n_s0, ↓a_s1, ↓n_s1, Int.add_zero, t_lt, f_lt, t_le, f_le, t_eq, f_eq, true_and, and_true, false_and, and_false, and_self, ↓reduceIte, z_bool_of, or_true, true_or, or_false, false_or, Int.neg_neg, not_true_eq_false, not_false_eq_true, lg_lt, lg_le, lg_gt, lg_ge, lg_eq, j_lit, j_add, j_sub, j_mul, j_neg, j_eq, i64_id, ij, ji, z_rt, Nat.reduceEqDiff, Nat.reduceAdd, Int.reduceAdd, Int.reduceSub, Int.reduceMul, Int.reduceNeg, Int.reduceLT, Int.reduceLE, Int.reduceEq, h2, hp]
        rw [f1, a1, b1, d1, ← e1, B253_59]
        simp (disch := first | omega | assumption | exact b01_rng _ | exact st_5 | exact st_12 | exact st_19 | (simp only [isSt_sI, isSt_sJ, isSt_sF, isSt_sG, isSt_sA]; assumption)) only [↓B253_123, i_lit, i_add, i_sub, i_mul, i_neg, i_lt, i_le, i_eq, i32_gI, i64_gJ, i32_id, i32_to, i64_to, sI_i32, sJ_i64, b01_t, b01_f, i32_b01, b01_0, ↓a_s0, ↓n_s0, ↓a_s1, ↓n_s1, Int.add_zero, t_lt, f_lt, t_le, f_le, t_eq, f_eq, true_and, and_true, false_and, and_false, and_self, ↓reduceIte, z_bool_of, or_true, true_or, or_false, false_or, Int.neg_neg, not_true_eq_false, not_false_eq_true, lg_lt, lg_le, lg_gt, lg_ge, lg_eq, j_lit, j_add, j_sub, j_mul, j_neg, j_eq, i64_id, ij, ji, z_rt, Nat.reduceEqDiff, Nat.reduceAdd, Int.reduceAdd, Int.reduceSub, Int.reduceMul, Int.reduceNeg, Int.reduceLT, Int.reduceLE, Int.reduceEq]
      · rw [show b01 (0 ≤ g (68 + 2 * k) ∧ g (68 + 2 * k) < g 0) = 0 from if_neg (fun z => q z.2)] at c162'
        obtain ⟨S', so', y4, y5, e1, e2, e3⟩ := ih (k + 1) 0 S (vI (g (68 + 2 * k))) (vI 0) (by omega) (by omega) hgE (Or.inr ⟨rfl, fun z => q (z k hk (by omega))⟩)
        refine ⟨S', so', y4, y5, ?_, e2, e3⟩
        rw [← e1, B253_14]
        simp (disch := first | omega | assumption | exact b01_rng _ | exact st_5 | exact st_12 | exact st_19 | (simp only [isSt_sI, isSt_sJ, isSt_sF, isSt_sG, isSt_sA]; assumption)) only [↓B253_24, ↓B253_41, ↓B253_47, ↓B253_54, ↓B253_55, ↓B253_59, ↓B253_65, ↓B253_123, ↓a_103, ↓a_74, ↓n_103, ↓n_74, ↓o_72, ↓r_72_3, ↓r_72_55, ↓s_103, ↓s_74, ↓o_72, c162', i_lit, i_add, i_sub, i_mul, i_neg, i_lt, i_le, i_eq, i32_gI, i64_gJ, i32_id, i32_to, i64_to, sI_i32, sJ_i64, b01_t, b01_f, i32_b01, b01_0, ↓a_s0, ↓n_s0, ↓a_s1, ↓n_s1, Int.add_zero, t_lt, f_lt, t_le, f_le, t_eq, f_eq, true_and, and_true, false_and, and_false, and_self, ↓reduceIte, z_bool_of, or_true, true_or, or_false, false_or, Int.neg_neg, not_true_eq_false, not_false_eq_true, lg_lt, lg_le, lg_gt, lg_ge, lg_eq, j_lit, j_add, j_sub, j_mul, j_neg, j_eq, i64_id, ij, ji, z_rt, Nat.reduceEqDiff, Nat.reduceAdd, Int.reduceAdd, Int.reduceSub, Int.reduceMul, Int.reduceNeg, Int.reduceLT, Int.reduceLE, Int.reduceEq, h2, hp]
    · obtain ⟨S', so', y4, y5, e1, e2, e3⟩ := ih (k + 1) 0 S (vI (g (68 + 2 * k))) (vI 0) (by omega) (by omega) hgE (Or.inr ⟨rfl, hno⟩)
      refine ⟨S', so', y4, y5, ?_, e2, e3⟩
      rw [← e1, B253_14]
      simp (disch := first | omega | assumption | exact b01_rng _ | exact st_5 | exact st_12 | exact st_19 | (simp only [isSt_sI, isSt_sJ, isSt_sF, isSt_sG, isSt_sA]; assumption)) only [↓B253_24, ↓B253_54, ↓B253_55, ↓B253_59, ↓B253_65, ↓B253_123, ↓a_103, ↓a_74, ↓n_103, ↓n_74, ↓o_72, ↓r_72_3, ↓r_72_55, ↓s_103, ↓s_74, i_lit, i_add, i_sub, i_mul, i_neg, i_lt, i_le, i_eq, i32_gI, i64_gJ, i32_id, i32_to, i64_to, sI_i32, sJ_i64, b01_t, b01_f, i32_b01, b01_0, ↓a_s0, ↓n_s0, ↓a_s1, ↓n_s1, Int.add_zero, t_lt, f_lt, t_le, f_le, t_eq, f_eq, true_and, and_true, false_and, and_false, and_self, ↓reduceIte, z_bool_of, or_true, true_or, or_false, false_or, Int.neg_neg, not_true_eq_false, not_false_eq_true, lg_lt, lg_le, lg_gt, lg_ge, lg_eq, j_lit, j_add, j_sub, j_mul, j_neg, j_eq, i64_id, ij, ji, z_rt, Nat.reduceEqDiff, Nat.reduceAdd, Int.reduceAdd, Int.reduceSub, Int.reduceMul, Int.reduceNeg, Int.reduceLT, Int.reduceLE, Int.reduceEq, h2, hp]
theorem PrS_K {S : zS} (hk : ∀ cl ∈ cls, LwK cl) (hP : PcK S cls g (g 2) 0) : PrS S (LnK (g 2) cls g) (fH 1 cls g) := by
  intro p v q1 q2 q3 q4
  have h := hP p v q1 q2 q3 q4
  rw [if_neg (by omega)] at h
  rcases h with ⟨z1, z2⟩ | ⟨z1, z2⟩
  · rw [z2]
    unfold prR
    by_cases w : CanR cls g p v
    · have eF : fH 1 cls g p v = (if (1 : Int) = 0 then CstR cls g p v else if (1 : Int) = 1 ∧ v = 2 then 1 else 0) := by unfold fH; rw [if_pos w]
      rw [if_pos w]
      rw [if_neg (show ¬ (1 : Int) = 0 by omega)] at eF ⊢
      refine ⟨⟨?_, fun _ => eF, fun u => absurd ⟨q2, ⟨q1, q2⟩, ⟨q3, q4⟩, w, z1⟩ u⟩, ?_⟩
      · split <;> omega
      · split <;> omega
    · rw [if_neg w, if_neg (by omega)]
      exact ⟨⟨by omega, fun z => absurd z.2.2.2.1 w, fun _ => Int.le_refl _⟩, Int.le_refl _⟩
  · rw [z2]
    exact ⟨⟨by omega, fun z => absurd z.2.2.2.2 z1, fun _ => Int.le_refl _⟩, Int.le_refl _⟩
theorem PcR.k {S : zS} (h : PcR S cls g 1 (g 0)) : PcK S cls g 0 0 := fun q u q1 q2 q3 q4 => by
  rw [if_neg (by omega)]
  exact Or.inl ⟨fun j w1 w2 => by omega, h q u q1 q2 q3 q4⟩
theorem x253 (hd : 9 < d) {S : zS} (hQ : RefQ S cls) (hB : HdB (gI S 74)) {m : Int} (hm : 0 ≤ m ∧ m < 6) {x : T3} (hX : MtR (gI S 74) (80 + 402 * m) x) : ∃ (S' : zS) (r : Int), z_ev X d (z_entry 253 [.ref 72, .int (Int32.ofInt m)] (mk S)) = some (vI r, mk S') ∧ FrQm S S' ∧ ((r = 1 ∧ HrA (gI S 74 2) (gI S 74) ∧ Gw (LnK (gI S 74 2) cls (gI S 74)) x.1 0 (gI S 74 0)) ∨ (r = 0 ∧ ¬ (HrA (gI S 74 2) (gI S 74) ∧ Gw (LnK (gI S 74 2) cls (gI S 74)) x.1 0 (gI S 74 0)))) := by
  obtain ⟨S1, a1, a2, a3⟩ := x220 (X := X) (d := 9) (by omega) hm hX
  have evA := fun {cm cp : Nat} {L : zL} {st : List Value} => evV (X := X) (d := d) hd a1 (cm := cm) (cp := cp) (L := L) (st := st)
  have hQ1 := hQ.fr a2.q
  have g1 := a2.q.g
  obtain ⟨q1, q2, q3, q4⟩ := hQ1
  obtain ⟨S2, b1, b2, b3⟩ := x223 (X := X) (d := 9) (cls := cls) (by omega) (S := S1) (how := 1) (by omega) q1 q2 q3 q4
  have evB := fun {cm cp : Nat} {L : zL} {st : List Value} => evV (X := X) (d := d) hd b1 (cm := cm) (cp := cp) (L := L) (st := st)
  have g2 := b2.q.g
  rw [g1] at b3 g2
  have hk := hQ.2.2.2.1.1
  have hG := hQ.1
  obtain ⟨S3, so, y4, y5, c1, c2, c3⟩ := l253 (X := X) (d := d) (cls := cls) (m := m) (by omega) hB hG.1 (gI S 74 2).toNat 0 1 S2 none none (by have := hB.1; omega) (by omega) g2 (Or.inl ⟨rfl, fun j w1 w2 => by omega, b3.k⟩)
  have g3 : gI S3 74 = gI S 74 := (c2.q.g).trans g2
  have F3 : FrQm S S3 := (a2.q.tr b2.q).tr c2.q
  have ent : z_ev X d (z_entry 253 [.ref 72, .int (Int32.ofInt m)] (mk S)) = z_ev X d (253, 129, L253 m so (gI S 74 2) y4 y5, [], mk S3) := by
    rw [← c1]
    show z_ev X d (253, 0, [some (.ref 72), some (.int (Int32.ofInt m)), none, none, none, none], [], mk S) = _
    simp (disch := first | omega | assumption | exact b01_rng _ | exact st_5 | exact st_12 | exact st_19 | (simp only [isSt_sI, isSt_sJ, isSt_sF, isSt_sG, isSt_sA]; assumption)) only [↓B253_0, ↓B253_5, ↓B253_10, ↓o_72, evA, evB, i_lit, i_add, i_sub, i_mul, i_neg, i_lt, i_le, i_eq, i32_gI, i64_gJ, i32_id, i32_to, i64_to, sI_i32, sJ_i64, b01_t, b01_f, i32_b01, b01_0, ↓a_s0, ↓n_s0, ↓a_s1, ↓n_s1, Int.add_zero, t_lt, f_lt, t_le, f_le, t_eq, f_eq, true_and, and_true, false_and, and_false, and_self, ↓reduceIte, z_bool_of, or_true, true_or, or_false, false_or, Int.neg_neg, not_true_eq_false, not_false_eq_true, lg_lt, lg_le, lg_gt, lg_ge, lg_eq, j_lit, j_add, j_sub, j_mul, j_neg, j_eq, i64_id, ij, ji, z_rt, Nat.reduceEqDiff, Nat.reduceAdd, Int.reduceAdd, Int.reduceSub, Int.reduceMul, Int.reduceNeg, Int.reduceLT, Int.reduceLE, Int.reduceEq]
  rcases c3 with ⟨rfl, hA, hP⟩ | ⟨rfl, hno⟩
  · obtain ⟨y1, y2, y3, y4', y5', y6⟩ := a3
    have k : ∀ b i, 99 ≤ b → b ≤ 102 → gI S3 b i = gI S1 b i := fun b i w1 w2 => (c2.2.1 b i (by omega)).trans (b2.2.1 b i (by omega) (by omega))
    have hlaid : Laid S3 (LnK (gI S 74 2) cls (gI S 74)) (fH 1 cls (gI S 74)) x.2.1 := ⟨by rw [g3], by rw [c2.2.1 72 51 (by omega), b2.2.1 72 51 (by omega) (by omega)]; exact y1, fun i w1 w2 => by rw [k 101 i (by omega) (by omega), k 102 i (by omega) (by omega), k 99 i (by omega) (by omega)]; exact y3 i w1 w2, fun s o w1 w2 w3 => by rw [k 100 _ (by omega) (by omega)]; exact y4' s o w1 w2 w3, PrS_K hk hP, fun s z1 z2 => CuR_R (how := 0) (cls := cls) g3 s z1 z2⟩
    have hprb : PrB (LnK (gI S 74 2) cls (gI S 74)) (fH 1 cls (gI S 74)) 99 100000000 := ⟨hG.1, fun p v _ => fH_b hk, by omega, by omega⟩
    obtain ⟨S4, d1, d2, d3⟩ := x227 (X := X) (d := 9) (by omega) hprb hG.1 (n := x.2.1) (by omega) hlaid
    have evC := fun {cm cp : Nat} {L : zL} {st : List Value} => evI (X := X) (d := d) hd d1 (cm := cm) (cp := cp) (L := L) (st := st)
    have hu : UA S4 x.2.1 = UA S1 x.2.1 := UA_cg (fun i => (d2.2.1 99 i (by omega)).trans (k 99 i (by omega) (by omega))) (fun i => (d2.2.1 100 i (by omega)).trans (k 100 i (by omega) (by omega))) (fun i => (d2.2.1 102 i (by omega)).trans (k 102 i (by omega) (by omega)))
    have hb := d3 0 0 (by omega) (by omega) hG.1.1 (Or.inl (by omega))
    rw [show (201 : Int) * 0 + 0 = 0 from rfl, hu, y5'] at hb
    have hlt : gI S4 104 0 < 100000000 ↔ Gw (LnK (gI S 74 2) cls (gI S 74)) x.1 0 (gI S 74 0) := by rw [hb.2.lt, Rd_Gw]
    have hbb := hb.1
    by_cases q : gI S4 104 0 < 100000000
    · refine ⟨S4, 1, ?_, F3.tr d2.q, Or.inl ⟨rfl, hA, hlt.mp q⟩⟩
      rw [ent]
      simp (disch := first | omega | assumption | exact b01_rng _ | exact st_5 | exact st_12 | exact st_19 | (simp only [isSt_sI, isSt_sJ, isSt_sF, isSt_sG, isSt_sA]; assumption)) only [↓B253_129, ↓B253_133, ↓B253_137, ↓B253_143, ↓B253_148, ↓o_72, evC, i_lit, i_add, i_sub, i_mul, i_neg, i_lt, i_le, i_eq, i32_gI, i64_gJ, i32_id, i32_to, i64_to, sI_i32, sJ_i64, b01_t, b01_f, i32_b01, b01_0, ↓a_s0, ↓n_s0, ↓a_s1, ↓n_s1, Int.add_zero, t_lt, f_lt, t_le, f_le, t_eq, f_eq, true_and, and_true, false_and, and_false, and_self, ↓reduceIte, z_bool_of, or_true, true_or, or_false, false_or, Int.neg_neg, not_true_eq_false, not_false_eq_true, lg_lt, lg_le, lg_gt, lg_ge, lg_eq, j_lit, j_add, j_sub, j_mul, j_neg, j_eq, i64_id, ij, ji, z_rt, Nat.reduceEqDiff, Nat.reduceAdd, Int.reduceAdd, Int.reduceSub, Int.reduceMul, Int.reduceNeg, Int.reduceLT, Int.reduceLE, Int.reduceEq]
    · refine ⟨S4, 0, ?_, F3.tr d2.q, Or.inr ⟨rfl, fun z => q (hlt.mpr z.2)⟩⟩
      rw [ent]
      simp (disch := first | omega | assumption | exact b01_rng _ | exact st_5 | exact st_12 | exact st_19 | (simp only [isSt_sI, isSt_sJ, isSt_sF, isSt_sG, isSt_sA]; assumption)) only [↓B253_129, ↓B253_133, ↓B253_137, ↓B253_147, ↓B253_148, ↓o_72, evC, i_lit, i_add, i_sub, i_mul, i_neg, i_lt, i_le, i_eq, i32_gI, i64_gJ, i32_id, i32_to, i64_to, sI_i32, sJ_i64, b01_t, b01_f, i32_b01, b01_0, ↓a_s0, ↓n_s0, ↓a_s1, ↓n_s1, Int.add_zero, t_lt, f_lt, t_le, f_le, t_eq, f_eq, true_and, and_true, false_and, and_false, and_self, ↓reduceIte, z_bool_of, or_true, true_or, or_false, false_or, Int.neg_neg, not_true_eq_false, not_false_eq_true, lg_lt, lg_le, lg_gt, lg_ge, lg_eq, j_lit, j_add, j_sub, j_mul, j_neg, j_eq, i64_id, ij, ji, z_rt, Nat.reduceEqDiff, Nat.reduceAdd, Int.reduceAdd, Int.reduceSub, Int.reduceMul, Int.reduceNeg, Int.reduceLT, Int.reduceLE, Int.reduceEq]
  · refine ⟨S3, 0, ?_, F3, Or.inr ⟨rfl, fun z => hno z.1⟩⟩
    rw [ent]
    simp (disch := first | omega | assumption | exact b01_rng _ | exact st_5 | exact st_12 | exact st_19 | (simp only [isSt_sI, isSt_sJ, isSt_sF, isSt_sG, isSt_sA]; assumption)) only [↓B253_129, ↓B253_147, ↓B253_148, i_lit, i_add, i_sub, i_mul, i_neg, i_lt, i_le, i_eq, i32_gI, i64_gJ, i32_id, i32_to, i64_to, sI_i32, sJ_i64, b01_t, b01_f, i32_b01, b01_0, ↓a_s0, ↓n_s0, ↓a_s1, ↓n_s1, Int.add_zero, t_lt, f_lt, t_le, f_le, t_eq, f_eq, true_and, and_true, false_and, and_false, and_self, ↓reduceIte, z_bool_of, or_true, true_or, or_false, false_or, Int.neg_neg, not_true_eq_false, not_false_eq_true, lg_lt, lg_le, lg_gt, lg_ge, lg_eq, j_lit, j_add, j_sub, j_mul, j_neg, j_eq, i64_id, ij, ji, z_rt, Nat.reduceEqDiff, Nat.reduceAdd, Int.reduceAdd, Int.reduceSub, Int.reduceMul, Int.reduceNeg, Int.reduceLT, Int.reduceLE, Int.reduceEq]
/-- metres that can be -/
abbrev CbE (cls : List Cl) (g : Int → Int) (k : Int) : Prop := HrA (g 2) g ∧ TkE (LnK (g 2) cls g) g k
theorem l254 (hd : 10 < d) : ∀ (c k : Nat) (S : zS) (r : Int32), ((k + c : Nat) : Int) = gI S 74 1 → RefQ S cls → HdB (gI S 74) → MetsR (gI S 74) → FitR (CbE cls (gI S 74)) k r → ∃ (S' : zS) (r' : Int32), z_ev X d (254, 4, [some (.ref 72), some (.int r), some (.int (Int32.ofInt (k : Int)))], [], mk S) = some (some (.int r'), mk S') ∧ FrQm S S' ∧ FitR (CbE cls (gI S 74)) (gI S 74 1).toNat r' := by
  intro c
  induction c with
  | zero =>
    intro k S r hc hQ hB hM hF
    have b := hQ.2.1
    have e : (gI S 74 1).toNat = k := by omega
    refine ⟨S, r, ?_, FrQm.rf, by rw [e]; exact hF⟩
    rw [B254_4]
    simp (disch := first | omega | assumption | exact b01_rng _ | exact st_5 | exact st_12 | exact st_19 | (simp only [isSt_sI, isSt_sJ, isSt_sF, isSt_sG, isSt_sA]; assumption)) only [↓B254_38, ↓a_74, ↓n_74, ↓o_72, ↓r_72_3, ↓s_74, i_lit, i_add, i_sub, i_mul, i_neg, i_lt, i_le, i_eq, i32_gI, i64_gJ, i32_id, i32_to, i64_to, sI_i32, sJ_i64, b01_t, b01_f, i32_b01, b01_0, ↓a_s0, ↓n_s0, ↓a_s1, ↓n_s1, Int.add_zero, t_lt, f_lt, t_le, f_le, t_eq, f_eq, true_and, and_true, false_and, and_false, and_self, ↓reduceIte, z_bool_of, or_true, true_or, or_false, false_or, Int.neg_neg, not_true_eq_false, not_false_eq_true, lg_lt, lg_le, lg_gt, lg_ge, lg_eq, j_lit, j_add, j_sub, j_mul, j_neg, j_eq, i64_id, ij, ji, z_rt, Nat.reduceEqDiff, Nat.reduceAdd, Int.reduceAdd, Int.reduceSub, Int.reduceMul, Int.reduceNeg, Int.reduceLT, Int.reduceLE, Int.reduceEq]
  | succ c ih =>
    intro k S r hc hQ hB hM hF
    have b := hQ.2.1
    obtain ⟨x, hx⟩ := hM (k : Int) (by omega) (by omega)
    obtain ⟨S1, v, w1, w2, w3⟩ := x253 (X := X) (d := 10) (cls := cls) (by omega) (S := S) hQ hB (m := (k : Int)) (by omega) hx
    have ht := TkE.of (E := LnK (gI S 74 2) cls (gI S 74)) hx
    have ev := fun {cm cp : Nat} {L : zL} {st : List Value} => evI (X := X) (d := d) hd w1 (cm := cm) (cp := cp) (L := L) (st := st)
    have g1 := w2.g
    have next : ∀ r1 : Int32, FitR (CbE cls (gI S 74)) (k + 1) r1 → z_ev X d (254, 4, [some (.ref 72), some (.int r), some (.int (Int32.ofInt (k : Int)))], [], mk S) = z_ev X d (254, 4, [some (.ref 72), some (.int r1), some (.int (Int32.ofInt ((k : Int) + 1)))], [], mk S1) → ∃ (S' : zS) (r' : Int32), z_ev X d (254, 4, [some (.ref 72), some (.int r), some (.int (Int32.ofInt (k : Int)))], [], mk S) = some (some (.int r'), mk S') ∧ FrQm S S' ∧ FitR (CbE cls (gI S 74)) (gI S 74 1).toNat r' := fun r1 h1 h2 => by
      obtain ⟨S', r', u1, u2, u3⟩ := ih (k + 1) S1 r1 (by rw [g1]; omega) (hQ.fr w2) (by rw [g1]; exact hB) (by rw [g1]; exact hM) (by rw [g1]; exact h1)
      rw [g1] at u3
      refine ⟨S', r', ?_, w2.tr u2, u3⟩
      rw [h2, ← u1, show ((k + 1 : Nat) : Int) = (k : Int) + 1 by omega]
    rcases w3 with ⟨rfl, v1, v2⟩ | ⟨rfl, v1⟩
    · refine next (r ||| (Int32.ofInt 1 <<< (Int32.ofInt (k : Int) &&& Int32.ofInt 31))) ⟨r, hF, Or.inl ⟨⟨v1, ht.mpr v2⟩, rfl⟩⟩ ?_
      rw [B254_4]
      simp (disch := first | omega | assumption | exact b01_rng _ | exact st_5 | exact st_12 | exact st_19 | (simp only [isSt_sI, isSt_sJ, isSt_sF, isSt_sG, isSt_sA]; assumption)) only [↓B254_14, ↓B254_20, ↓B254_23, ↓B254_30, ↓a_74, ↓n_74, ↓o_72, ↓r_72_3, ↓s_74, ↓o_72, ev, i_lit, i_add, i_sub, i_mul, i_neg, i_lt, i_le, i_eq, i32_gI, i64_gJ, i32_id, i32_to, i64_to, sI_i32, sJ_i64, b01_t, b01_f, i32_b01, b01_0, ↓a_s0, ↓n_s0, ↓a_s1, ↓n_s1, Int.add_zero, t_lt, f_lt, t_le, f_le, t_eq, f_eq, true_and, and_true, false_and, and_false, and_self, ↓reduceIte, z_bool_of, or_true, true_or, or_false, false_or, Int.neg_neg, not_true_eq_false, not_false_eq_true, lg_lt, lg_le, lg_gt, lg_ge, lg_eq, j_lit, j_add, j_sub, j_mul, j_neg, j_eq, i64_id, ij, ji, z_rt, Nat.reduceEqDiff, Nat.reduceAdd, Int.reduceAdd, Int.reduceSub, Int.reduceMul, Int.reduceNeg, Int.reduceLT, Int.reduceLE, Int.reduceEq]
    · refine next r ⟨r, hF, Or.inr ⟨fun z => v1 ⟨z.1, ht.mp z.2⟩, rfl⟩⟩ ?_
      rw [B254_4]
      simp (disch := first | omega | assumption | exact b01_rng _ | exact st_5 | exact st_12 | exact st_19 | (simp only [isSt_sI, isSt_sJ, isSt_sF, isSt_sG, isSt_sA]; assumption)) only [↓B254_14, ↓B254_20, ↓B254_29, ↓B254_30, ↓a_74, ↓n_74, ↓o_72, ↓r_72_3, ↓s_74, ↓o_72, ev, i_lit, i_add, i_sub, i_mul, i_neg, i_lt, i_le, i_eq, i32_gI, i64_gJ, i32_id, i32_to, i64_to, sI_i32, sJ_i64, b01_t, b01_f, i32_b01, b01_0, ↓a_s0, ↓n_s0, ↓a_s1, ↓n_s1, Int.add_zero, t_lt, f_lt, t_le, f_le, t_eq, f_eq, true_and, and_true, false_and, and_false, and_self, ↓reduceIte, z_bool_of, or_true, true_or, or_false, false_or, Int.neg_neg, not_true_eq_false, not_false_eq_true, lg_lt, lg_le, lg_gt, lg_ge, lg_eq, j_lit, j_add, j_sub, j_mul, j_neg, j_eq, i64_id, ij, ji, z_rt, Nat.reduceEqDiff, Nat.reduceAdd, Int.reduceAdd, Int.reduceSub, Int.reduceMul, Int.reduceNeg, Int.reduceLT, Int.reduceLE, Int.reduceEq, or_0]
theorem x254 (hd : 10 < d) {S : zS} (hQ : RefQ S cls) (hB : HdB (gI S 74)) (hM : MetsR (gI S 74)) : ∃ (S' : zS) (r' : Int32), z_ev X d (z_entry 254 [.ref 72] (mk S)) = some (some (.int r'), mk S') ∧ FrQm S S' ∧ FitR (CbE cls (gI S 74)) (gI S 74 1).toNat r' := by
  have b := hQ.2.1
  obtain ⟨S', r', w1, w2, w3⟩ := l254 (X := X) (d := d) hd (cls := cls) (gI S 74 1).toNat 0 S (Int32.ofInt 0) (by omega) hQ hB hM rfl
  refine ⟨S', r', ?_, w2, w3⟩
  rw [← w1]
  show z_ev X d (254, 0, [some (.ref 72), none, none], [], mk S) = _
  simp (disch := first | omega | assumption | exact b01_rng _ | exact st_5 | exact st_12 | exact st_19 | (simp only [isSt_sI, isSt_sJ, isSt_sF, isSt_sG, isSt_sA]; assumption)) only [↓B254_0, i_lit, i_add, i_sub, i_mul, i_neg, i_lt, i_le, i_eq, i32_gI, i64_gJ, i32_id, i32_to, i64_to, sI_i32, sJ_i64, b01_t, b01_f, i32_b01, b01_0, ↓a_s0, ↓n_s0, ↓a_s1, ↓n_s1, Int.add_zero, t_lt, f_lt, t_le, f_le, t_eq, f_eq, true_and, and_true, false_and, and_false, and_self, ↓reduceIte, z_bool_of, or_true, true_or, or_false, false_or, Int.neg_neg, not_true_eq_false, not_false_eq_true, lg_lt, lg_le, lg_gt, lg_ge, lg_eq, j_lit, j_add, j_sub, j_mul, j_neg, j_eq, i64_id, ij, ji, z_rt, Nat.reduceEqDiff, Nat.reduceAdd, Int.reduceAdd, Int.reduceSub, Int.reduceMul, Int.reduceNeg, Int.reduceLT, Int.reduceLE, Int.reduceEq]
  rfl
end
