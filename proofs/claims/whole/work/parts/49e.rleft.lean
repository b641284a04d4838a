/-! the reference: leftFrom, layLeft -/
section
variable {E : Ln} {f : Int → Int → Int} {M : Int} {U : Au}
/-- what is left from a step on, up to those that follow it below o -/
def DLt (E : Ln) (U : Au) (s t o : Int) (vs : List Int) : Prop := ((U.2.1 t ∧ s = E.1 ∧ vs = []) ∨ eli E (Rd E (gL U t)) s vs) ∨ ∃ q, q < o ∧ U.1 t q ∧ stp1 E (U.2.2 q) (Rd E (gL U q)) s vs
theorem DLt.all {n s t : Int} (h : ∀ q, U.1 t q → q ≤ n) (vs : List Int) : DLt E U s t (n + 1) vs ↔ Rd E (gL U t) s vs := by
  rw [Rd_gk]
  unfold DLt
  constructor
  · rintro ((w | w) | ⟨q, -, w1, w2⟩)
    · exact Or.inl w
    · exact Or.inr (Or.inr w)
    · exact Or.inr (Or.inl ⟨q, w1, w2⟩)
  · rintro (w | ⟨q, w1, w2⟩ | w)
    · exact Or.inl (Or.inl w)
    · exact Or.inr ⟨q, by have := h q w1; omega, w1, w2⟩
    · exact Or.inl (Or.inr w)
/-- one step on -/
theorem mn_ste {far : Int} (hB : PrB E f M far) {A : Lg} {s x c1 c0 l l' : Int} (hs : 0 ≤ s) (hx : 0 ≤ x ∧ x ≤ 3) (h1 : Pri E f far s 1 c1) (h0 : Pri E f far s 0 c0) (hl : 0 ≤ l) (ha : s < E.1 → Mn far (Rd E A (s + 1)) (ct f (s + 1)) l) (hb : E.2.1 s → Mn far (Rd E A s) (ct f s) l') (hn : ¬ E.2.1 s → far ≤ l') : Mn far (stp1 E x (Rd E A) s) (ct f s) (if x = 3 then l' else (if x = 0 then c1 else if x = 1 then c0 else min c1 c0) + l) := by
  rcases (show x = 0 ∨ x = 1 ∨ x = 2 ∨ x = 3 by omega) with rfl | rfl | rfl | rfl
  · rw [if_neg (by omega), if_pos rfl]
    exact (Mn.way hB hs h1 hl ha).cg (fun vs => stp1_0)
  · rw [if_neg (by omega), if_neg (by omega), if_pos rfl]
    exact (Mn.way hB hs h0 hl ha).cg (fun vs => stp1_1)
  · rw [if_neg (by omega), if_neg (by omega), if_neg (by omega)]
    have := ((Mn.way hB hs h1 hl ha).or (Mn.way hB hs h0 hl ha)).cg (fun vs => stp1_2)
    rw [show min c1 c0 + l = min (c1 + l) (c0 + l) by omega]
    exact this
  · rw [if_pos rfl]
    by_cases q : E.2.1 s
    · exact (hb q).cg (fun vs => by rw [stp1_3]; exact ⟨fun w => w.2, fun w => ⟨q, w⟩⟩)
    · exact Mn.no (hn q) (fun vs w => q (stp1_3.mp w).1)
end
/-- what is left, as it lies there: of all places behind s, and there of steps behind t -/
def LfR (S : zS) (E : Ln) (f : Int → Int → Int) (n s t : Int) : Prop := ∀ s' t' : Int, 0 ≤ t' → t' ≤ n → s' ≤ E.1 → (s < s' ∨ (s' = s ∧ t < t')) → (0 ≤ gI S 104 (201 * s' + t') ∧ gI S 104 (201 * s' + t') ≤ 100000000) ∧ Mn 100000000 (Rd E (gL (UA S n) t') s') (ct f s') (gI S 104 (201 * s' + t'))
def PrS (S : zS) (E : Ln) (f : Int → Int → Int) : Prop := ∀ p v : Int, 0 ≤ p → p < E.1 → 0 ≤ v → v ≤ 2 → Pri E f 100000000 p v (gI S 103 (3 * p + v)) ∧ gI S 103 (3 * p + v) ≤ 100000000
def CuR (S : zS) (E : Ln) : Prop := ∀ s : Int, 0 ≤ s → s ≤ E.1 → (E.2.1 s ↔ (s = 0 ∨ gI S 74 (28 + (s - 1)) = 1))
section
variable {X : zX} {d : Nat} {E : Ln} {f : Int → Int → Int} {M : Int}
abbrev L226 (s t n its : Int) (x5 x6 : Option Value) : zL := [some (.ref 72), some (.int (Int32.ofInt s)), some (.int (Int32.ofInt t)), some (.int (Int32.ofInt n)), some (.int (Int32.ofInt its)), x5, x6]
/-- one step that may follow -/
theorem t226 (hd : 0 < d) (hB : PrB E f M 100000000) (hn : 0 ≤ E.1 ∧ E.1 ≤ 20) {S : zS} {n s t o its : Int} (h51 : gI S 72 51 = n) (hn2 : 1 ≤ n ∧ n ≤ 200) (hb : B01 S n) (hfo : FolB S n) (hP : PrS S E f) (hC : CuR S E) (hs : 0 ≤ s ∧ s ≤ E.1) (ht : 0 ≤ t) (ho : t < o ∧ o ≤ n) (hL : LfR S E f n s t) (hi : 0 ≤ its ∧ its ≤ 100000000) (hM : Mn 100000000 (DLt E (UA S n) s t o) (ct f s) its) {x6 : Option Value} : ∃ (its' : Int) (y6 : Option Value), z_ev X d (226, 82, L226 s t E.1 its (vI o) x6, [], mk S) = z_ev X d (226, 82, L226 s t E.1 its' (vI (o + 1)) y6, [], mk S) ∧ (0 ≤ its' ∧ its' ≤ 100000000) ∧ Mn 100000000 (DLt E (UA S n) s t (o + 1)) (ct f s) its' := by
  obtain ⟨b1, b2, b3, b4⟩ := hb o (by omega) ho.2
  have ff := hfo t o ht ho.1 ho.2
  have dl : ∀ vs, DLt E (UA S n) s t (o + 1) vs ↔ DLt E (UA S n) s t o vs ∨ ((UA S n).1 t o ∧ stp1 E (gI S 99 o) (Rd E (gL (UA S n) o)) s vs) := fun vs => by
    unfold DLt
    constructor
    · rintro (w | ⟨q, w1, w2, w3⟩)
      · exact Or.inl (Or.inl w)
      · by_cases e : q = o
        · subst e; exact Or.inr ⟨w2, w3⟩
        · exact Or.inl (Or.inr ⟨q, by omega, w2, w3⟩)
    · rintro ((w | ⟨q, w1, w2, w3⟩) | ⟨w2, w3⟩)
      · exact Or.inl w
      · exact Or.inr ⟨q, by omega, w2, w3⟩
      · exact Or.inr ⟨o, by omega, w2, w3⟩
  by_cases q : gI S 100 (201 * t + o) = 1
  · have hU : (UA S n).1 t o := ⟨⟨ht, ho.1, ho.2⟩, q⟩
    obtain ⟨v, hv, hvr⟩ : ∃ v : Int, v = (if gI S 99 o = 3 then (if s = 0 ∨ gI S 74 (28 + (s - 1)) = 1 then gI S 104 (201 * s + o) else 100000000) else if s < E.1 then spR S s (gI S 99 o) + gI S 104 (201 * (s + 1) + o) else 100000000) ∧ True := ⟨_, rfl, trivial⟩
    have hLo := hL s o (by omega) ho.2 hs.2 (Or.inr ⟨rfl, ho.1⟩)
    have hLn : s < E.1 → _ := fun w => hL (s + 1) o (by omega) ho.2 (by omega) (Or.inl (by omega))
    have hc := hC s hs.1 hs.2
    have hPs : ∀ u : Int, 0 ≤ u → u ≤ 2 → s < E.1 → _ := fun u u1 u2 w => hP s u hs.1 w u1 u2
    have hmv : Mn 100000000 (fun vs => (UA S n).1 t o ∧ stp1 E (gI S 99 o) (Rd E (gL (UA S n) o)) s vs) (ct f s) v ∧ 0 ≤ v ∧ v ≤ 200000000 := by
      by_cases w : s < E.1
      · obtain ⟨l1, l2⟩ := hLn w
        obtain ⟨p1, p1'⟩ := hPs 1 (by omega) (by omega) w
        obtain ⟨p0, p0'⟩ := hPs 0 (by omega) (by omega) w
        rw [Int.add_zero] at p0 p0'
        have := mn_ste (A := gL (UA S n) o) (x := gI S 99 o) (l' := if s = 0 ∨ gI S 74 (28 + (s - 1)) = 1 then gI S 104 (201 * s + o) else 100000000) hB hs.1 ⟨b3, b4⟩ p1 p0 l1.1 (fun _ => l2) (fun u => by rw [if_pos (hc.mp u)]; exact hLo.2) (fun u => by rw [if_neg (fun z => u (hc.mpr z))]; exact Int.le_refl _)
        have p1b := p1.1
        have p0b := p0.1
        refine ⟨?_, ?_⟩
        · rw [hv, if_pos w]
          exact this.cg (fun vs => ⟨fun z => z.2, fun z => ⟨hU, z⟩⟩)
        · rw [hv, if_pos w]
          unfold spR
          split
          · split
            · omega
            · omega
          split
          · omega
          split
          · omega
          · omega
      · by_cases w3 : gI S 99 o = 3
        · rw [hv, if_pos w3]
          refine ⟨?_, by split <;> omega⟩
          rw [w3]
          by_cases u : E.2.1 s
          · rw [if_pos (hc.mp u)]
            exact hLo.2.cg (fun vs => by rw [stp1_3]; exact ⟨fun z => z.2.2, fun z => ⟨hU, u, z⟩⟩)
          · rw [if_neg (fun z => u (hc.mpr z))]
            exact Mn.no (Int.le_refl _) (fun vs z => u (stp1_3.mp z.2).1)
        · rw [hv, if_neg w3, if_neg w]
          refine ⟨Mn.no (Int.le_refl _) (fun vs z => ?_), by omega⟩
          rcases z.2 with ⟨z1, -⟩ | ⟨-, u, us, -, z1, -⟩
          · exact w3 z1
          · exact w z1
    obtain ⟨hmv, hvb⟩ := hmv
    have hq0 : ¬ gI S 100 (201 * t + o) = 0 := by omega
    -- how v is reckoned
    have reck : z_ev X d (226, 82, L226 s t E.1 its (vI o) x6, [], mk S) = z_ev X d (226, 190, L226 s t E.1 its (vI o) (vI v), [], mk S) := by
      have hl1 : 0 ≤ gI S 104 (201 * s + o) ∧ gI S 104 (201 * s + o) ≤ 100000000 := hLo.1
      by_cases w3 : gI S 99 o = 3
      · by_cases u : s = 0 ∨ gI S 74 (28 + (s - 1)) = 1
        · have hb1 : b01 (s = 0 ∨ gI S 74 (28 + (s - 1)) = 1) = 1 := if_pos u
          rw [hv, if_pos w3, if_pos u, B226_82]
          simp (disch := first | omega | assumption | exact b01_rng _ | exact st_5 | exact st_12 | exact st_19 | (simp only [isSt_sI, isSt_sJ, isSt_sF, isSt_sG, isSt_sA]; assumption)) only [↓B226_91, ↓B226_107, ↓B226_123, ↓B226_128, ↓B226_131, ↓B226_150, ↓a_100, ↓a_103, ↓a_104, ↓a_74, ↓a_99, ↓n_100, ↓n_103, ↓n_104, ↓n_74, ↓n_99, ↓o_72, ↓r_72_3, ↓r_72_50, ↓r_72_51, ↓r_72_52, ↓r_72_55, ↓r_72_56, ↓s_100, ↓s_103, ↓s_104, ↓s_74, ↓s_99, ↓o_72, c225, i_lit, i_add, i_sub, i_mul, i_neg, i_lt, i_le, i_eq, i32_gI, i64_gJ, i32_id, i32_to, i64_to, sI_i32, sJ_i64, b01_t, b01_f, i32_b01, b01_0, ↓a_s0, ↓n_s0, ↓a_s1, ↓n_s1, Int.add_zero, t_lt, f_lt, t_le, f_le, t_eq, f_eq, true_and, and_true, false_and, and_false, and_self, ↓reduceIte, z_bool_of, or_true, true_or, or_false, false_or, Int.neg_neg, not_true_eq_false, not_false_eq_true, lg_lt, lg_le, lg_gt, lg_ge, lg_eq, j_lit, j_add, j_sub, j_mul, j_neg, j_eq, i64_id, ij, ji, z_rt, Nat.reduceEqDiff, Nat.reduceAdd, Int.reduceAdd, Int.reduceSub, Int.reduceMul, Int.reduceNeg, Int.reduceLT, Int.reduceLE, Int.reduceEq, h51, q, w3, hb1]
        · have hb1 : b01 (s = 0 ∨ gI S 74 (28 + (s - 1)) = 1) = 0 := if_neg u
          rw [hv, if_pos w3, if_neg u, B226_82]
          simp (disch := first | omega | assumption | exact b01_rng _ | exact st_5 | exact st_12 | exact st_19 | (simp only [isSt_sI, isSt_sJ, isSt_sF, isSt_sG, isSt_sA]; assumption)) only [↓B226_91, ↓B226_107, ↓B226_123, ↓B226_128, ↓B226_147, ↓B226_150, ↓a_100, ↓a_103, ↓a_104, ↓a_74, ↓a_99, ↓n_100, ↓n_103, ↓n_104, ↓n_74, ↓n_99, ↓o_72, ↓r_72_3, ↓r_72_50, ↓r_72_51, ↓r_72_52, ↓r_72_55, ↓r_72_56, ↓s_100, ↓s_103, ↓s_104, ↓s_74, ↓s_99, ↓o_72, c225, i_lit, i_add, i_sub, i_mul, i_neg, i_lt, i_le, i_eq, i32_gI, i64_gJ, i32_id, i32_to, i64_to, sI_i32, sJ_i64, b01_t, b01_f, i32_b01, b01_0, ↓a_s0, ↓n_s0, ↓a_s1, ↓n_s1, Int.add_zero, t_lt, f_lt, t_le, f_le, t_eq, f_eq, true_and, and_true, false_and, and_false, and_self, ↓reduceIte, z_bool_of, or_true, true_or, or_false, false_or, Int.neg_neg, not_true_eq_false, not_false_eq_true, lg_lt, lg_le, lg_gt, lg_ge, lg_eq, j_lit, j_add, j_sub, j_mul, j_neg, j_eq, i64_id, ij, ji, z_rt, Nat.reduceEqDiff, Nat.reduceAdd, Int.reduceAdd, Int.reduceSub, Int.reduceMul, Int.reduceNeg, Int.reduceLT, Int.reduceLE, Int.reduceEq, h51, q, w3, hb1]
      · by_cases w : s < E.1
        · have l1 := (hLn w).1
          rw [hv, if_neg w3, if_pos w, B226_82]
          simp (disch := first | omega | assumption | exact b01_rng _ | exact st_5 | exact st_12 | exact st_19 | (simp only [isSt_sI, isSt_sJ, isSt_sF, isSt_sG, isSt_sA]; assumption)) only [↓B226_91, ↓B226_107, ↓B226_155, ↓B226_160, ↓B226_172, ↓a_100, ↓a_103, ↓a_104, ↓a_74, ↓a_99, ↓n_100, ↓n_103, ↓n_104, ↓n_74, ↓n_99, ↓o_72, ↓r_72_3, ↓r_72_50, ↓r_72_51, ↓r_72_52, ↓r_72_55, ↓r_72_56, ↓s_100, ↓s_103, ↓s_104, ↓s_74, ↓s_99, ↓o_72, c224, i_lit, i_add, i_sub, i_mul, i_neg, i_lt, i_le, i_eq, i32_gI, i64_gJ, i32_id, i32_to, i64_to, sI_i32, sJ_i64, b01_t, b01_f, i32_b01, b01_0, ↓a_s0, ↓n_s0, ↓a_s1, ↓n_s1, Int.add_zero, t_lt, f_lt, t_le, f_le, t_eq, f_eq, true_and, and_true, false_and, and_false, and_self, ↓reduceIte, z_bool_of, or_true, true_or, or_false, false_or, Int.neg_neg, not_true_eq_false, not_false_eq_true, lg_lt, lg_le, lg_gt, lg_ge, lg_eq, j_lit, j_add, j_sub, j_mul, j_neg, j_eq, i64_id, ij, ji, z_rt, Nat.reduceEqDiff, Nat.reduceAdd, Int.reduceAdd, Int.reduceSub, Int.reduceMul, Int.reduceNeg, Int.reduceLT, Int.reduceLE, Int.reduceEq, h51, q, w3]
        · rw [hv, if_neg w3, if_neg w, B226_82]
          simp (disch := first | omega | assumption | exact b01_rng _ | exact st_5 | exact st_12 | exact st_19 | (simp only [isSt_sI, isSt_sJ, isSt_sF, isSt_sG, isSt_sA]; assumption)) only [↓B226_91, ↓B226_107, ↓B226_155, ↓a_100, ↓a_103, ↓a_104, ↓a_74, ↓a_99, ↓n_100, ↓n_103, ↓n_104, ↓n_74, ↓n_99, ↓o_72, ↓r_72_3, ↓r_72_50, ↓r_72_51, ↓r_72_52, ↓r_72_55, ↓r_72_56, ↓s_100, ↓s_103, ↓s_104, ↓s_74, ↓s_99, i_lit, i_add, i_sub, i_mul, i_neg, i_lt, i_le, i_eq, i32_gI, i64_gJ, i32_id, i32_to, i64_to, sI_i32, sJ_i64, b01_t, b01_f, i32_b01, b01_0, ↓a_s0, ↓n_s0, ↓a_s1, ↓n_s1, Int.add_zero, t_lt, f_lt, t_le, f_le, t_eq, f_eq, true_and, and_true, false_and, and_false, and_self, ↓reduceIte, z_bool_of, or_true, true_or, or_false, false_or, Int.neg_neg, not_true_eq_false, not_false_eq_true, lg_lt, lg_le, lg_gt, lg_ge, lg_eq, j_lit, j_add, j_sub, j_mul, j_neg, j_eq, i64_id, ij, ji, z_rt, Nat.reduceEqDiff, Nat.reduceAdd, Int.reduceAdd, Int.reduceSub, Int.reduceMul, Int.reduceNeg, Int.reduceLT, Int.reduceLE, Int.reduceEq, h51, q, w3]
    refine ⟨min its v, vI v, ?_, by omega, (hM.or hmv).cg dl⟩
    rw [reck]
    by_cases w : its ≤ v
    · rw [show min its v = its by omega]
      simp (disch := first | omega | assumption | exact b01_rng _ | exact st_5 | exact st_12 | exact st_19 | (simp only [isSt_sI, isSt_sJ, isSt_sF, isSt_sG, isSt_sA]; assumption)) only [↓B226_190, ↓B226_202, ↓B226_204, ↓B226_206, i_lit, i_add, i_sub, i_mul, i_neg, i_lt, i_le, i_eq, i32_gI, i64_gJ, i32_id, i32_to, i64_to, sI_i32, sJ_i64, b01_t, b01_f, i32_b01, b01_0, ↓a_s0, ↓n_s0, ↓a_s1, ↓n_s1, Int.add_zero, t_lt, f_lt, t_le, f_le, t_eq, f_eq, true_and, and_true, false_and, and_false, and_self, ↓reduceIte, z_bool_of, or_true, true_or, or_false, false_or, Int.neg_neg, not_true_eq_false, not_false_eq_true, lg_lt, lg_le, lg_gt, lg_ge, lg_eq, j_lit, j_add, j_sub, j_mul, j_neg, j_eq, i64_id, ij, ji, z_rt, Nat.reduceEqDiff, Nat.reduceAdd, Int.reduceAdd, Int.reduceSub, Int.reduceMul, Int.reduceNeg, Int.reduceLT, Int.reduceLE, Int.reduceEq]
    · rw [show min its v = v by omega]
      simp (disch := first | omega | assumption | exact b01_rng _ | exact st_5 | exact st_12 | exact st_19 | (simp only [isSt_sI, isSt_sJ, isSt_sF, isSt_sG, isSt_sA]; assumption)) only [↓B226_190, ↓B226_197, ↓B226_204, ↓B226_206, i_lit, i_add, i_sub, i_mul, i_neg, i_lt, i_le, i_eq, i32_gI, i64_gJ, i32_id, i32_to, i64_to, sI_i32, sJ_i64, b01_t, b01_f, i32_b01, b01_0, ↓a_s0, ↓n_s0, ↓a_s1, ↓n_s1, Int.add_zero, t_lt, f_lt, t_le, f_le, t_eq, f_eq, true_and, and_true, false_and, and_false, and_self, ↓reduceIte, z_bool_of, or_true, true_or, or_false, false_or, Int.neg_neg, not_true_eq_false, not_false_eq_true, lg_lt, lg_le, lg_gt, lg_ge, lg_eq, j_lit, j_add, j_sub, j_mul, j_neg, j_eq, i64_id, ij, ji, z_rt, Nat.reduceEqDiff, Nat.reduceAdd, Int.reduceAdd, Int.reduceSub, Int.reduceMul, Int.reduceNeg, Int.reduceLT, Int.reduceLE, Int.reduceEq]
  · have q0 : gI S 100 (201 * t + o) = 0 := by omega
    refine ⟨its, x6, ?_, hi, hM.cg (fun vs => ?_)⟩
    · rw [B226_82]
      simp (disch := first | omega | assumption | exact b01_rng _ | exact st_5 | exact st_12 | exact st_19 | (simp only [isSt_sI, isSt_sJ, isSt_sF, isSt_sG, isSt_sA]; assumption)) only [↓B226_91, ↓B226_206, ↓a_100, ↓a_103, ↓a_104, ↓a_74, ↓a_99, ↓n_100, ↓n_103, ↓n_104, ↓n_74, ↓n_99, ↓o_72, ↓r_72_3, ↓r_72_50, ↓r_72_51, ↓r_72_52, ↓r_72_55, ↓r_72_56, ↓s_100, ↓s_103, ↓s_104, ↓s_74, ↓s_99, i_lit, i_add, i_sub, i_mul, i_neg, i_lt, i_le, i_eq, i32_gI, i64_gJ, i32_id, i32_to, i64_to, sI_i32, sJ_i64, b01_t, b01_f, i32_b01, b01_0, ↓a_s0, ↓n_s0, ↓a_s1, ↓n_s1, Int.add_zero, t_lt, f_lt, t_le, f_le, t_eq, f_eq, true_and, and_true, false_and, and_false, and_self, ↓reduceIte, z_bool_of, or_true, true_or, or_false, false_or, Int.neg_neg, not_true_eq_false, not_false_eq_true, lg_lt, lg_le, lg_gt, lg_ge, lg_eq, j_lit, j_add, j_sub, j_mul, j_neg, j_eq, i64_id, ij, ji, z_rt, Nat.reduceEqDiff, Nat.reduceAdd, Int.reduceAdd, Int.reduceSub, Int.reduceMul, Int.reduceNeg, Int.reduceLT, Int.reduceLE, Int.reduceEq, h51, q0]
    · rw [dl vs]
      constructor
      · rintro (w | ⟨w, -⟩)
        · exact w
        · exact absurd w.2 q
      · intro w; exact Or.inl w
theorem l226 (hd : 0 < d) (hB : PrB E f M 100000000) (hn : 0 ≤ E.1 ∧ E.1 ≤ 20) {S : zS} {n s t : Int} (h51 : gI S 72 51 = n) (hn2 : 1 ≤ n ∧ n ≤ 200) (hb : B01 S n) (hfo : FolB S n) (hP : PrS S E f) (hC : CuR S E) (hs : 0 ≤ s ∧ s ≤ E.1) (ht : 0 ≤ t) (hL : LfR S E f n s t) : ∀ (c : Nat) (o its : Int) (x6 : Option Value), o + c = n + 1 → t < o → (0 ≤ its ∧ its ≤ 100000000) → Mn 100000000 (DLt E (UA S n) s t o) (ct f s) its → ∃ its' : Int, z_ev X d (226, 82, L226 s t E.1 its (vI o) x6, [], mk S) = some (vI its', mk S) ∧ (0 ≤ its' ∧ its' ≤ 100000000) ∧ Mn 100000000 (Rd E (gL (UA S n) t) s) (ct f s) its' := by
  intro c
  induction c with
  | zero =>
    intro o its x6 hc ho hi hM
    have : o = n + 1 := by omega
    subst this
    refine ⟨its, ?_, hi, hM.cg (fun vs => (DLt.all (E := E) (U := UA S n) (n := n) (s := s) (t := t) (fun q hq => hq.1.2.2) vs).symm)⟩
    rw [B226_82]
    simp (disch := first | omega | assumption | exact b01_rng _ | exact st_5 | exact st_12 | exact st_19 | (simp only [isSt_sI, isSt_sJ, isSt_sF, isSt_sG, isSt_sA]; assumption)) only [↓B226_212, ↓a_100, ↓a_103, ↓a_104, ↓a_74, ↓a_99, ↓n_100, ↓n_103, ↓n_104, ↓n_74, ↓n_99, ↓o_72, ↓r_72_3, ↓r_72_50, ↓r_72_51, ↓r_72_52, ↓r_72_55, ↓r_72_56, ↓s_100, ↓s_103, ↓s_104, ↓s_74, ↓s_99, i_lit, i_add, i_sub, i_mul, i_neg, i_lt, i_le, i_eq, i32_gI, i64_gJ, i32_id, i32_to, i64_to, sI_i32, sJ_i64, b01_t, b01_f, i32_b01, b01_0, ↓a_s0, ↓n_s0, ↓a_s1, ↓n_s1, Int.add_zero, t_lt, f_lt, t_le, f_le, t_eq, f_eq, true_and, and_true, false_and, and_false, and_self, ↓reduceIte, z_bool_of, or_true, true_or, or_false, false_or, Int.neg_neg, not_true_eq_false, not_false_eq_true, lg_lt, lg_le, lg_gt, lg_ge, lg_eq, j_lit, j_add, j_sub, j_mul, j_neg, j_eq, i64_id, ij, ji, z_rt, Nat.reduceEqDiff, Nat.reduceAdd, Int.reduceAdd, Int.reduceSub, Int.reduceMul, Int.reduceNeg, Int.reduceLT, Int.reduceLE, Int.reduceEq, h51]
  | succ c ih =>
    intro o its x6 hc ho hi hM
    obtain ⟨its1, y6, e1, e2, e3⟩ := t226 (X := X) (d := d) hd hB hn h51 hn2 hb hfo hP hC hs ht ⟨ho, by omega⟩ hL hi hM (x6 := x6)
    obtain ⟨its', w1, w2⟩ := ih (o + 1) its1 y6 (by omega) (by omega) e2 e3
    exact ⟨its', by rw [e1]; exact w1, w2⟩
theorem x226 (hd : 0 < d) (hB : PrB E f M 100000000) (hn : 0 ≤ E.1 ∧ E.1 ≤ 20) {S : zS} {n s t : Int} (h0 : gI S 74 0 = E.1) (h51 : gI S 72 51 = n) (hn2 : 1 ≤ n ∧ n ≤ 200) (hb : B01 S n) (hfo : FolB S n) (hP : PrS S E f) (hC : CuR S E) (hs : 0 ≤ s ∧ s ≤ E.1) (ht : 0 ≤ t ∧ t ≤ n) (hL : LfR S E f n s t) : ∃ its' : Int, z_ev X d (z_entry 226 [.ref 72, .int (Int32.ofInt s), .int (Int32.ofInt t)] (mk S)) = some (vI its', mk S) ∧ (0 ≤ its' ∧ its' ≤ 100000000) ∧ Mn 100000000 (Rd E (gL (UA S n) t) s) (ct f s) its' := by
  have hov : 0 < t → gI S 102 t = 0 ∨ gI S 102 t = 1 := fun w => (hb t (by omega) ht.2).2.1
  have c2 := hP s 2 hs.1
  -- at its end, with nothing read
  obtain ⟨i0, hi0⟩ : ∃ i0 : Int, i0 = if s = E.1 ∧ (0 < t ∧ gI S 102 t = 1) then 0 else 100000000 := ⟨_, rfl⟩
  have m0 : Mn 100000000 (fun vs => (UA S n).2.1 t ∧ s = E.1 ∧ vs = []) (ct f s) i0 := by
    rw [hi0]
    by_cases q : s = E.1 ∧ (0 < t ∧ gI S 102 t = 1)
    · rw [if_pos q]
      exact Or.inr ⟨by omega, ⟨[], ⟨q.2, q.1, rfl⟩, rfl⟩, fun us hu => by rw [hu.2.2]; exact Int.le_refl _⟩
    · rw [if_neg q]
      exact Mn.no (Int.le_refl _) (fun vs w => q ⟨w.2.1, w.1⟩)
  obtain ⟨i1, hi1⟩ : ∃ i1 : Int, i1 = if s < E.1 then min i0 (gI S 103 (3 * s + 2) + gI S 104 (201 * (s + 1) + t)) else i0 := ⟨_, rfl⟩
  have ib : 0 ≤ i0 ∧ i0 ≤ 100000000 := by rw [hi0]; split <;> omega
  have m1 : (0 ≤ i1 ∧ i1 ≤ 100000000) ∧ Mn 100000000 (DLt E (UA S n) s t (t + 1)) (ct f s) i1 := by
    have nof : ∀ vs, DLt E (UA S n) s t (t + 1) vs ↔ (((UA S n).2.1 t ∧ s = E.1 ∧ vs = []) ∨ eli E (Rd E (gL (UA S n) t)) s vs) := fun vs => by
      unfold DLt
      constructor
      · rintro (w | ⟨q, w1, w2, -⟩)
        · exact w
        · have := w2.1; omega
      · intro w; exact Or.inl w
    rw [hi1]
    by_cases w : s < E.1
    · rw [if_pos w]
      obtain ⟨p2, p2'⟩ := c2 w (by omega) (by omega)
      have p2b := p2.1
      obtain ⟨l1, l2⟩ := hL (s + 1) t ht.1 ht.2 (by omega) (Or.inl (by omega))
      refine ⟨by omega, (m0.or (Mn.way hB hs.1 p2 l1.1 (fun _ => l2))).cg (fun vs => ?_)⟩
      rw [nof vs, eli_2]
    · rw [if_neg w]
      refine ⟨ib, m0.cg (fun vs => ?_)⟩
      rw [nof vs]
      constructor
      · rintro (u | ⟨us, -, u, -⟩)
        · exact u
        · exact absurd u w
      · intro u; exact Or.inl u
  obtain ⟨its', w1, w2⟩ := l226 (X := X) (d := d) hd hB hn h51 hn2 hb hfo hP hC hs ht.1 hL (n - t).toNat (t + 1) i1 none (by omega) (by omega) m1.1 m1.2
  refine ⟨its', ?_, w2⟩
  rw [← w1]
  show z_ev X d (226, 0, [some (.ref 72), some (.int (Int32.ofInt s)), some (.int (Int32.ofInt t)), none, none, none, none], [], mk S) = _
  have st0 : z_ev X d (226, 0, [some (.ref 72), some (.int (Int32.ofInt s)), some (.int (Int32.ofInt t)), none, none, none, none], [], mk S) = z_ev X d (226, 27, [some (.ref 72), some (.int (Int32.ofInt s)), some (.int (Int32.ofInt t)), some (.int (Int32.ofInt E.1)), none, none, none], [.int (Int32.ofInt i0)], mk S) := by
    rw [hi0]
    by_cases q : s = E.1
    · by_cases q2 : 0 < t ∧ gI S 102 t = 1
      · rw [if_pos ⟨q, q2⟩]
        have hb1 : b01 (0 < t ∧ gI S 102 t = 1) = 1 := if_pos q2
        simp (disch := first | omega | assumption | exact b01_rng _ | exact st_5 | exact st_12 | exact st_19 | (simp only [isSt_sI, isSt_sJ, isSt_sF, isSt_sG, isSt_sA]; assumption)) only [↓B226_0, ↓B226_12, ↓B226_17, ↓B226_20, ↓a_100, ↓a_103, ↓a_104, ↓a_74, ↓a_99, ↓n_100, ↓n_103, ↓n_104, ↓n_74, ↓n_99, ↓o_72, ↓r_72_3, ↓r_72_50, ↓r_72_51, ↓r_72_52, ↓r_72_55, ↓r_72_56, ↓s_100, ↓s_103, ↓s_104, ↓s_74, ↓s_99, ↓o_72, c222, i_lit, i_add, i_sub, i_mul, i_neg, i_lt, i_le, i_eq, i32_gI, i64_gJ, i32_id, i32_to, i64_to, sI_i32, sJ_i64, b01_t, b01_f, i32_b01, b01_0, ↓a_s0, ↓n_s0, ↓a_s1, ↓n_s1, Int.add_zero, t_lt, f_lt, t_le, f_le, t_eq, f_eq, true_and, and_true, false_and, and_false, and_self, ↓reduceIte, z_bool_of, or_true, true_or, or_false, false_or, Int.neg_neg, not_true_eq_false, not_false_eq_true, lg_lt, lg_le, lg_gt, lg_ge, lg_eq, j_lit, j_add, j_sub, j_mul, j_neg, j_eq, i64_id, ij, ji, z_rt, Nat.reduceEqDiff, Nat.reduceAdd, Int.reduceAdd, Int.reduceSub, Int.reduceMul, Int.reduceNeg, Int.reduceLT, Int.reduceLE, Int.reduceEq, h0, q, hb1]
      · rw [if_neg (fun w => q2 w.2)]
        have hb1 : b01 (0 < t ∧ gI S 102 t = 1) = 0 := if_neg q2
        simp (disch := first | omega | assumption | exact b01_rng _ | exact st_5 | exact st_12 | exact st_19 | (simp only [isSt_sI, isSt_sJ, isSt_sF, isSt_sG, isSt_sA]; assumption)) only [↓B226_0, ↓B226_12, ↓B226_17, ↓B226_24, ↓a_100, ↓a_103, ↓a_104, ↓a_74, ↓a_99, ↓n_100, ↓n_103, ↓n_104, ↓n_74, ↓n_99, ↓o_72, ↓r_72_3, ↓r_72_50, ↓r_72_51, ↓r_72_52, ↓r_72_55, ↓r_72_56, ↓s_100, ↓s_103, ↓s_104, ↓s_74, ↓s_99, ↓o_72, c222, i_lit, i_add, i_sub, i_mul, i_neg, i_lt, i_le, i_eq, i32_gI, i64_gJ, i32_id, i32_to, i64_to, sI_i32, sJ_i64, b01_t, b01_f, i32_b01, b01_0, ↓a_s0, ↓n_s0, ↓a_s1, ↓n_s1, Int.add_zero, t_lt, f_lt, t_le, f_le, t_eq, f_eq, true_and, and_true, false_and, and_false, and_self, ↓reduceIte, z_bool_of, or_true, true_or, or_false, false_or, Int.neg_neg, not_true_eq_false, not_false_eq_true, lg_lt, lg_le, lg_gt, lg_ge, lg_eq, j_lit, j_add, j_sub, j_mul, j_neg, j_eq, i64_id, ij, ji, z_rt, Nat.reduceEqDiff, Nat.reduceAdd, Int.reduceAdd, Int.reduceSub, Int.reduceMul, Int.reduceNeg, Int.reduceLT, Int.reduceLE, Int.reduceEq, h0, q, hb1]
    · rw [if_neg (fun w => q w.1)]
      simp (disch := first | omega | assumption | exact b01_rng _ | exact st_5 | exact st_12 | exact st_19 | (simp only [isSt_sI, isSt_sJ, isSt_sF, isSt_sG, isSt_sA]; assumption)) only [↓B226_0, ↓B226_24, ↓a_100, ↓a_103, ↓a_104, ↓a_74, ↓a_99, ↓n_100, ↓n_103, ↓n_104, ↓n_74, ↓n_99, ↓o_72, ↓r_72_3, ↓r_72_50, ↓r_72_51, ↓r_72_52, ↓r_72_55, ↓r_72_56, ↓s_100, ↓s_103, ↓s_104, ↓s_74, ↓s_99, i_lit, i_add, i_sub, i_mul, i_neg, i_lt, i_le, i_eq, i32_gI, i64_gJ, i32_id, i32_to, i64_to, sI_i32, sJ_i64, b01_t, b01_f, i32_b01, b01_0, ↓a_s0, ↓n_s0, ↓a_s1, ↓n_s1, Int.add_zero, t_lt, f_lt, t_le, f_le, t_eq, f_eq, true_and, and_true, false_and, and_false, and_self, ↓reduceIte, z_bool_of, or_true, true_or, or_false, false_or, Int.neg_neg, not_true_eq_false, not_false_eq_true, lg_lt, lg_le, lg_gt, lg_ge, lg_eq, j_lit, j_add, j_sub, j_mul, j_neg, j_eq, i64_id, ij, ji, z_rt, Nat.reduceEqDiff, Nat.reduceAdd, Int.reduceAdd, Int.reduceSub, Int.reduceMul, Int.reduceNeg, Int.reduceLT, Int.reduceLE, Int.reduceEq, h0, q]
  rw [st0, hi1]
  by_cases w : s < E.1
  · obtain ⟨p2, p2'⟩ := c2 w (by omega) (by omega)
    have p2b := p2.1
    obtain ⟨l1, l2⟩ := hL (s + 1) t ht.1 ht.2 (by omega) (Or.inl (by omega))
    rw [if_pos w]
    by_cases u : i0 ≤ gI S 103 (3 * s + 2) + gI S 104 (201 * (s + 1) + t)
    · rw [show min i0 (gI S 103 (3 * s + 2) + gI S 104 (201 * (s + 1) + t)) = i0 by omega]
      simp (disch := first | omega | assumption | exact b01_rng _ | exact st_5 | exact st_12 | exact st_19 | (simp only [isSt_sI, isSt_sJ, isSt_sF, isSt_sG, isSt_sA]; assumption)) only [↓B226_27, ↓B226_34, ↓B226_73, ↓B226_75, ↓B226_77, ↓a_100, ↓a_103, ↓a_104, ↓a_74, ↓a_99, ↓n_100, ↓n_103, ↓n_104, ↓n_74, ↓n_99, ↓o_72, ↓r_72_3, ↓r_72_50, ↓r_72_51, ↓r_72_52, ↓r_72_55, ↓r_72_56, ↓s_100, ↓s_103, ↓s_104, ↓s_74, ↓s_99, i_lit, i_add, i_sub, i_mul, i_neg, i_lt, i_le, i_eq, i32_gI, i64_gJ, i32_id, i32_to, i64_to, sI_i32, sJ_i64, b01_t, b01_f, i32_b01, b01_0, ↓a_s0, ↓n_s0, ↓a_s1, ↓n_s1, Int.add_zero, t_lt, f_lt, t_le, f_le, t_eq, f_eq, true_and, and_true, false_and, and_false, and_self, ↓reduceIte, z_bool_of, or_true, true_or, or_false, false_or, Int.neg_neg, not_true_eq_false, not_false_eq_true, lg_lt, lg_le, lg_gt, lg_ge, lg_eq, j_lit, j_add, j_sub, j_mul, j_neg, j_eq, i64_id, ij, ji, z_rt, Nat.reduceEqDiff, Nat.reduceAdd, Int.reduceAdd, Int.reduceSub, Int.reduceMul, Int.reduceNeg, Int.reduceLT, Int.reduceLE, Int.reduceEq]
    · rw [show min i0 (gI S 103 (3 * s + 2) + gI S 104 (201 * (s + 1) + t)) = gI S 103 (3 * s + 2) + gI S 104 (201 * (s + 1) + t) by omega]
      simp (disch := first | omega | assumption | exact b01_rng _ | exact st_5 | exact st_12 | exact st_19 | (simp only [isSt_sI, isSt_sJ, isSt_sF, isSt_sG, isSt_sA]; assumption)) only [↓B226_27, ↓B226_34, ↓B226_68, ↓B226_75, ↓B226_77, ↓a_100, ↓a_103, ↓a_104, ↓a_74, ↓a_99, ↓n_100, ↓n_103, ↓n_104, ↓n_74, ↓n_99, ↓o_72, ↓r_72_3, ↓r_72_50, ↓r_72_51, ↓r_72_52, ↓r_72_55, ↓r_72_56, ↓s_100, ↓s_103, ↓s_104, ↓s_74, ↓s_99, i_lit, i_add, i_sub, i_mul, i_neg, i_lt, i_le, i_eq, i32_gI, i64_gJ, i32_id, i32_to, i64_to, sI_i32, sJ_i64, b01_t, b01_f, i32_b01, b01_0, ↓a_s0, ↓n_s0, ↓a_s1, ↓n_s1, Int.add_zero, t_lt, f_lt, t_le, f_le, t_eq, f_eq, true_and, and_true, false_and, and_false, and_self, ↓reduceIte, z_bool_of, or_true, true_or, or_false, false_or, Int.neg_neg, not_true_eq_false, not_false_eq_true, lg_lt, lg_le, lg_gt, lg_ge, lg_eq, j_lit, j_add, j_sub, j_mul, j_neg, j_eq, i64_id, ij, ji, z_rt, Nat.reduceEqDiff, Nat.reduceAdd, Int.reduceAdd, Int.reduceSub, Int.reduceMul, Int.reduceNeg, Int.reduceLT, Int.reduceLE, Int.reduceEq]
  · rw [if_neg w]
    simp (disch := first | omega | assumption | exact b01_rng _ | exact st_5 | exact st_12 | exact st_19 | (simp only [isSt_sI, isSt_sJ, isSt_sF, isSt_sG, isSt_sA]; assumption)) only [↓B226_27, ↓B226_77, ↓a_100, ↓a_103, ↓a_104, ↓a_74, ↓a_99, ↓n_100, ↓n_103, ↓n_104, ↓n_74, ↓n_99, ↓o_72, ↓r_72_3, ↓r_72_50, ↓r_72_51, ↓r_72_52, ↓r_72_55, ↓r_72_56, ↓s_100, ↓s_103, ↓s_104, ↓s_74, ↓s_99, i_lit, i_add, i_sub, i_mul, i_neg, i_lt, i_le, i_eq, i32_gI, i64_gJ, i32_id, i32_to, i64_to, sI_i32, sJ_i64, b01_t, b01_f, i32_b01, b01_0, ↓a_s0, ↓n_s0, ↓a_s1, ↓n_s1, Int.add_zero, t_lt, f_lt, t_le, f_le, t_eq, f_eq, true_and, and_true, false_and, and_false, and_self, ↓reduceIte, z_bool_of, or_true, true_or, or_false, false_or, Int.neg_neg, not_true_eq_false, not_false_eq_true, lg_lt, lg_le, lg_gt, lg_ge, lg_eq, j_lit, j_add, j_sub, j_mul, j_neg, j_eq, i64_id, ij, ji, z_rt, Nat.reduceEqDiff, Nat.reduceAdd, Int.reduceAdd, Int.reduceSub, Int.reduceMul, Int.reduceNeg, Int.reduceLT, Int.reduceLE, Int.reduceEq]
end
