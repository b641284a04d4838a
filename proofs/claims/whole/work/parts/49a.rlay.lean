/-! the reference lays a metre: which steps follow which -/
def FrLy (S S' : zS) : Prop := Dyn S S' ∧ (∀ a i, a ≠ 97 → ¬ (99 ≤ a ∧ a ≤ 102) → ¬ (a = 72 ∧ i = 51) → gI S' a i = gI S a i) ∧ (∀ a i, gJ S' a i = gJ S a i) ∧ (∀ a i, gQ S' a i = gQ S a i)
theorem FrLy.rf {S : zS} : FrLy S S := ⟨Dyn.rf, fun _ _ _ _ _ => rfl, fun _ _ => rfl, fun _ _ => rfl⟩
theorem FrLy.tr {A B C : zS} (h1 : FrLy A B) (h2 : FrLy B C) : FrLy A C := ⟨h1.1.tr h2.1, fun a i q r s => (h2.2.1 a i q r s).trans (h1.2.1 a i q r s), fun a i => (h2.2.2.1 a i).trans (h1.2.2.1 a i), fun a i => (h2.2.2.2 a i).trans (h1.2.2.2 a i)⟩
theorem FrLy.I {S : zS} {a : Nat} {i x : Int} (h : a = 97 ∨ (99 ≤ a ∧ a ≤ 102)) : FrLy S (sI S a i x) := ⟨Dyn.sI (by omega) Dyn.rf, fun b j q r s => by rw [gI_sI, if_neg (by omega)], fun _ _ => rfl, fun _ _ => rfl⟩
theorem FrLy.N {S : zS} {x : Int} : FrLy S (sI S 72 51 x) := ⟨Dyn.sI (by decide) Dyn.rf, fun b j q r s => by rw [gI_sI, if_neg s], fun _ _ => rfl, fun _ _ => rfl⟩
theorem FrLy.F {S : zS} {a : Nat} {lo hi : Int} {f : Int → Int} (h : a = 97 ∨ (99 ≤ a ∧ a ≤ 102)) : FrLy S (sF S a lo hi f) := ⟨Dyn.sF (by omega) Dyn.rf, fun b j q r s => by rw [gI_sF, if_neg (by omega)], fun _ _ => rfl, fun _ _ => rfl⟩
section
variable {X : zX} {d : Nat}
abbrev L221 (a t b x4 x5 : Int) : zL := [some (.ref 72), some (.int (Int32.ofInt a)), some (.int (Int32.ofInt t)), some (.int (Int32.ofInt b)), some (.int (Int32.ofInt x4)), some (.int (Int32.ofInt x5))]
/-- those that follow one -/
theorem l221i {a t b s : Int} (ht : 1 ≤ t ∧ b ≤ 200) (hs : 0 ≤ s ∧ s ≤ 200) : ∀ (c : Nat) (o : Int) (S : zS), o + c = b + 1 → t ≤ o → gI S 102 s = 1 → (∀ i, t ≤ i → i ≤ b → gI S 101 i = 0 ∨ gI S 101 i = 1) → z_ev X d (221, 12, L221 a t b s o, [], mk S) = z_ev X d (221, 55, L221 a t b s (b + 1), [], mk (sF S 100 (201 * s + o) (201 * s + b + 1) (fun i => gI S 101 (i - 201 * s)))) := by
  intro c
  induction c with
  | zero =>
    intro o S hc ho h1 h2
    have : o = b + 1 := by omega
    subst this
    rw [sF_nil (by omega), B221_12]
    simp (disch := first | omega | assumption | exact b01_rng _ | exact st_5 | exact st_12 | exact st_19 | (simp only [isSt_sI, isSt_sJ, isSt_sF, isSt_sG, isSt_sA]; assumption)) only [i_lit, i_add, i_sub, i_mul, i_neg, i_lt, i_le, i_eq, i32_gI, i64_gJ, i32_id, i32_to, i64_to, sI_i32, sJ_i64, b01_t, b01_f, i32_b01, b01_0, ↓a_s0, ↓n_s0, ↓a_s1, ↓n_s1, Int.add_zero, t_lt, f_lt, t_le, f_le, t_eq, f_eq, true_and, and_true, false_and, and_false, and_self, ↓reduceIte, z_bool_of, or_true, true_or, or_false, false_or, Int.neg_neg, not_true_eq_false, not_false_eq_true, lg_lt, lg_le, lg_gt, lg_ge, lg_eq, j_lit, j_add, j_sub, j_mul, j_neg, j_eq, i64_id, ij, ji, z_rt, Nat.reduceEqDiff, Nat.reduceAdd, Int.reduceAdd, Int.reduceSub, Int.reduceMul, Int.reduceNeg, Int.reduceLT, Int.reduceLE, Int.reduceEq]
  | succ c ih =>
    intro o S hc ho h1 h2
    have hb := h2 o ho (by omega)
    have e := ih (o + 1) (sI S 100 (201 * s + o) (gI S 101 o)) (by omega) (by omega) (by rw [gI_sI, if_neg (by omega)]; exact h1) (fun i q1 q2 => by rw [gI_sI, if_neg (by omega)]; exact h2 i q1 q2)
    have e2 : sF (sI S 100 (201 * s + o) (gI S 101 o)) 100 (201 * s + (o + 1)) (201 * s + b + 1) (fun i => gI (sI S 100 (201 * s + o) (gI S 101 o)) 101 (i - 201 * s)) = sF S 100 (201 * s + o) (201 * s + b + 1) (fun i => gI S 101 (i - 201 * s)) := by
      rw [show (fun i => gI (sI S 100 (201 * s + o) (gI S 101 o)) 101 (i - 201 * s)) = (fun i => gI S 101 (i - 201 * s)) from funext fun i => by rw [gI_sI, if_neg (by omega)], show 201 * s + (o + 1) = 201 * s + o + 1 by omega]
      exact sF_step (by omega) (by rw [show 201 * s + o - 201 * s = o by omega])
    rw [e2] at e
    rw [← e, B221_12]
    simp (disch := first | omega | assumption | exact b01_rng _ | exact st_5 | exact st_12 | exact st_19 | (simp only [isSt_sI, isSt_sJ, isSt_sF, isSt_sG, isSt_sA]; assumption)) only [↓B221_18, ↓B221_28, ↓a_100, ↓a_101, ↓a_102, ↓n_100, ↓n_101, ↓n_102, ↓r_72_52, ↓r_72_53, ↓r_72_54, ↓s_100, ↓s_101, ↓s_102, i_lit, i_add, i_sub, i_mul, i_neg, i_lt, i_le, i_eq, i32_gI, i64_gJ, i32_id, i32_to, i64_to, sI_i32, sJ_i64, b01_t, b01_f, i32_b01, b01_0, ↓a_s0, ↓n_s0, ↓a_s1, ↓n_s1, Int.add_zero, t_lt, f_lt, t_le, f_le, t_eq, f_eq, true_and, and_true, false_and, and_false, and_self, ↓reduceIte, z_bool_of, or_true, true_or, or_false, false_or, Int.neg_neg, not_true_eq_false, not_false_eq_true, lg_lt, lg_le, lg_gt, lg_ge, lg_eq, j_lit, j_add, j_sub, j_mul, j_neg, j_eq, i64_id, ij, ji, z_rt, Nat.reduceEqDiff, Nat.reduceAdd, Int.reduceAdd, Int.reduceSub, Int.reduceMul, Int.reduceNeg, Int.reduceLT, Int.reduceLE, Int.reduceEq, h1]
    rw [if_pos hb]
def JoR (S S' : zS) (a t b s1 : Int) : Prop := (∀ s o : Int, 0 ≤ s → s ≤ 200 → 0 ≤ o → o ≤ 200 → gI S' 100 (201 * s + o) = if a ≤ s ∧ s < s1 ∧ t ≤ o ∧ o ≤ b ∧ gI S 102 s = 1 then gI S 101 o else gI S 100 (201 * s + o)) ∧ (∀ s, gI S' 102 s = if a ≤ s ∧ s < s1 then 0 else gI S 102 s) ∧ (∀ c i, c ≠ 100 → c ≠ 102 → gI S' c i = gI S c i) ∧ FrLy S S'
theorem JoR.rf {S : zS} {a t b : Int} : JoR S S a t b a := ⟨fun s o _ _ _ _ => by rw [if_neg (by omega)], fun s => by rw [if_neg (by omega)], fun _ _ _ _ => rfl, FrLy.rf⟩
theorem l221o {a t b : Int} (ht : 1 ≤ a ∧ a < t ∧ t ≤ b ∧ b ≤ 200) (S0 : zS) (hl : ∀ i, a ≤ i → i < t → gI S0 102 i = 0 ∨ gI S0 102 i = 1) (hf : ∀ i, t ≤ i → i ≤ b → gI S0 101 i = 0 ∨ gI S0 101 i = 1) : ∀ (c : Nat) (s : Int) (S : zS) (x5 : Option Value), s + c = t → a ≤ s → JoR S0 S a t b s → ∃ (S' : zS) (y5 : Option Value), z_ev X d (221, 3, [some (.ref 72), some (.int (Int32.ofInt a)), some (.int (Int32.ofInt t)), some (.int (Int32.ofInt b)), some (.int (Int32.ofInt s)), x5], [], mk S) = z_ev X d (221, 69, [some (.ref 72), some (.int (Int32.ofInt a)), some (.int (Int32.ofInt t)), some (.int (Int32.ofInt b)), some (.int (Int32.ofInt t)), y5], [], mk S') ∧ JoR S0 S' a t b t := by
  intro c
  induction c with
  | zero =>
    intro s S x5 hc hs hJ
    have : s = t := by omega
    subst this
    refine ⟨S, x5, ?_, hJ⟩
    rw [B221_3]
    simp (disch := first | omega | assumption | exact b01_rng _ | exact st_5 | exact st_12 | exact st_19 | (simp only [isSt_sI, isSt_sJ, isSt_sF, isSt_sG, isSt_sA]; assumption)) only [i_lit, i_add, i_sub, i_mul, i_neg, i_lt, i_le, i_eq, i32_gI, i64_gJ, i32_id, i32_to, i64_to, sI_i32, sJ_i64, b01_t, b01_f, i32_b01, b01_0, ↓a_s0, ↓n_s0, ↓a_s1, ↓n_s1, Int.add_zero, t_lt, f_lt, t_le, f_le, t_eq, f_eq, true_and, and_true, false_and, and_false, and_self, ↓reduceIte, z_bool_of, or_true, true_or, or_false, false_or, Int.neg_neg, not_true_eq_false, not_false_eq_true, lg_lt, lg_le, lg_gt, lg_ge, lg_eq, j_lit, j_add, j_sub, j_mul, j_neg, j_eq, i64_id, ij, ji, z_rt, Nat.reduceEqDiff, Nat.reduceAdd, Int.reduceAdd, Int.reduceSub, Int.reduceMul, Int.reduceNeg, Int.reduceLT, Int.reduceLE, Int.reduceEq]
  | succ c ih =>
    intro s S x5 hc hs hJ
    obtain ⟨j1, j2, j3, j4⟩ := hJ
    have el : gI S 102 s = gI S0 102 s := by rw [j2 s, if_neg (by omega)]
    have ef : ∀ i, gI S 101 i = gI S0 101 i := fun i => j3 101 i (by omega) (by omega)
    -- what lies there behind this one
    obtain ⟨S1, hS1, hz⟩ : ∃ S1 : zS, (S1 = if gI S 102 s = 1 then sF S 100 (201 * s + t) (201 * s + b + 1) (fun i => gI S 101 (i - 201 * s)) else S) ∧ ∃ o : Int, z_ev X d (221, 12, L221 a t b s t, [], mk S) = z_ev X d (221, 55, L221 a t b s o, [], mk S1) := by
      refine ⟨_, rfl, ?_⟩
      by_cases q : gI S 102 s = 1
      · rw [if_pos q]
        exact ⟨b + 1, l221i (by omega) (by omega) (b + 1 - t).toNat t S (by omega) (by omega) q (fun i q1 q2 => by rw [ef]; exact hf i q1 q2)⟩
      · rw [if_neg q]
        have q0 : gI S 102 s = 0 := by have := hl s (by omega) (by omega); omega
        refine ⟨t, ?_⟩
        rw [B221_12]
        simp (disch := first | omega | assumption | exact b01_rng _ | exact st_5 | exact st_12 | exact st_19 | (simp only [isSt_sI, isSt_sJ, isSt_sF, isSt_sG, isSt_sA]; assumption)) only [↓B221_18, ↓a_100, ↓a_101, ↓a_102, ↓n_100, ↓n_101, ↓n_102, ↓r_72_52, ↓r_72_53, ↓r_72_54, ↓s_100, ↓s_101, ↓s_102, i_lit, i_add, i_sub, i_mul, i_neg, i_lt, i_le, i_eq, i32_gI, i64_gJ, i32_id, i32_to, i64_to, sI_i32, sJ_i64, b01_t, b01_f, i32_b01, b01_0, ↓a_s0, ↓n_s0, ↓a_s1, ↓n_s1, Int.add_zero, t_lt, f_lt, t_le, f_le, t_eq, f_eq, true_and, and_true, false_and, and_false, and_self, ↓reduceIte, z_bool_of, or_true, true_or, or_false, false_or, Int.neg_neg, not_true_eq_false, not_false_eq_true, lg_lt, lg_le, lg_gt, lg_ge, lg_eq, j_lit, j_add, j_sub, j_mul, j_neg, j_eq, i64_id, ij, ji, z_rt, Nat.reduceEqDiff, Nat.reduceAdd, Int.reduceAdd, Int.reduceSub, Int.reduceMul, Int.reduceNeg, Int.reduceLT, Int.reduceLE, Int.reduceEq, q0]
    obtain ⟨o, hz⟩ := hz
    have k102 : ∀ i, gI S1 102 i = gI S 102 i := fun i => by rw [hS1]; split; rw [gI_sF, if_neg (by omega)]; rfl
    have k1 : ∀ c i, c ≠ 100 → gI S1 c i = gI S c i := fun c i q => by rw [hS1]; split; rw [gI_sF, if_neg (by omega)]; rfl
    have k100 : ∀ s' o : Int, 0 ≤ s' → s' ≤ 200 → 0 ≤ o → o ≤ 200 → gI S1 100 (201 * s' + o) = if s' = s ∧ t ≤ o ∧ o ≤ b ∧ gI S0 102 s = 1 then gI S0 101 o else gI S 100 (201 * s' + o) := fun s' o q1 q2 q3 q4 => by
      rw [hS1]
      by_cases q : gI S 102 s = 1
      · rw [if_pos q, gI_sF]
        by_cases w : s' = s ∧ t ≤ o ∧ o ≤ b
        · rw [if_pos ⟨rfl, by omega, by omega⟩, if_pos ⟨w.1, w.2.1, w.2.2, by rw [← el]; exact q⟩, w.1, show 201 * s + o - 201 * s = o by omega, i32_gI, ef]
        · rw [if_neg (by omega), if_neg (by omega)]
      · rw [if_neg q, if_neg (by omega)]
    have fr1 : FrLy S S1 := by rw [hS1]; split; exact FrLy.F (by omega); exact FrLy.rf
    obtain ⟨S', y5, e1, e2⟩ := ih (s + 1) (sI S1 102 s 0) (vI o) (by omega) (by omega) ⟨fun s' o q1 q2 q3 q4 => by
      rw [gI_sI, if_neg (by omega), k100 s' o q1 q2 q3 q4, j1 s' o q1 q2 q3 q4]
      by_cases w : s' = s
      · subst w
        by_cases w2 : t ≤ o ∧ o ≤ b ∧ gI S0 102 s' = 1
        · rw [if_pos ⟨rfl, w2⟩, if_pos ⟨by omega, by omega, w2⟩]
        · rw [if_neg (fun h => w2 h.2), if_neg (fun h => w2 h.2.2), if_neg (fun h => w2 h.2.2)]
      · rw [if_neg (fun h => w h.1)]
        by_cases w2 : a ≤ s' ∧ s' < s ∧ t ≤ o ∧ o ≤ b ∧ gI S0 102 s' = 1
        · rw [if_pos w2, if_pos ⟨w2.1, by omega, w2.2.2⟩]
        · rw [if_neg w2, if_neg (fun h => w2 ⟨h.1, by omega, h.2.2⟩)], fun s' => by
      rw [gI_sI]
      by_cases w : s' = s
      · subst w; rw [if_pos ⟨rfl, rfl⟩, if_pos (by omega)]; rfl
      · rw [if_neg (by omega), k102, j2 s']
        by_cases w2 : a ≤ s' ∧ s' < s
        · rw [if_pos w2, if_pos (by omega)]
        · rw [if_neg w2, if_neg (by omega)], fun c i q1 q2 => by rw [gI_sI, if_neg (by omega), k1 c i q1]; exact j3 c i q1 q2, (j4.tr fr1).tr (FrLy.I (by omega))⟩
    refine ⟨S', y5, ?_, e2⟩
    have hz' : z_ev X d (221, 3, [some (.ref 72), some (.int (Int32.ofInt a)), some (.int (Int32.ofInt t)), some (.int (Int32.ofInt b)), some (.int (Int32.ofInt s)), x5], [], mk S) = z_ev X d (221, 12, L221 a t b s t, [], mk S) := by
      rw [B221_3]
      simp (disch := first | omega | assumption | exact b01_rng _ | exact st_5 | exact st_12 | exact st_19 | (simp only [isSt_sI, isSt_sJ, isSt_sF, isSt_sG, isSt_sA]; assumption)) only [↓B221_9, i_lit, i_add, i_sub, i_mul, i_neg, i_lt, i_le, i_eq, i32_gI, i64_gJ, i32_id, i32_to, i64_to, sI_i32, sJ_i64, b01_t, b01_f, i32_b01, b01_0, ↓a_s0, ↓n_s0, ↓a_s1, ↓n_s1, Int.add_zero, t_lt, f_lt, t_le, f_le, t_eq, f_eq, true_and, and_true, false_and, and_false, and_self, ↓reduceIte, z_bool_of, or_true, true_or, or_false, false_or, Int.neg_neg, not_true_eq_false, not_false_eq_true, lg_lt, lg_le, lg_gt, lg_ge, lg_eq, j_lit, j_add, j_sub, j_mul, j_neg, j_eq, i64_id, ij, ji, z_rt, Nat.reduceEqDiff, Nat.reduceAdd, Int.reduceAdd, Int.reduceSub, Int.reduceMul, Int.reduceNeg, Int.reduceLT, Int.reduceLE, Int.reduceEq]
    rw [hz', hz, ← e1]
    simp (disch := first | omega | assumption | exact b01_rng _ | exact st_5 | exact st_12 | exact st_19 | (simp only [isSt_sI, isSt_sJ, isSt_sF, isSt_sG, isSt_sA]; assumption)) only [↓B221_55, ↓a_100, ↓a_101, ↓a_102, ↓n_100, ↓n_101, ↓n_102, ↓r_72_52, ↓r_72_53, ↓r_72_54, ↓s_100, ↓s_101, ↓s_102, i_lit, i_add, i_sub, i_mul, i_neg, i_lt, i_le, i_eq, i32_gI, i64_gJ, i32_id, i32_to, i64_to, sI_i32, sJ_i64, b01_t, b01_f, i32_b01, b01_0, ↓a_s0, ↓n_s0, ↓a_s1, ↓n_s1, Int.add_zero, t_lt, f_lt, t_le, f_le, t_eq, f_eq, true_and, and_true, false_and, and_false, and_self, ↓reduceIte, z_bool_of, or_true, true_or, or_false, false_or, Int.neg_neg, not_true_eq_false, not_false_eq_true, lg_lt, lg_le, lg_gt, lg_ge, lg_eq, j_lit, j_add, j_sub, j_mul, j_neg, j_eq, i64_id, ij, ji, z_rt, Nat.reduceEqDiff, Nat.reduceAdd, Int.reduceAdd, Int.reduceSub, Int.reduceMul, Int.reduceNeg, Int.reduceLT, Int.reduceLE, Int.reduceEq]
theorem l221f {a t b : Int} (ht : 1 ≤ a ∧ a < t ∧ t ≤ b ∧ b ≤ 200) {x5 : Option Value} : ∀ (c : Nat) (o : Int) (S : zS), o + c = b + 1 → t ≤ o → z_ev X d (221, 72, [some (.ref 72), some (.int (Int32.ofInt a)), some (.int (Int32.ofInt t)), some (.int (Int32.ofInt b)), some (.int (Int32.ofInt o)), x5], [], mk S) = some (none, mk (sF S 101 o (b + 1) (fun _ => 0))) := by
  intro c
  induction c with
  | zero =>
    intro o S hc ho
    have : o = b + 1 := by omega
    subst this
    rw [sF_nil (by omega), B221_72]
    simp (disch := first | omega | assumption | exact b01_rng _ | exact st_5 | exact st_12 | exact st_19 | (simp only [isSt_sI, isSt_sJ, isSt_sF, isSt_sG, isSt_sA]; assumption)) only [↓B221_92, i_lit, i_add, i_sub, i_mul, i_neg, i_lt, i_le, i_eq, i32_gI, i64_gJ, i32_id, i32_to, i64_to, sI_i32, sJ_i64, b01_t, b01_f, i32_b01, b01_0, ↓a_s0, ↓n_s0, ↓a_s1, ↓n_s1, Int.add_zero, t_lt, f_lt, t_le, f_le, t_eq, f_eq, true_and, and_true, false_and, and_false, and_self, ↓reduceIte, z_bool_of, or_true, true_or, or_false, false_or, Int.neg_neg, not_true_eq_false, not_false_eq_true, lg_lt, lg_le, lg_gt, lg_ge, lg_eq, j_lit, j_add, j_sub, j_mul, j_neg, j_eq, i64_id, ij, ji, z_rt, Nat.reduceEqDiff, Nat.reduceAdd, Int.reduceAdd, Int.reduceSub, Int.reduceMul, Int.reduceNeg, Int.reduceLT, Int.reduceLE, Int.reduceEq]
  | succ c ih =>
    intro o S hc ho
    rw [← sF_step (S := S) (a := 101) (lo := o) (hi := b + 1) (x := 0) (f := fun _ => 0) (by omega) rfl, ← ih (o + 1) (sI S 101 o 0) (by omega) (by omega), B221_72]
    simp (disch := first | omega | assumption | exact b01_rng _ | exact st_5 | exact st_12 | exact st_19 | (simp only [isSt_sI, isSt_sJ, isSt_sF, isSt_sG, isSt_sA]; assumption)) only [↓B221_78, ↓a_100, ↓a_101, ↓a_102, ↓n_100, ↓n_101, ↓n_102, ↓r_72_52, ↓r_72_53, ↓r_72_54, ↓s_100, ↓s_101, ↓s_102, i_lit, i_add, i_sub, i_mul, i_neg, i_lt, i_le, i_eq, i32_gI, i64_gJ, i32_id, i32_to, i64_to, sI_i32, sJ_i64, b01_t, b01_f, i32_b01, b01_0, ↓a_s0, ↓n_s0, ↓a_s1, ↓n_s1, Int.add_zero, t_lt, f_lt, t_le, f_le, t_eq, f_eq, true_and, and_true, false_and, and_false, and_self, ↓reduceIte, z_bool_of, or_true, true_or, or_false, false_or, Int.neg_neg, not_true_eq_false, not_false_eq_true, lg_lt, lg_le, lg_gt, lg_ge, lg_eq, j_lit, j_add, j_sub, j_mul, j_neg, j_eq, i64_id, ij, ji, z_rt, Nat.reduceEqDiff, Nat.reduceAdd, Int.reduceAdd, Int.reduceSub, Int.reduceMul, Int.reduceNeg, Int.reduceLT, Int.reduceLE, Int.reduceEq]
theorem x221 {a t b : Int} (ht : 1 ≤ a ∧ a < t ∧ t ≤ b ∧ b ≤ 200) {S : zS} (hl : ∀ i, a ≤ i → i < t → gI S 102 i = 0 ∨ gI S 102 i = 1) (hf : ∀ i, t ≤ i → i ≤ b → gI S 101 i = 0 ∨ gI S 101 i = 1) : ∃ S' : zS, z_ev X d (z_entry 221 [.ref 72, .int (Int32.ofInt a), .int (Int32.ofInt t), .int (Int32.ofInt b)] (mk S)) = some (none, mk S') ∧ FrLy S S' ∧ (∀ s o : Int, 0 ≤ s → s ≤ 200 → 0 ≤ o → o ≤ 200 → gI S' 100 (201 * s + o) = if a ≤ s ∧ s < t ∧ t ≤ o ∧ o ≤ b ∧ gI S 102 s = 1 then gI S 101 o else gI S 100 (201 * s + o)) ∧ (∀ s, gI S' 102 s = if a ≤ s ∧ s < t then 0 else gI S 102 s) ∧ (∀ o, gI S' 101 o = if t ≤ o ∧ o ≤ b then 0 else gI S 101 o) ∧ (∀ c i, c ≠ 100 → c ≠ 101 → c ≠ 102 → gI S' c i = gI S c i) := by
  obtain ⟨S1, y5, e1, j1, j2, j3, j4⟩ := l221o (X := X) (d := d) ht S hl hf (t - a).toNat a S none (by omega) (by omega) JoR.rf
  have e2 := l221f (X := X) (d := d) ht (x5 := y5) (b + 1 - t).toNat t S1 (by omega) (by omega)
  refine ⟨sF S1 101 t (b + 1) (fun _ => 0), ?_, j4.tr (FrLy.F (by omega)), fun s o q1 q2 q3 q4 => by rw [gI_sF, if_neg (by omega)]; exact j1 s o q1 q2 q3 q4, fun s => by rw [gI_sF, if_neg (by omega)]; exact j2 s, fun o => ?_, fun c i q1 q2 q3 => by rw [gI_sF, if_neg (by omega)]; exact j3 c i q1 q3⟩
  · rw [← e2]
    show z_ev X d (221, 0, [some (.ref 72), some (.int (Int32.ofInt a)), some (.int (Int32.ofInt t)), some (.int (Int32.ofInt b)), none, none], [], mk S) = _
    have : z_ev X d (221, 0, [some (.ref 72), some (.int (Int32.ofInt a)), some (.int (Int32.ofInt t)), some (.int (Int32.ofInt b)), none, none], [], mk S) = z_ev X d (221, 3, [some (.ref 72), some (.int (Int32.ofInt a)), some (.int (Int32.ofInt t)), some (.int (Int32.ofInt b)), some (.int (Int32.ofInt a)), none], [], mk S) := by
      simp (disch := first | omega | assumption | exact b01_rng _ | exact st_5 | exact st_12 | exact st_19 | (simp only [isSt_sI, isSt_sJ, isSt_sF, isSt_sG, isSt_sA]; assumption)) only [↓B221_0, i_lit, i_add, i_sub, i_mul, i_neg, i_lt, i_le, i_eq, i32_gI, i64_gJ, i32_id, i32_to, i64_to, sI_i32, sJ_i64, b01_t, b01_f, i32_b01, b01_0, ↓a_s0, ↓n_s0, ↓a_s1, ↓n_s1, Int.add_zero, t_lt, f_lt, t_le, f_le, t_eq, f_eq, true_and, and_true, false_and, and_false, and_self, ↓reduceIte, z_bool_of, or_true, true_or, or_false, false_or, Int.neg_neg, not_true_eq_false, not_false_eq_true, lg_lt, lg_le, lg_gt, lg_ge, lg_eq, j_lit, j_add, j_sub, j_mul, j_neg, j_eq, i64_id, ij, ji, z_rt, Nat.reduceEqDiff, Nat.reduceAdd, Int.reduceAdd, Int.reduceSub, Int.reduceMul, Int.reduceNeg, Int.reduceLT, Int.reduceLE, Int.reduceEq]
    rw [this, e1]
    simp (disch := first | omega | assumption | exact b01_rng _ | exact st_5 | exact st_12 | exact st_19 | (simp only [isSt_sI, isSt_sJ, isSt_sF, isSt_sG, isSt_sA]; assumption)) only [↓B221_69, i_lit, i_add, i_sub, i_mul, i_neg, i_lt, i_le, i_eq, i32_gI, i64_gJ, i32_id, i32_to, i64_to, sI_i32, sJ_i64, b01_t, b01_f, i32_b01, b01_0, ↓a_s0, ↓n_s0, ↓a_s1, ↓n_s1, Int.add_zero, t_lt, f_lt, t_le, f_le, t_eq, f_eq, true_and, and_true, false_and, and_false, and_self, ↓reduceIte, z_bool_of, or_true, true_or, or_false, false_or, Int.neg_neg, not_true_eq_false, not_false_eq_true, lg_lt, lg_le, lg_gt, lg_ge, lg_eq, j_lit, j_add, j_sub, j_mul, j_neg, j_eq, i64_id, ij, ji, z_rt, Nat.reduceEqDiff, Nat.reduceAdd, Int.reduceAdd, Int.reduceSub, Int.reduceMul, Int.reduceNeg, Int.reduceLT, Int.reduceLE, Int.reduceEq]
  · rw [gI_sF]
    by_cases q : t ≤ o ∧ o ≤ b
    · rw [if_pos ⟨rfl, by omega, by omega⟩, if_pos q]; rfl
    · rw [if_neg (by omega), if_neg q]; exact j3 101 o (by omega) (by omega)
end
