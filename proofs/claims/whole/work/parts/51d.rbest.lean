/-! the reference reads: the whole line -/
section
variable {X : zX} {d : Nat} {E : Ln} {f : Int → Int → Int} {M : Int}
theorem Gd.cg {far : Int} {U : Au} {n : Int} {lf : Int → Int → Int} {l s w : Int} {P P' : Int → Prop} {pre : List Int} (h : Gd E f far U n lf l P s w pre) (hp : ∀ k, P' k ↔ P k) : Gd E f far U n lf l P' s w pre := by
  have : P' = P := funext fun k => propext (hp k)
  rw [this]; exact h
/-- where one is at first -/
theorem l232a : ∀ (c : Nat) (k : Int) (S : zS), k + c = 201 → 0 ≤ k → z_ev X d (232, 2, [some (.ref 72), some (.int (Int32.ofInt k)), none, none, none], [], mk S) = z_ev X d (232, 30, [some (.ref 72), some (.int (Int32.ofInt 201)), none, none, none], [], mk (sF S 105 k 201 (fun i => if i = 0 then 1 else 0))) := by
  intro c
  induction c with
  | zero =>
    intro k S hc hk
    have : k = 201 := by omega
    subst this
    rw [sF_nil (by omega), B232_2]
    simp (disch := first | omega | assumption | exact b01_rng _ | exact st_5 | exact st_12 | exact st_19 | (simp only [isSt_sI, isSt_sJ, isSt_sF, isSt_sG, isSt_sA]; assumption)) only [i_lit, i_add, i_sub, i_mul, i_neg, i_lt, i_le, i_eq, i32_gI, i64_gJ, i32_id, i32_to, i64_to, sI_i32, sJ_i64, b01_t, b01_f, i32_b01, b01_0, ↓a_s0, ↓n_s0, ↓a_s1, ↓n_s1, Int.add_zero, t_lt, f_lt, t_le, f_le, t_eq, f_eq, true_and, and_true, false_and, and_false, and_self, ↓reduceIte, z_bool_of, or_true, true_or, or_false, false_or, Int.neg_neg, not_true_eq_false, not_false_eq_true, lg_lt, lg_le, lg_gt, lg_ge, lg_eq, j_lit, j_add, j_sub, j_mul, j_neg, j_eq, i64_id, ij, ji, z_rt, Nat.reduceEqDiff, Nat.reduceAdd, Int.reduceAdd, Int.reduceSub, Int.reduceMul, Int.reduceNeg, Int.reduceLT, Int.reduceLE, Int.reduceEq]
  | succ c ih =>
    intro k S hc hk
    by_cases q : k = 0
    · rw [← sF_step (S := S) (a := 105) (lo := k) (hi := 201) (x := 1) (f := fun i => if i = 0 then 1 else 0) (by omega) (by show (1 : Int) = if k = 0 then 1 else 0; rw [if_pos q]), ← ih (k + 1) (sI S 105 k 1) (by omega) (by omega), B232_2]
      simp (disch := first | omega | assumption | exact b01_rng _ | exact st_5 | exact st_12 | exact st_19 | (simp only [isSt_sI, isSt_sJ, isSt_sF, isSt_sG, isSt_sA]; assumption)) only [↓B232_9, ↓B232_18, ↓B232_23, ↓a_103, ↓a_104, ↓a_105, ↓a_106, ↓a_107, ↓a_74, ↓n_103, ↓n_104, ↓n_105, ↓n_106, ↓n_107, ↓n_74, ↓o_72, ↓r_72_3, ↓r_72_51, ↓r_72_55, ↓r_72_56, ↓r_72_57, ↓r_72_58, ↓r_72_59, ↓s_103, ↓s_104, ↓s_105, ↓s_106, ↓s_107, ↓s_74, i_lit, i_add, i_sub, i_mul, i_neg, i_lt, i_le, i_eq, i32_gI, i64_gJ, i32_id, i32_to, i64_to, sI_i32, sJ_i64, b01_t, b01_f, i32_b01, b01_0, ↓a_s0, ↓n_s0, ↓a_s1, ↓n_s1, Int.add_zero, t_lt, f_lt, t_le, f_le, t_eq, f_eq, true_and, and_true, false_and, and_false, and_self, ↓reduceIte, z_bool_of, or_true, true_or, or_false, false_or, Int.neg_neg, not_true_eq_false, not_false_eq_true, lg_lt, lg_le, lg_gt, lg_ge, lg_eq, j_lit, j_add, j_sub, j_mul, j_neg, j_eq, i64_id, ij, ji, z_rt, Nat.reduceEqDiff, Nat.reduceAdd, Int.reduceAdd, Int.reduceSub, Int.reduceMul, Int.reduceNeg, Int.reduceLT, Int.reduceLE, Int.reduceEq, q]
    · rw [← sF_step (S := S) (a := 105) (lo := k) (hi := 201) (x := 0) (f := fun i => if i = 0 then 1 else 0) (by omega) (by show (0 : Int) = if k = 0 then 1 else 0; rw [if_neg q]), ← ih (k + 1) (sI S 105 k 0) (by omega) (by omega), B232_2]
      simp (disch := first | omega | assumption | exact b01_rng _ | exact st_5 | exact st_12 | exact st_19 | (simp only [isSt_sI, isSt_sJ, isSt_sF, isSt_sG, isSt_sA]; assumption)) only [↓B232_9, ↓B232_22, ↓B232_23, ↓a_103, ↓a_104, ↓a_105, ↓a_106, ↓a_107, ↓a_74, ↓n_103, ↓n_104, ↓n_105, ↓n_106, ↓n_107, ↓n_74, ↓o_72, ↓r_72_3, ↓r_72_51, ↓r_72_55, ↓r_72_56, ↓r_72_57, ↓r_72_58, ↓r_72_59, ↓s_103, ↓s_104, ↓s_105, ↓s_106, ↓s_107, ↓s_74, i_lit, i_add, i_sub, i_mul, i_neg, i_lt, i_le, i_eq, i32_gI, i64_gJ, i32_id, i32_to, i64_to, sI_i32, sJ_i64, b01_t, b01_f, i32_b01, b01_0, ↓a_s0, ↓n_s0, ↓a_s1, ↓n_s1, Int.add_zero, t_lt, f_lt, t_le, f_le, t_eq, f_eq, true_and, and_true, false_and, and_false, and_self, ↓reduceIte, z_bool_of, or_true, true_or, or_false, false_or, Int.neg_neg, not_true_eq_false, not_false_eq_true, lg_lt, lg_le, lg_gt, lg_ge, lg_eq, j_lit, j_add, j_sub, j_mul, j_neg, j_eq, i64_id, ij, ji, z_rt, Nat.reduceEqDiff, Nat.reduceAdd, Int.reduceAdd, Int.reduceSub, Int.reduceMul, Int.reduceNeg, Int.reduceLT, Int.reduceLE, Int.reduceEq, q]
abbrev L232 (w s : Int) (x3 x4 : Option Value) : zL := [some (.ref 72), some (.int (Int32.ofInt w)), some (.int (Int32.ofInt s)), x3, x4]
/-- where one is then -/
theorem l232c {n w s v : Int} (hn2 : 1 ≤ n ∧ n ≤ 200) : ∀ (c : Nat) (k : Int) (S : zS), k + c = n + 1 → 0 ≤ k → gI S 72 51 = n → (∀ i, 0 ≤ i → i ≤ n → gI S 106 i = 0 ∨ gI S 106 i = 1) → z_ev X d (232, 96, L232 w s (vI v) (vI k), [], mk S) = z_ev X d (232, 125, L232 w s (vI v) (vI (n + 1)), [], mk (sF S 105 k (n + 1) (gI S 106))) := by
  intro c
  induction c with
  | zero =>
    intro k S hc hk h51 h6
    have : k = n + 1 := by omega
    subst this
    rw [sF_nil (by omega), B232_96]
    simp (disch := first | omega | assumption | exact b01_rng _ | exact st_5 | exact st_12 | exact st_19 | (simp only [isSt_sI, isSt_sJ, isSt_sF, isSt_sG, isSt_sA]; assumption)) only [↓a_103, ↓a_104, ↓a_105, ↓a_106, ↓a_107, ↓a_74, ↓n_103, ↓n_104, ↓n_105, ↓n_106, ↓n_107, ↓n_74, ↓o_72, ↓r_72_3, ↓r_72_51, ↓r_72_55, ↓r_72_56, ↓r_72_57, ↓r_72_58, ↓r_72_59, ↓s_103, ↓s_104, ↓s_105, ↓s_106, ↓s_107, ↓s_74, i_lit, i_add, i_sub, i_mul, i_neg, i_lt, i_le, i_eq, i32_gI, i64_gJ, i32_id, i32_to, i64_to, sI_i32, sJ_i64, b01_t, b01_f, i32_b01, b01_0, ↓a_s0, ↓n_s0, ↓a_s1, ↓n_s1, Int.add_zero, t_lt, f_lt, t_le, f_le, t_eq, f_eq, true_and, and_true, false_and, and_false, and_self, ↓reduceIte, z_bool_of, or_true, true_or, or_false, false_or, Int.neg_neg, not_true_eq_false, not_false_eq_true, lg_lt, lg_le, lg_gt, lg_ge, lg_eq, j_lit, j_add, j_sub, j_mul, j_neg, j_eq, i64_id, ij, ji, z_rt, Nat.reduceEqDiff, Nat.reduceAdd, Int.reduceAdd, Int.reduceSub, Int.reduceMul, Int.reduceNeg, Int.reduceLT, Int.reduceLE, Int.reduceEq, h51]
  | succ c ih =>
    intro k S hc hk h51 h6
    have hb := h6 k hk (by omega)
    have e := ih (k + 1) (sI S 105 k (gI S 106 k)) (by omega) (by omega) (by rw [gI_sI, if_neg (by omega)]; exact h51) (fun i q1 q2 => by rw [gI_sI, if_neg (by omega)]; exact h6 i q1 q2)
    rw [show gI (sI S 105 k (gI S 106 k)) 106 = gI S 106 from funext fun i => by rw [gI_sI, if_neg (by omega)], sF_step (S := S) (a := 105) (lo := k) (hi := n + 1) (x := gI S 106 k) (f := gI S 106) (by omega) rfl] at e
    rw [← e, B232_96]
    simp (disch := first | omega | assumption | exact b01_rng _ | exact st_5 | exact st_12 | exact st_19 | (simp only [isSt_sI, isSt_sJ, isSt_sF, isSt_sG, isSt_sA]; assumption)) only [↓B232_105, ↓a_103, ↓a_104, ↓a_105, ↓a_106, ↓a_107, ↓a_74, ↓n_103, ↓n_104, ↓n_105, ↓n_106, ↓n_107, ↓n_74, ↓o_72, ↓r_72_3, ↓r_72_51, ↓r_72_55, ↓r_72_56, ↓r_72_57, ↓r_72_58, ↓r_72_59, ↓s_103, ↓s_104, ↓s_105, ↓s_106, ↓s_107, ↓s_74, i_lit, i_add, i_sub, i_mul, i_neg, i_lt, i_le, i_eq, i32_gI, i64_gJ, i32_id, i32_to, i64_to, sI_i32, sJ_i64, b01_t, b01_f, i32_b01, b01_0, ↓a_s0, ↓n_s0, ↓a_s1, ↓n_s1, Int.add_zero, t_lt, f_lt, t_le, f_le, t_eq, f_eq, true_and, and_true, false_and, and_false, and_self, ↓reduceIte, z_bool_of, or_true, true_or, or_false, false_or, Int.neg_neg, not_true_eq_false, not_false_eq_true, lg_lt, lg_le, lg_gt, lg_ge, lg_eq, j_lit, j_add, j_sub, j_mul, j_neg, j_eq, i64_id, ij, ji, z_rt, Nat.reduceEqDiff, Nat.reduceAdd, Int.reduceAdd, Int.reduceSub, Int.reduceMul, Int.reduceNeg, Int.reduceLT, Int.reduceLE, Int.reduceEq, h51]
    rw [if_pos hb]
/-- the first way that goes on -/
theorem l232v (hd : 1 < d) (hB : PrB E f M 100000000) (hn : 0 ≤ E.1 ∧ E.1 ≤ 20) {S0 : zS} {n s w v0 : Int} (hn2 : 1 ≤ n ∧ n ≤ 200) (hL : Laid S0 E f n) (hR : LfR S0 E f n (-1) n) (h5 : B0 S0 105 n) (hs : 0 ≤ s ∧ s < E.1) (hw : 0 ≤ w ∧ w ≤ 100000000) (hv0 : 0 ≤ v0 ∧ v0 ≤ 2) (he : ∃ k, ThS E f S0 n s v0 w k) {x4 : Option Value} : ∀ (c : Nat) (v : Int) (S : zS), v + c = v0 → 0 ≤ v → FrRb S0 S → (∀ b i, b ≠ 106 → gI S b i = gI S0 b i) → (∀ u, 0 ≤ u → u < v → ∀ k, ¬ ThS E f S0 n s u w k) → ∃ (S' : zS) (v' : Int), z_ev X d (232, 57, L232 w s (vI v) x4, [], mk S) = z_ev X d (232, 73, L232 w s (vI v') x4, [], mk S') ∧ (0 ≤ v' ∧ v' ≤ 2) ∧ FrRb S0 S' ∧ (∀ b i, b ≠ 106 → gI S' b i = gI S0 b i) ∧ (∀ u, 0 ≤ u → u < v' → ∀ k, ¬ ThS E f S0 n s u w k) ∧ (∃ k, ThS E f S0 n s v' w k) ∧ ∀ k, 0 ≤ k → k ≤ n → (gI S' 106 k = 1 ∧ ThS E f S0 n s v' w k) ∨ (gI S' 106 k = 0 ∧ ¬ ThS E f S0 n s v' w k) := by
  intro c
  induction c with
  | zero =>
    intro v S hc hv hF hk hno
    have : v = v0 := by omega
    subst this
    have h5S : B0 S 105 n := fun k q1 q2 => by rw [hk 105 k (by omega)]; exact h5 k q1 q2
    have e105 : gI S 105 = gI S0 105 := funext fun i => hk 105 i (by omega)
    have elf : lfS S = lfS S0 := funext fun a => funext fun b => hk 104 _ (by omega)
    have eT : ∀ u k, ThS E f S n s u w k ↔ ThS E f S0 n s u w k := fun u k => by unfold ThS Sb; rw [hF.ua, e105, elf]
    obtain ⟨S', r, w1, w2, w3, w4, w5⟩ := x231 (X := X) (d := 1) (by omega) hB hn hn2 (hL.rb hF) (fun s' t' q1 q2 q3 q4 => by rw [hF.ua, hk 104 _ (by omega)]; exact hR s' t' q1 q2 q3 q4) h5S hs ⟨hv, hv0.2⟩ hw
    have ev := fun {cm cp : Nat} {L : zL} {st : List Value} => evI (X := X) (d := d) hd w1 (cm := cm) (cp := cp) (L := L) (st := st)
    have hr : r = 1 := by
      rcases w5 with ⟨z, -⟩ | ⟨-, z⟩
      · exact z
      · obtain ⟨k, hk1⟩ := he; exact absurd ((eT v k).mpr hk1) (z k)
    subst hr
    refine ⟨S', v, ?_, hv0, hF.tr w2, fun b i q => (w3 b i q).trans (hk b i q), hno, he, fun k q1 q2 => ?_⟩
    · rw [B232_57]
      simp (disch := first | omega | assumption | exact b01_rng _ | exact st_5 | exact st_12 | exact st_19 | (simp only [isSt_sI, isSt_sJ, isSt_sF, isSt_sG, isSt_sA]; assumption)) only [↓B232_64, ↓o_72, ev, i_lit, i_add, i_sub, i_mul, i_neg, i_lt, i_le, i_eq, i32_gI, i64_gJ, i32_id, i32_to, i64_to, sI_i32, sJ_i64, b01_t, b01_f, i32_b01, b01_0, ↓a_s0, ↓n_s0, ↓a_s1, ↓n_s1, Int.add_zero, t_lt, f_lt, t_le, f_le, t_eq, f_eq, true_and, and_true, false_and, and_false, and_self, ↓reduceIte, z_bool_of, or_true, true_or, or_false, false_or, Int.neg_neg, not_true_eq_false, not_false_eq_true, lg_lt, lg_le, lg_gt, lg_ge, lg_eq, j_lit, j_add, j_sub, j_mul, j_neg, j_eq, i64_id, ij, ji, z_rt, Nat.reduceEqDiff, Nat.reduceAdd, Int.reduceAdd, Int.reduceSub, Int.reduceMul, Int.reduceNeg, Int.reduceLT, Int.reduceLE, Int.reduceEq]
    · have := w4 k q1 q2
      rw [eT] at this; exact this
  | succ c ih =>
    intro v S hc hv hF hk hno
    have h5S : B0 S 105 n := fun k q1 q2 => by rw [hk 105 k (by omega)]; exact h5 k q1 q2
    have e105 : gI S 105 = gI S0 105 := funext fun i => hk 105 i (by omega)
    have elf : lfS S = lfS S0 := funext fun a => funext fun b => hk 104 _ (by omega)
    have eT : ∀ u k, ThS E f S n s u w k ↔ ThS E f S0 n s u w k := fun u k => by unfold ThS Sb; rw [hF.ua, e105, elf]
    obtain ⟨S1, r, w1, w2, w3, w4, w5⟩ := x231 (X := X) (d := 1) (by omega) hB hn hn2 (hL.rb hF) (fun s' t' q1 q2 q3 q4 => by rw [hF.ua, hk 104 _ (by omega)]; exact hR s' t' q1 q2 q3 q4) h5S hs (v := v) ⟨hv, by omega⟩ hw
    have ev := fun {cm cp : Nat} {L : zL} {st : List Value} => evI (X := X) (d := d) hd w1 (cm := cm) (cp := cp) (L := L) (st := st)
    rcases w5 with ⟨rfl, k0, hk0⟩ | ⟨rfl, z⟩
    · refine ⟨S1, v, ?_, ⟨hv, by omega⟩, hF.tr w2, fun b i q => (w3 b i q).trans (hk b i q), hno, ⟨k0, (eT v k0).mp hk0⟩, fun k q1 q2 => ?_⟩
      · rw [B232_57]
        simp (disch := first | omega | assumption | exact b01_rng _ | exact st_5 | exact st_12 | exact st_19 | (simp only [isSt_sI, isSt_sJ, isSt_sF, isSt_sG, isSt_sA]; assumption)) only [↓B232_64, ↓o_72, ev, i_lit, i_add, i_sub, i_mul, i_neg, i_lt, i_le, i_eq, i32_gI, i64_gJ, i32_id, i32_to, i64_to, sI_i32, sJ_i64, b01_t, b01_f, i32_b01, b01_0, ↓a_s0, ↓n_s0, ↓a_s1, ↓n_s1, Int.add_zero, t_lt, f_lt, t_le, f_le, t_eq, f_eq, true_and, and_true, false_and, and_false, and_self, ↓reduceIte, z_bool_of, or_true, true_or, or_false, false_or, Int.neg_neg, not_true_eq_false, not_false_eq_true, lg_lt, lg_le, lg_gt, lg_ge, lg_eq, j_lit, j_add, j_sub, j_mul, j_neg, j_eq, i64_id, ij, ji, z_rt, Nat.reduceEqDiff, Nat.reduceAdd, Int.reduceAdd, Int.reduceSub, Int.reduceMul, Int.reduceNeg, Int.reduceLT, Int.reduceLE, Int.reduceEq]
      · have := w4 k q1 q2
        rw [eT] at this; exact this
    · obtain ⟨S', v', u1, u2⟩ := ih (v + 1) S1 (by omega) (by omega) (hF.tr w2) (fun b i q => (w3 b i q).trans (hk b i q)) (fun u q1 q2 k hk1 => by
        by_cases e : u = v
        · subst e; exact z k ((eT u k).mpr hk1)
        · exact hno u q1 (by omega) k hk1)
      refine ⟨S', v', ?_, u2⟩
      rw [← u1, B232_57]
      simp (disch := first | omega | assumption | exact b01_rng _ | exact st_5 | exact st_12 | exact st_19 | (simp only [isSt_sI, isSt_sJ, isSt_sF, isSt_sG, isSt_sA]; assumption)) only [↓B232_64, ↓B232_67, ↓o_72, ev, i_lit, i_add, i_sub, i_mul, i_neg, i_lt, i_le, i_eq, i32_gI, i64_gJ, i32_id, i32_to, i64_to, sI_i32, sJ_i64, b01_t, b01_f, i32_b01, b01_0, ↓a_s0, ↓n_s0, ↓a_s1, ↓n_s1, Int.add_zero, t_lt, f_lt, t_le, f_le, t_eq, f_eq, true_and, and_true, false_and, and_false, and_self, ↓reduceIte, z_bool_of, or_true, true_or, or_false, false_or, Int.neg_neg, not_true_eq_false, not_false_eq_true, lg_lt, lg_le, lg_gt, lg_ge, lg_eq, j_lit, j_add, j_sub, j_mul, j_neg, j_eq, i64_id, ij, ji, z_rt, Nat.reduceEqDiff, Nat.reduceAdd, Int.reduceAdd, Int.reduceSub, Int.reduceMul, Int.reduceNeg, Int.reduceLT, Int.reduceLE, Int.reduceEq]
/-- what was read so far -/
def RbS (E : Ln) (f : Int → Int → Int) (S0 S : zS) (n l s w : Int) (pre : List Int) : Prop := FrRb S0 S ∧ B0 S 105 n ∧ Gd E f 100000000 (UA S0 n) n (lfS S0) l (Sb S 105 n) s w pre ∧ ∀ (j : Nat) (v : Int), pre[j]? = some v → gI S 107 j = v
theorem t232 (hd : 1 < d) (hB : PrB E f M 100000000) (hn : 0 ≤ E.1 ∧ E.1 ≤ 20) {S0 S : zS} {n l s w : Int} {pre : List Int} (hn2 : 1 ≤ n ∧ n ≤ 200) (hL : Laid S0 E f n) (hR : LfR S0 E f n (-1) n) (hs : 0 ≤ s ∧ s < E.1) (hG : RbS E f S0 S n l s w pre) {x3 x4 : Option Value} : ∃ (S' : zS) (v : Int) (y3 y4 : Option Value), z_ev X d (232, 39, L232 w s x3 x4, [], mk S) = z_ev X d (232, 39, L232 (w - f s v) (s + 1) y3 y4, [], mk S') ∧ RbS E f S0 S' n l (s + 1) (w - f s v) (pre ++ [v]) := by
  obtain ⟨r1, r2, r3, r4⟩ := hG
  have hLS := hL.rb r1
  have hua := r1.ua (n := n)
  have elf : lfS S = lfS S0 := funext fun a => funext fun b => r1.2.1 104 _ (by omega)
  have hRS : LfR S E f n (-1) n := fun s' t' q1 q2 q3 q4 => by rw [hua, r1.2.1 104 _ (by omega)]; exact hR s' t' q1 q2 q3 q4
  have hw : 0 ≤ w ∧ w ≤ 100000000 := by
    obtain ⟨k, hk⟩ := r3.2.1
    obtain ⟨k1, k2⟩ := r3.2.2.1 k hk
    have := hR.bd (s := s) (t := k) ⟨hs.1, by omega⟩ k1
    omega
  obtain ⟨S1, c1, c2, c3, c4, c5⟩ := x229 (X := X) (d := 1) (by omega) hn hn2 hLS hRS (s := s) (w := w) ⟨hs.1, by omega⟩ hw r2 (fun k hk => by rw [elf]; exact (r3.2.2.1 k hk).2)
  rw [hua, elf] at c5
  have hU : ∀ k o, (UA S0 n).1 k o → 0 ≤ k ∧ k < o ∧ o ≤ n := fun k o h => h.1
  obtain ⟨v0, hv0, k0, hk0⟩ := Gd.ex hU hR.lfp r3 hs c5
  have hF1 := r1.tr c2
  have hLS1 := hL.rb hF1
  have hua1 := hF1.ua (n := n)
  have elf1 : lfS S1 = lfS S0 := funext fun a => funext fun b => hF1.2.1 104 _ (by omega)
  have hRS1 : LfR S1 E f n (-1) n := fun s' t' q1 q2 q3 q4 => by rw [hua1, hF1.2.1 104 _ (by omega)]; exact hR s' t' q1 q2 q3 q4
  have eT : ∀ u k, ThS E f S1 n s u w k ↔ Thn E f (UA S0 n) n (lfS S0) (Sb S1 105 n) s u w k := fun u k => by unfold ThS; rw [hua1, elf1]
  obtain ⟨S2, v, e1, e2, e3, e4, e5, e6, e7⟩ := l232v (X := X) (d := d) hd hB hn hn2 hLS1 hRS1 c3 hs hw hv0 ⟨k0, (eT v0 k0).mpr hk0⟩ (x4 := x4) v0.toNat 0 S1 (by omega) (by omega) FrRb.rf (fun _ _ _ => rfl) (fun u q1 q2 => by omega)
  have hst := Gd.step hU hR.lfp (fun p v h => (hB.2.1 p v h).1) r3 hs c5 (v := v) (by obtain ⟨k, hk⟩ := e6; exact ⟨k, (eT v k).mp hk⟩) (fun u q1 q2 k hk => e5 u q1 q2 k ((eT u k).mpr hk))
  have hcan : E.2.2 s v := by obtain ⟨k, hk⟩ := e6; exact hk.2.2.1
  have hpr := hL.2.2.2.2.1 s v hs.1 hs.2 e2.1 e2.2
  have hf := hpr.1.2.1 ⟨hs.2, hcan⟩
  have hfb := hB.2.1 s v hcan
  have hF2 := hF1.tr e3
  have e103 : gI S2 103 (3 * s + v) = f s v := by rw [hF2.2.1 103 _ (by omega)]; exact hf.symm
  obtain ⟨S3, hS3⟩ : ∃ S3 : zS, S3 = sI S2 107 s v := ⟨_, rfl⟩
  have f3 : FrRb S2 S3 := by rw [hS3]; exact FrRb.I (by omega)
  have k3 : ∀ b i, b ≠ 107 → gI S3 b i = gI S2 b i := fun b i q => by rw [hS3, gI_sI, if_neg (fun z => q z.1)]
  have h51 : gI S3 72 51 = n := by rw [k3 72 _ (by omega), hF2.2.1 72 51 (by omega)]; exact hL.2.1
  have cpy := l232c (X := X) (d := d) (w := w - f s v) (s := s) (v := v) hn2 (n + 1).toNat 0 S3 (by omega) (by omega) h51 (fun i q1 q2 => by
    rw [k3 106 _ (by omega)]
    rcases e7 i q1 q2 with z | z
    · exact Or.inr z.1
    · exact Or.inl z.1)
  have hlw : f s v ≤ w := by
    obtain ⟨k, hk⟩ := e6
    have h1 := hk.2.2.2
    have := hRS1.bd (s := s + 1) (t := k) ⟨by omega, by omega⟩ hk.1
    omega
  refine ⟨sF S3 105 0 (n + 1) (gI S3 106), v, vI v, vI (n + 1), ?_, (hF2.tr f3).tr (FrRb.F (by omega)), fun k q1 q2 => ?_, hst.cg (fun k => ?_), fun j u hj => ?_⟩
  · have ev := fun {cm cp : Nat} {L : zL} {st : List Value} => evV (X := X) (d := d) hd c1 (cm := cm) (cp := cp) (L := L) (st := st)
    have h0 : gI S 74 0 = E.1 := hLS.1
    have a1 : z_ev X d (232, 39, L232 w s x3 x4, [], mk S) = z_ev X d (232, 57, L232 w s (vI 0) x4, [], mk S1) := by
      rw [B232_39]
      simp (disch := first | omega | assumption | exact b01_rng _ | exact st_5 | exact st_12 | exact st_19 | (simp only [isSt_sI, isSt_sJ, isSt_sF, isSt_sG, isSt_sA]; assumption)) only [↓B232_49, ↓B232_55, ↓a_103, ↓a_104, ↓a_105, ↓a_106, ↓a_107, ↓a_74, ↓n_103, ↓n_104, ↓n_105, ↓n_106, ↓n_107, ↓n_74, ↓o_72, ↓r_72_3, ↓r_72_51, ↓r_72_55, ↓r_72_56, ↓r_72_57, ↓r_72_58, ↓r_72_59, ↓s_103, ↓s_104, ↓s_105, ↓s_106, ↓s_107, ↓s_74, ↓o_72, ev, i_lit, i_add, i_sub, i_mul, i_neg, i_lt, i_le, i_eq, i32_gI, i64_gJ, i32_id, i32_to, i64_to, sI_i32, sJ_i64, b01_t, b01_f, i32_b01, b01_0, ↓a_s0, ↓n_s0, ↓a_s1, ↓n_s1, Int.add_zero, t_lt, f_lt, t_le, f_le, t_eq, f_eq, true_and, and_true, false_and, and_false, and_self, ↓reduceIte, z_bool_of, or_true, true_or, or_false, false_or, Int.neg_neg, not_true_eq_false, not_false_eq_true, lg_lt, lg_le, lg_gt, lg_ge, lg_eq, j_lit, j_add, j_sub, j_mul, j_neg, j_eq, i64_id, ij, ji, z_rt, Nat.reduceEqDiff, Nat.reduceAdd, Int.reduceAdd, Int.reduceSub, Int.reduceMul, Int.reduceNeg, Int.reduceLT, Int.reduceLE, Int.reduceEq, h0]
    have a2 : z_ev X d (232, 73, L232 w s (vI v) x4, [], mk S2) = z_ev X d (232, 96, L232 (w - f s v) s (vI v) (vI 0), [], mk S3) := by
      have e103' : gI (sI S2 107 s v) 103 (3 * s + v) = f s v := by rw [gI_sI, if_neg (by omega)]; exact e103
      rw [hS3, B232_73]
      simp (disch := first | omega | assumption | exact b01_rng _ | exact st_5 | exact st_12 | exact st_19 | (simp only [isSt_sI, isSt_sJ, isSt_sF, isSt_sG, isSt_sA]; assumption)) only [↓a_103, ↓a_104, ↓a_105, ↓a_106, ↓a_107, ↓a_74, ↓n_103, ↓n_104, ↓n_105, ↓n_106, ↓n_107, ↓n_74, ↓o_72, ↓r_72_3, ↓r_72_51, ↓r_72_55, ↓r_72_56, ↓r_72_57, ↓r_72_58, ↓r_72_59, ↓s_103, ↓s_104, ↓s_105, ↓s_106, ↓s_107, ↓s_74, i_lit, i_add, i_sub, i_mul, i_neg, i_lt, i_le, i_eq, i32_gI, i64_gJ, i32_id, i32_to, i64_to, sI_i32, sJ_i64, b01_t, b01_f, i32_b01, b01_0, ↓a_s0, ↓n_s0, ↓a_s1, ↓n_s1, Int.add_zero, t_lt, f_lt, t_le, f_le, t_eq, f_eq, true_and, and_true, false_and, and_false, and_self, ↓reduceIte, z_bool_of, or_true, true_or, or_false, false_or, Int.neg_neg, not_true_eq_false, not_false_eq_true, lg_lt, lg_le, lg_gt, lg_ge, lg_eq, j_lit, j_add, j_sub, j_mul, j_neg, j_eq, i64_id, ij, ji, z_rt, Nat.reduceEqDiff, Nat.reduceAdd, Int.reduceAdd, Int.reduceSub, Int.reduceMul, Int.reduceNeg, Int.reduceLT, Int.reduceLE, Int.reduceEq, e103']
    rw [a1, e1, a2, cpy]
    simp (disch := first | omega | assumption | exact b01_rng _ | exact st_5 | exact st_12 | exact st_19 | (simp only [isSt_sI, isSt_sJ, isSt_sF, isSt_sG, isSt_sA]; assumption)) only [↓B232_125, i_lit, i_add, i_sub, i_mul, i_neg, i_lt, i_le, i_eq, i32_gI, i64_gJ, i32_id, i32_to, i64_to, sI_i32, sJ_i64, b01_t, b01_f, i32_b01, b01_0, ↓a_s0, ↓n_s0, ↓a_s1, ↓n_s1, Int.add_zero, t_lt, f_lt, t_le, f_le, t_eq, f_eq, true_and, and_true, false_and, and_false, and_self, ↓reduceIte, z_bool_of, or_true, true_or, or_false, false_or, Int.neg_neg, not_true_eq_false, not_false_eq_true, lg_lt, lg_le, lg_gt, lg_ge, lg_eq, j_lit, j_add, j_sub, j_mul, j_neg, j_eq, i64_id, ij, ji, z_rt, Nat.reduceEqDiff, Nat.reduceAdd, Int.reduceAdd, Int.reduceSub, Int.reduceMul, Int.reduceNeg, Int.reduceLT, Int.reduceLE, Int.reduceEq]
  · rw [gI_sF, if_pos ⟨rfl, by omega, by omega⟩, i32_gI, k3 106 _ (by omega)]
    rcases e7 k q1 q2 with z | z
    · exact Or.inr z.1
    · exact Or.inl z.1
  · constructor
    · rintro ⟨z1, z2⟩
      rw [gI_sF, if_pos ⟨rfl, by omega, by omega⟩, i32_gI, k3 106 _ (by omega)] at z2
      rcases e7 k z1.1 z1.2 with z | z
      · exact (eT v k).mp z.2
      · rw [z.1] at z2; omega
    · intro z
      refine ⟨z.1, ?_⟩
      have zb := z.1
      rw [gI_sF, if_pos ⟨rfl, by omega, by omega⟩, i32_gI, k3 106 _ (by omega)]
      rcases e7 k zb.1 zb.2 with y | y
      · exact y.1
      · exact absurd ((eT v k).mpr z) y.2
  · rw [gI_sF, if_neg (by omega), hS3, gI_sI]
    have hlen : (pre.length : Int) = s := r3.1
    by_cases q : j < pre.length
    · rw [List.getElem?_append_left q] at hj
      rw [if_neg (by omega), e4 107 _ (by omega), c4 107 _ (by omega)]
      exact r4 j u hj
    · have hjl := (List.getElem?_eq_some_iff.mp hj).1
      rw [List.length_append] at hjl
      have hjl' : j < pre.length + 1 := hjl
      have e : j = pre.length := by omega
      subst e
      rw [List.getElem?_append_right (Nat.le_refl _), Nat.sub_self] at hj
      have : v = u := Option.some.inj hj
      rw [if_pos ⟨rfl, hlen⟩, i32_id (by omega) (by omega)]
      exact this
theorem l232 (hd : 1 < d) (hB : PrB E f M 100000000) (hn : 0 ≤ E.1 ∧ E.1 ≤ 20) {S0 : zS} {n l : Int} (hn2 : 1 ≤ n ∧ n ≤ 200) (hL : Laid S0 E f n) (hR : LfR S0 E f n (-1) n) : ∀ (c : Nat) (s w : Int) (S : zS) (pre : List Int) (x3 x4 : Option Value), s + c = E.1 → 0 ≤ s → RbS E f S0 S n l s w pre → ∃ (S' : zS) (w' : Int) (pre' : List Int), z_ev X d (232, 39, L232 w s x3 x4, [], mk S) = some (none, mk S') ∧ RbS E f S0 S' n l E.1 w' pre' := by
  intro c
  induction c with
  | zero =>
    intro s w S pre x3 x4 hc hs hG
    have : s = E.1 := by omega
    subst this
    have h0 : gI S 74 0 = E.1 := (hL.rb hG.1).1
    refine ⟨S, w, pre, ?_, hG⟩
    rw [B232_39]
    simp (disch := first | omega | assumption | exact b01_rng _ | exact st_5 | exact st_12 | exact st_19 | (simp only [isSt_sI, isSt_sJ, isSt_sF, isSt_sG, isSt_sA]; assumption)) only [↓B232_131, ↓a_103, ↓a_104, ↓a_105, ↓a_106, ↓a_107, ↓a_74, ↓n_103, ↓n_104, ↓n_105, ↓n_106, ↓n_107, ↓n_74, ↓o_72, ↓r_72_3, ↓r_72_51, ↓r_72_55, ↓r_72_56, ↓r_72_57, ↓r_72_58, ↓r_72_59, ↓s_103, ↓s_104, ↓s_105, ↓s_106, ↓s_107, ↓s_74, i_lit, i_add, i_sub, i_mul, i_neg, i_lt, i_le, i_eq, i32_gI, i64_gJ, i32_id, i32_to, i64_to, sI_i32, sJ_i64, b01_t, b01_f, i32_b01, b01_0, ↓a_s0, ↓n_s0, ↓a_s1, ↓n_s1, Int.add_zero, t_lt, f_lt, t_le, f_le, t_eq, f_eq, true_and, and_true, false_and, and_false, and_self, ↓reduceIte, z_bool_of, or_true, true_or, or_false, false_or, Int.neg_neg, not_true_eq_false, not_false_eq_true, lg_lt, lg_le, lg_gt, lg_ge, lg_eq, j_lit, j_add, j_sub, j_mul, j_neg, j_eq, i64_id, ij, ji, z_rt, Nat.reduceEqDiff, Nat.reduceAdd, Int.reduceAdd, Int.reduceSub, Int.reduceMul, Int.reduceNeg, Int.reduceLT, Int.reduceLE, Int.reduceEq, h0]
  | succ c ih =>
    intro s w S pre x3 x4 hc hs hG
    obtain ⟨S1, v, y3, y4, e1, e2⟩ := t232 (X := X) (d := d) hd hB hn hn2 hL hR ⟨hs, by omega⟩ hG (x3 := x3) (x4 := x4)
    obtain ⟨S', w', pre', u1, u2⟩ := ih (s + 1) (w - f s v) S1 (pre ++ [v]) y3 y4 (by omega) (by omega) e2
    exact ⟨S', w', pre', by rw [e1]; exact u1, u2⟩
/-- the line, as it is read best -/
theorem x232 (hd : 1 < d) (hB : PrB E f M 100000000) (hn : 0 ≤ E.1 ∧ E.1 ≤ 20) {S : zS} {n : Int} (hn2 : 1 ≤ n ∧ n ≤ 200) (hL : Laid S E f n) (hR : LfR S E f n (-1) n) (hl : gI S 104 0 < 100000000) : ∃ (S' : zS) (pre : List Int), z_ev X d (z_entry 232 [.ref 72] (mk S)) = some (none, mk S') ∧ FrRb S S' ∧ Rd E (gL (UA S n) 0) 0 pre ∧ ct f 0 pre = gI S 104 0 ∧ (∀ us, Rd E (gL (UA S n) 0) 0 us → ct f 0 us = gI S 104 0 → lxl pre us) ∧ ∀ (j : Nat) (v : Int), pre[j]? = some v → gI S' 107 j = v := by
  obtain ⟨S1, hS1⟩ : ∃ S1 : zS, S1 = sF S 105 0 201 (fun i => if i = 0 then 1 else 0) := ⟨_, rfl⟩
  have f1 : FrRb S S1 := by rw [hS1]; exact FrRb.F (by omega)
  have g5 : ∀ k, 0 ≤ k → k ≤ n → gI S1 105 k = if k = 0 then 1 else 0 := fun k q1 q2 => by
    rw [hS1, gI_sF, if_pos ⟨rfl, by omega, by omega⟩]
    split <;> rfl
  have hini : RbS E f S S1 n (gI S 104 0) 0 (gI S 104 0) [] := by
    refine ⟨f1, fun k q1 q2 => by rw [g5 k q1 q2]; split <;> omega, (Gd.ini (by omega) rfl hl).cg (fun k => ?_), fun j v hj => by cases hj⟩
    constructor
    · rintro ⟨z1, z2⟩
      rw [g5 k z1.1 z1.2] at z2
      by_cases q : k = 0
      · exact q
      · rw [if_neg q] at z2; omega
    · intro z
      have : k = 0 := z
      subst this
      exact ⟨⟨by omega, by omega⟩, by rw [g5 0 (by omega) (by omega), if_pos rfl]⟩
  obtain ⟨S', w', pre, u1, u2, u3, u4, u5⟩ := l232 (X := X) (d := d) hd hB hn hn2 hL hR E.1.toNat 0 (gI S 104 0) S1 [] none none (by omega) (by omega) hini
  obtain ⟨v1, v2, v3⟩ := Gd.fin hR.lfp hn.1 u4
  refine ⟨S', pre, ?_, u2, v1, v2, v3, u5⟩
  rw [← u1]
  have h104 : gI S1 104 0 = gI S 104 0 := f1.2.1 104 0 (by omega)
  have a0 : z_ev X d (z_entry 232 [.ref 72] (mk S)) = z_ev X d (232, 2, [some (.ref 72), some (.int (Int32.ofInt 0)), none, none, none], [], mk S) := by
    show z_ev X d (232, 0, [some (.ref 72), none, none, none, none], [], mk S) = _
    simp (disch := first | omega | assumption | exact b01_rng _ | exact st_5 | exact st_12 | exact st_19 | (simp only [isSt_sI, isSt_sJ, isSt_sF, isSt_sG, isSt_sA]; assumption)) only [↓B232_0, i_lit, i_add, i_sub, i_mul, i_neg, i_lt, i_le, i_eq, i32_gI, i64_gJ, i32_id, i32_to, i64_to, sI_i32, sJ_i64, b01_t, b01_f, i32_b01, b01_0, ↓a_s0, ↓n_s0, ↓a_s1, ↓n_s1, Int.add_zero, t_lt, f_lt, t_le, f_le, t_eq, f_eq, true_and, and_true, false_and, and_false, and_self, ↓reduceIte, z_bool_of, or_true, true_or, or_false, false_or, Int.neg_neg, not_true_eq_false, not_false_eq_true, lg_lt, lg_le, lg_gt, lg_ge, lg_eq, j_lit, j_add, j_sub, j_mul, j_neg, j_eq, i64_id, ij, ji, z_rt, Nat.reduceEqDiff, Nat.reduceAdd, Int.reduceAdd, Int.reduceSub, Int.reduceMul, Int.reduceNeg, Int.reduceLT, Int.reduceLE, Int.reduceEq]
  rw [a0, l232a 201 0 S (by omega) (by omega), ← hS1, B232_30]
  simp (disch := first | omega | assumption | exact b01_rng _ | exact st_5 | exact st_12 | exact st_19 | (simp only [isSt_sI, isSt_sJ, isSt_sF, isSt_sG, isSt_sA]; assumption)) only [↓a_103, ↓a_104, ↓a_105, ↓a_106, ↓a_107, ↓a_74, ↓n_103, ↓n_104, ↓n_105, ↓n_106, ↓n_107, ↓n_74, ↓o_72, ↓r_72_3, ↓r_72_51, ↓r_72_55, ↓r_72_56, ↓r_72_57, ↓r_72_58, ↓r_72_59, ↓s_103, ↓s_104, ↓s_105, ↓s_106, ↓s_107, ↓s_74, i_lit, i_add, i_sub, i_mul, i_neg, i_lt, i_le, i_eq, i32_gI, i64_gJ, i32_id, i32_to, i64_to, sI_i32, sJ_i64, b01_t, b01_f, i32_b01, b01_0, ↓a_s0, ↓n_s0, ↓a_s1, ↓n_s1, Int.add_zero, t_lt, f_lt, t_le, f_le, t_eq, f_eq, true_and, and_true, false_and, and_false, and_self, ↓reduceIte, z_bool_of, or_true, true_or, or_false, false_or, Int.neg_neg, not_true_eq_false, not_false_eq_true, lg_lt, lg_le, lg_gt, lg_ge, lg_eq, j_lit, j_add, j_sub, j_mul, j_neg, j_eq, i64_id, ij, ji, z_rt, Nat.reduceEqDiff, Nat.reduceAdd, Int.reduceAdd, Int.reduceSub, Int.reduceMul, Int.reduceNeg, Int.reduceLT, Int.reduceLE, Int.reduceEq, h104]
end
