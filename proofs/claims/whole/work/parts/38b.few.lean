/-! few, the reference's side, and in pairs -/
theorem l258b {X : zX} {d : Nat} {v2 v4 : Int32} {s k : Int} (hk : 1 ≤ k ∧ k ≤ 20) (hs : 0 ≤ s ∧ s ≤ 10) {F G : Int → Int} (hF : ∀ i, 0 ≤ F i ∧ F i ≤ 1000000000000) (hG : ∀ i, G i = F i * (10 - s) / 10 + (if i = 0 then 0 else F (i - 1) * s / 10)) {B : Int} (hB : B ≤ 100000000000000) : ∀ (n : Nat) (j : Int) (x6 : Option Value) (S : zS), j + 1 = n → j < k → (∀ i, 0 ≤ i → i ≤ j → gJ S 110 i = F i) → (j + 1 < k → gJ S 110 (j + 1) = F (j + 1) * (10 - s) / 10) → (∀ i, j + 2 ≤ i → i < k → gJ S 110 i = G i) → (0 ≤ gJ S 110 k ∧ gJ S 110 k ≤ (if j + 1 = k then B else B + 1000000000000)) → ∃ (S' : zS) (x5 : Int32) (x6' : Option Value), z_ev X d (258, 86, [some (.ref 72), some (.int (Int32.ofInt k)), some (.int v2), some (.int (Int32.ofInt s)), some (.int v4), some (.int (Int32.ofInt j)), x6, none], [], mk S) = z_ev X d (258, 146, [some (.ref 72), some (.int (Int32.ofInt k)), some (.int v2), some (.int (Int32.ofInt s)), some (.int v4), some (.int x5), x6', none], [], mk S') ∧ (∀ i, 0 ≤ i → i < k → gJ S' 110 i = G i) ∧ (0 ≤ gJ S' 110 k ∧ gJ S' 110 k ≤ B + 1000000000000) ∧ (∀ a i, gI S' a i = gI S a i) ∧ (∀ a i, a ≠ 110 → gJ S' a i = gJ S a i) ∧ (∀ a i, gQ S' a i = gQ S a i) ∧ Dyn S S' := by
  intro n
  induction n with
  | zero =>
    intro j x6 S h0 h1 hf hm hg hb
    have hj : j = -1 := by omega
    subst hj
    refine ⟨S, Int32.ofInt (-1), x6, ?_, fun i q1 q2 => ?_, ⟨hb.1, ?_⟩, fun _ _ => rfl, fun _ _ _ => rfl, fun _ _ => rfl, Dyn.rf⟩
    · rw [B258_86]; simp (disch := first | omega | assumption | exact b01_rng _ | exact st_5 | exact st_12 | exact st_19 | (simp only [isSt_sI, isSt_sJ, isSt_sF, isSt_sG, isSt_sA]; assumption)) only [i_lit, i_add, i_sub, i_mul, i_neg, i_lt, i_le, i_eq, i32_gI, i64_gJ, i32_id, i32_to, i64_to, sI_i32, sJ_i64, b01_t, b01_f, i32_b01, b01_0, ↓a_s0, ↓n_s0, ↓a_s1, ↓n_s1, Int.add_zero, t_lt, f_lt, t_le, f_le, t_eq, f_eq, true_and, and_true, false_and, and_false, and_self, ↓reduceIte, z_bool_of, or_true, true_or, or_false, false_or, Int.neg_neg, not_true_eq_false, not_false_eq_true, lg_lt, lg_le, lg_gt, lg_ge, lg_eq, j_lit, j_add, j_sub, j_mul, j_neg, j_eq, i64_id, ij, ji, z_rt, Nat.reduceEqDiff, Nat.reduceAdd, Int.reduceAdd, Int.reduceSub, Int.reduceMul, Int.reduceNeg, Int.reduceLT, Int.reduceLE, Int.reduceEq]
    · by_cases q : i = 0
      · subst q
        have := hm (by omega)
        rw [show (-1 : Int) + 1 = 0 by rfl] at this
        rw [this, hG, if_pos rfl, Int.add_zero]
      · exact hg i (by omega) q2
    · have := hb.2; split at this <;> omega
  | succ n ih =>
    intro j x6 S h0 h1 hf hm hg hb
    have f1 := hF j
    have e1 := hf j (by omega) (by omega)
    have a1 : 0 ≤ F j * (10 - s) := Int.mul_nonneg f1.1 (by omega)
    have a2 : F j * (10 - s) ≤ 1000000000000 * (10 - s) := Int.mul_le_mul_of_nonneg_right f1.2 (by omega)
    have b1 : 0 ≤ F j * s := Int.mul_nonneg f1.1 (by omega)
    have b2 : F j * s ≤ 1000000000000 * s := Int.mul_le_mul_of_nonneg_right f1.2 (by omega)
    have hnx : 0 ≤ gJ S 110 (j + 1) ∧ gJ S 110 (j + 1) ≤ 100000000000000 := by
      by_cases q : j + 1 < k
      · have f2 := hF (j + 1)
        have c1 : 0 ≤ F (j + 1) * (10 - s) := Int.mul_nonneg f2.1 (by omega)
        have c2 : F (j + 1) * (10 - s) ≤ 1000000000000 * (10 - s) := Int.mul_le_mul_of_nonneg_right f2.2 (by omega)
        rw [hm q]; omega
      · have : j + 1 = k := by omega
        rw [this]
        have h2 := hb.2
        rw [if_pos this] at h2
        omega
    have hgj := hG (j + 1)
    obtain ⟨S', x5, x6', g1, g2, g3, g4, g5, g6, g7⟩ := ih (j - 1) (some (.long (Int64.ofInt (F j)))) (sJ (sJ S 110 j (F j * (10 - s) / 10)) 110 (j + 1) (gJ S 110 (j + 1) + F j * s / 10)) (by omega) (by omega) (fun i q1 q2 => by rw [gJ_sJ, if_neg (by omega), gJ_sJ, if_neg (by omega)]; exact hf i q1 (by omega)) (fun q => by rw [show j - 1 + 1 = j by omega, gJ_sJ, if_neg (by omega), gJ_sJ, if_pos ⟨rfl, rfl⟩, i64_id (by omega) (by omega)]) (fun i q1 q2 => by
      by_cases q : i = j + 1
      · subst q
        rw [gJ_sJ, if_pos ⟨rfl, rfl⟩, i64_id (by omega) (by omega), hm q2, hgj, if_neg (by omega), show j + 1 - 1 = j by omega]
      · rw [gJ_sJ, if_neg (by omega), gJ_sJ, if_neg (by omega)]; exact hg i (by omega) q2) (by
      rw [if_neg (by omega)]
      by_cases q : j + 1 = k
      · have h2 := hb.2
        rw [if_pos q] at h2
        rw [← q, gJ_sJ, if_pos ⟨rfl, rfl⟩, i64_id (by omega) (by omega)]
        rw [← q] at h2
        omega
      · have h2 := hb.2
        rw [if_neg q] at h2
        rw [gJ_sJ, if_neg (by omega), gJ_sJ, if_neg (by omega)]; omega)
    refine ⟨S', x5, x6', ?_, g2, g3, fun a i => by rw [g4]; rfl, fun a i q => by rw [g5 a i q, gJ_sJ, if_neg (fun h => q h.1), gJ_sJ, if_neg (fun h => q h.1)], fun a i => by rw [g6]; rfl, (Dyn.sJ (Dyn.sJ Dyn.rf)).tr g7⟩
    rw [← g1, B258_86]
    have hne : gJ (sJ S 110 j (F j * (10 - s) / 10)) 110 (j + 1) = gJ S 110 (j + 1) := by rw [gJ_sJ, if_neg (by omega)]
    simp (disch := first | omega | assumption | exact b01_rng _ | exact st_5 | exact st_12 | exact st_19 | (simp only [isSt_sI, isSt_sJ, isSt_sF, isSt_sG, isSt_sA]; assumption)) only [↓B258_91, ↓a_110, ↓a_74, ↓n_110, ↓n_74, ↓r_72_3, ↓r_72_62, ↓s_110, ↓s_74, ↓w_72_0, i_lit, i_add, i_sub, i_mul, i_neg, i_lt, i_le, i_eq, i32_gI, i64_gJ, i32_id, i32_to, i64_to, sI_i32, sJ_i64, b01_t, b01_f, i32_b01, b01_0, ↓a_s0, ↓n_s0, ↓a_s1, ↓n_s1, Int.add_zero, t_lt, f_lt, t_le, f_le, t_eq, f_eq, true_and, and_true, false_and, and_false, and_self, ↓reduceIte, z_bool_of, or_true, true_or, or_false, false_or, Int.neg_neg, not_true_eq_false, not_false_eq_true, lg_lt, lg_le, lg_gt, lg_ge, lg_eq, j_lit, j_add, j_sub, j_mul, j_neg, j_eq, i64_id, ij, ji, z_rt, Nat.reduceEqDiff, Nat.reduceAdd, Int.reduceAdd, Int.reduceSub, Int.reduceMul, Int.reduceNeg, Int.reduceLT, Int.reduceLE, Int.reduceEq, e1, hne, j_div, tdiv10]
    rw [show j + -1 = j - 1 by omega]
theorem l258a {X : zX} {d : Nat} {s n k : Int} (hk : 1 ≤ k ∧ k ≤ 20) (hn : 0 ≤ n ∧ n ≤ 99) (hs : 0 ≤ s ∧ s ≤ 10) : ∀ (m : Nat) (t : Nat) (x5 x6 : Option Value) (S : zS), (t : Int) + m = n → (∀ i, 0 ≤ i → i < k → gJ S 110 i = fw s t i) → 0 ≤ gJ S 110 k ∧ gJ S 110 k ≤ 1000000000000 * t → ∃ (S' : zS) (x5' x6' : Option Value), z_ev X d (258, 75, [some (.ref 72), some (.int (Int32.ofInt k)), some (.int (Int32.ofInt n)), some (.int (Int32.ofInt s)), some (.int (Int32.ofInt t)), x5, x6, none], [], mk S) = z_ev X d (258, 152, [some (.ref 72), some (.int (Int32.ofInt k)), some (.int (Int32.ofInt n)), some (.int (Int32.ofInt s)), some (.int (Int32.ofInt n)), x5', x6', none], [], mk S') ∧ (∀ i, 0 ≤ i → i < k → gJ S' 110 i = fw s n.toNat i) ∧ (∀ a i, gI S' a i = gI S a i) ∧ (∀ a i, a ≠ 110 → gJ S' a i = gJ S a i) ∧ (∀ a i, gQ S' a i = gQ S a i) ∧ Dyn S S' := by
  intro m
  induction m with
  | zero =>
    intro t x5 x6 S h0 hf hb
    have ht : (t : Int) = n := by omega
    refine ⟨S, x5, x6, ?_, fun i q1 q2 => by rw [hf i q1 q2, show t = n.toNat by omega], fun _ _ => rfl, fun _ _ _ => rfl, fun _ _ => rfl, Dyn.rf⟩
    rw [B258_75, ht]
    simp (disch := first | omega | assumption | exact b01_rng _ | exact st_5 | exact st_12 | exact st_19 | (simp only [isSt_sI, isSt_sJ, isSt_sF, isSt_sG, isSt_sA]; assumption)) only [i_lit, i_add, i_sub, i_mul, i_neg, i_lt, i_le, i_eq, i32_gI, i64_gJ, i32_id, i32_to, i64_to, sI_i32, sJ_i64, b01_t, b01_f, i32_b01, b01_0, ↓a_s0, ↓n_s0, ↓a_s1, ↓n_s1, Int.add_zero, t_lt, f_lt, t_le, f_le, t_eq, f_eq, true_and, and_true, false_and, and_false, and_self, ↓reduceIte, z_bool_of, or_true, true_or, or_false, false_or, Int.neg_neg, not_true_eq_false, not_false_eq_true, lg_lt, lg_le, lg_gt, lg_ge, lg_eq, j_lit, j_add, j_sub, j_mul, j_neg, j_eq, i64_id, ij, ji, z_rt, Nat.reduceEqDiff, Nat.reduceAdd, Int.reduceAdd, Int.reduceSub, Int.reduceMul, Int.reduceNeg, Int.reduceLT, Int.reduceLE, Int.reduceEq]
  | succ m ih =>
    intro t x5 x6 S h0 hf hb
    obtain ⟨S1, y5, y6, g1, g2, g3, g4, g5, g6, g7⟩ := l258b (X := X) (d := d) (v2 := Int32.ofInt n) (v4 := Int32.ofInt t) hk hs (F := fw s t) (G := fw s (t + 1)) (fw_rng hs t) (fun i => rfl) (B := 1000000000000 * t) (by omega) k.toNat (k - 1) x6 S (by omega) (by omega) (fun i q1 q2 => hf i q1 (by omega)) (fun q => by omega) (fun i q1 q2 => by omega) ⟨hb.1, by rw [if_pos (by omega)]; exact hb.2⟩
    obtain ⟨S', x5', x6', h1, h2, h3, h4, h5, h6⟩ := ih (t + 1) (some (.int y5)) y6 S1 (by omega) g2 ⟨g3.1, by have := g3.2; omega⟩
    refine ⟨S', x5', x6', ?_, h2, fun a i => by rw [h3, g4], fun a i q => by rw [h4 a i q, g5 a i q], fun a i => by rw [h5, g6], g7.tr h6⟩
    rw [← h1, B258_75]
    simp (disch := first | omega | assumption | exact b01_rng _ | exact st_5 | exact st_12 | exact st_19 | (simp only [isSt_sI, isSt_sJ, isSt_sF, isSt_sG, isSt_sA]; assumption)) only [↓B258_81, i_lit, i_add, i_sub, i_mul, i_neg, i_lt, i_le, i_eq, i32_gI, i64_gJ, i32_id, i32_to, i64_to, sI_i32, sJ_i64, b01_t, b01_f, i32_b01, b01_0, ↓a_s0, ↓n_s0, ↓a_s1, ↓n_s1, Int.add_zero, t_lt, f_lt, t_le, f_le, t_eq, f_eq, true_and, and_true, false_and, and_false, and_self, ↓reduceIte, z_bool_of, or_true, true_or, or_false, false_or, Int.neg_neg, not_true_eq_false, not_false_eq_true, lg_lt, lg_le, lg_gt, lg_ge, lg_eq, j_lit, j_add, j_sub, j_mul, j_neg, j_eq, i64_id, ij, ji, z_rt, Nat.reduceEqDiff, Nat.reduceAdd, Int.reduceAdd, Int.reduceSub, Int.reduceMul, Int.reduceNeg, Int.reduceLT, Int.reduceLE, Int.reduceEq]
    rw [g1]
    simp (disch := first | omega | assumption | exact b01_rng _ | exact st_5 | exact st_12 | exact st_19 | (simp only [isSt_sI, isSt_sJ, isSt_sF, isSt_sG, isSt_sA]; assumption)) only [↓B258_146, i_lit, i_add, i_sub, i_mul, i_neg, i_lt, i_le, i_eq, i32_gI, i64_gJ, i32_id, i32_to, i64_to, sI_i32, sJ_i64, b01_t, b01_f, i32_b01, b01_0, ↓a_s0, ↓n_s0, ↓a_s1, ↓n_s1, Int.add_zero, t_lt, f_lt, t_le, f_le, t_eq, f_eq, true_and, and_true, false_and, and_false, and_self, ↓reduceIte, z_bool_of, or_true, true_or, or_false, false_or, Int.neg_neg, not_true_eq_false, not_false_eq_true, lg_lt, lg_le, lg_gt, lg_ge, lg_eq, j_lit, j_add, j_sub, j_mul, j_neg, j_eq, i64_id, ij, ji, z_rt, Nat.reduceEqDiff, Nat.reduceAdd, Int.reduceAdd, Int.reduceSub, Int.reduceMul, Int.reduceNeg, Int.reduceLT, Int.reduceLE, Int.reduceEq]
    rfl
theorem l258c {X : zX} {d : Nat} {v2 v3 : Int32} {k : Int} (hk : 1 ≤ k ∧ k ≤ 20) {S : zS} {F : Int → Int} (hF : ∀ i, 0 ≤ F i ∧ F i ≤ 1000000000000) (hS : ∀ i, 0 ≤ i → i < k → gJ S 110 i = F i) : ∀ (n : Nat) (j acc : Int), 0 ≤ j → j + n = k → 0 ≤ acc → acc ≤ 1000000000000 * j → z_ev X d (258, 158, [some (.ref 72), some (.int (Int32.ofInt k)), some (.int v2), some (.int v3), some (.long (Int64.ofInt acc)), none, some (.int (Int32.ofInt j)), none], [], mk S) = some (some (.long (Int64.ofInt (acc + fsum F j n))), mk S) := by
  intro n
  induction n with
  | zero =>
    intro j acc h0 h1 h2 h3
    rw [B258_158]
    simp (disch := first | omega | assumption | exact b01_rng _ | exact st_5 | exact st_12 | exact st_19 | (simp only [isSt_sI, isSt_sJ, isSt_sF, isSt_sG, isSt_sA]; assumption)) only [↓B258_182, i_lit, i_add, i_sub, i_mul, i_neg, i_lt, i_le, i_eq, i32_gI, i64_gJ, i32_id, i32_to, i64_to, sI_i32, sJ_i64, b01_t, b01_f, i32_b01, b01_0, ↓a_s0, ↓n_s0, ↓a_s1, ↓n_s1, Int.add_zero, t_lt, f_lt, t_le, f_le, t_eq, f_eq, true_and, and_true, false_and, and_false, and_self, ↓reduceIte, z_bool_of, or_true, true_or, or_false, false_or, Int.neg_neg, not_true_eq_false, not_false_eq_true, lg_lt, lg_le, lg_gt, lg_ge, lg_eq, j_lit, j_add, j_sub, j_mul, j_neg, j_eq, i64_id, ij, ji, z_rt, Nat.reduceEqDiff, Nat.reduceAdd, Int.reduceAdd, Int.reduceSub, Int.reduceMul, Int.reduceNeg, Int.reduceLT, Int.reduceLE, Int.reduceEq, fsum]
  | succ n ih =>
    intro j acc h0 h1 h2 h3
    have hj := hF j
    have e := hS j h0 (by omega)
    rw [B258_158]
    simp (disch := first | omega | assumption | exact b01_rng _ | exact st_5 | exact st_12 | exact st_19 | (simp only [isSt_sI, isSt_sJ, isSt_sF, isSt_sG, isSt_sA]; assumption)) only [↓B258_164, ↓a_110, ↓a_74, ↓n_110, ↓n_74, ↓r_72_3, ↓r_72_62, ↓s_110, ↓s_74, ↓w_72_0, i_lit, i_add, i_sub, i_mul, i_neg, i_lt, i_le, i_eq, i32_gI, i64_gJ, i32_id, i32_to, i64_to, sI_i32, sJ_i64, b01_t, b01_f, i32_b01, b01_0, ↓a_s0, ↓n_s0, ↓a_s1, ↓n_s1, Int.add_zero, t_lt, f_lt, t_le, f_le, t_eq, f_eq, true_and, and_true, false_and, and_false, and_self, ↓reduceIte, z_bool_of, or_true, true_or, or_false, false_or, Int.neg_neg, not_true_eq_false, not_false_eq_true, lg_lt, lg_le, lg_gt, lg_ge, lg_eq, j_lit, j_add, j_sub, j_mul, j_neg, j_eq, i64_id, ij, ji, z_rt, Nat.reduceEqDiff, Nat.reduceAdd, Int.reduceAdd, Int.reduceSub, Int.reduceMul, Int.reduceNeg, Int.reduceLT, Int.reduceLE, Int.reduceEq, e]
    rw [ih (j + 1) (acc + F j) (by omega) (by omega) (by omega) (by omega)]
    simp only [fsum, Int.add_assoc]
theorem l258d {X : zX} {d : Nat} {v1 v2 : Int32} : ∀ (n : Nat) (i : Int) (S : zS), 0 ≤ i → i + n = 21 → z_ev X d (258, 35, [some (.ref 72), some (.int v1), some (.int v2), some (.int (Int32.ofInt i)), none, none, none, none], [], mk S) = z_ev X d (258, 64, [some (.ref 72), some (.int v1), some (.int v2), some (.int (Int32.ofInt 21)), none, none, none, none], [], mk (sG S 110 i 21 (fun j => if j = 0 then 1000000000000 else 0))) := by
  intro n
  induction n with
  | zero =>
    intro i S h0 hi
    have : i = 21 := by omega
    subst this
    rw [sG_nil (by omega), B258_35]
    simp (disch := first | omega | assumption | exact b01_rng _ | exact st_5 | exact st_12 | exact st_19 | (simp only [isSt_sI, isSt_sJ, isSt_sF, isSt_sG, isSt_sA]; assumption)) only [i_lit, i_add, i_sub, i_mul, i_neg, i_lt, i_le, i_eq, i32_gI, i64_gJ, i32_id, i32_to, i64_to, sI_i32, sJ_i64, b01_t, b01_f, i32_b01, b01_0, ↓a_s0, ↓n_s0, ↓a_s1, ↓n_s1, Int.add_zero, t_lt, f_lt, t_le, f_le, t_eq, f_eq, true_and, and_true, false_and, and_false, and_self, ↓reduceIte, z_bool_of, or_true, true_or, or_false, false_or, Int.neg_neg, not_true_eq_false, not_false_eq_true, lg_lt, lg_le, lg_gt, lg_ge, lg_eq, j_lit, j_add, j_sub, j_mul, j_neg, j_eq, i64_id, ij, ji, z_rt, Nat.reduceEqDiff, Nat.reduceAdd, Int.reduceAdd, Int.reduceSub, Int.reduceMul, Int.reduceNeg, Int.reduceLT, Int.reduceLE, Int.reduceEq]
  | succ n ih =>
    intro i S h0 hi
    rw [B258_35]
    by_cases q : i = 0
    · subst q
      simp (disch := first | omega | assumption | exact b01_rng _ | exact st_5 | exact st_12 | exact st_19 | (simp only [isSt_sI, isSt_sJ, isSt_sF, isSt_sG, isSt_sA]; assumption)) only [↓B258_41, ↓B258_50, ↓B258_57, ↓a_110, ↓a_74, ↓n_110, ↓n_74, ↓r_72_3, ↓r_72_62, ↓s_110, ↓s_74, ↓w_72_0, i_lit, i_add, i_sub, i_mul, i_neg, i_lt, i_le, i_eq, i32_gI, i64_gJ, i32_id, i32_to, i64_to, sI_i32, sJ_i64, b01_t, b01_f, i32_b01, b01_0, ↓a_s0, ↓n_s0, ↓a_s1, ↓n_s1, Int.add_zero, t_lt, f_lt, t_le, f_le, t_eq, f_eq, true_and, and_true, false_and, and_false, and_self, ↓reduceIte, z_bool_of, or_true, true_or, or_false, false_or, Int.neg_neg, not_true_eq_false, not_false_eq_true, lg_lt, lg_le, lg_gt, lg_ge, lg_eq, j_lit, j_add, j_sub, j_mul, j_neg, j_eq, i64_id, ij, ji, z_rt, Nat.reduceEqDiff, Nat.reduceAdd, Int.reduceAdd, Int.reduceSub, Int.reduceMul, Int.reduceNeg, Int.reduceLT, Int.reduceLE, Int.reduceEq]
      rw [ih 1 _ (by omega) (by omega)]
      have := sG_step (S := S) (a := 110) (lo := 0) (hi := 21) (x := 1000000000000) (f := fun j => if j = 0 then 1000000000000 else 0) (by omega) rfl
      rw [← this]; rfl
    · simp (disch := first | omega | assumption | exact b01_rng _ | exact st_5 | exact st_12 | exact st_19 | (simp only [isSt_sI, isSt_sJ, isSt_sF, isSt_sG, isSt_sA]; assumption)) only [↓B258_41, ↓B258_56, ↓B258_57, ↓a_110, ↓a_74, ↓n_110, ↓n_74, ↓r_72_3, ↓r_72_62, ↓s_110, ↓s_74, ↓w_72_0, i_lit, i_add, i_sub, i_mul, i_neg, i_lt, i_le, i_eq, i32_gI, i64_gJ, i32_id, i32_to, i64_to, sI_i32, sJ_i64, b01_t, b01_f, i32_b01, b01_0, ↓a_s0, ↓n_s0, ↓a_s1, ↓n_s1, Int.add_zero, t_lt, f_lt, t_le, f_le, t_eq, f_eq, true_and, and_true, false_and, and_false, and_self, ↓reduceIte, z_bool_of, or_true, true_or, or_false, false_or, Int.neg_neg, not_true_eq_false, not_false_eq_true, lg_lt, lg_le, lg_gt, lg_ge, lg_eq, j_lit, j_add, j_sub, j_mul, j_neg, j_eq, i64_id, ij, ji, z_rt, Nat.reduceEqDiff, Nat.reduceAdd, Int.reduceAdd, Int.reduceSub, Int.reduceMul, Int.reduceNeg, Int.reduceLT, Int.reduceLE, Int.reduceEq]
      rw [ih (i + 1) _ (by omega) (by omega), sG_step (S := S) (a := 110) (lo := i) (hi := 21) (x := 0) (f := fun j => if j = 0 then 1000000000000 else 0) (by omega) (by rw [if_neg q])]
theorem x258 {X : zX} {d : Nat} (hd : 1 ≤ d) {S : zS} {k n s : Int} (hk : 1 ≤ k ∧ k ≤ 20) (hn : 0 ≤ n ∧ n ≤ 99) (hs : gI S 74 6 = s) (hs2 : 0 ≤ s ∧ s ≤ 10) : ∃ S' : zS, z_ev X d (z_entry 258 [.ref 72, .int (Int32.ofInt k), .int (Int32.ofInt n)] (mk S)) = some (some (.long (Int64.ofInt (fsum (fw s n.toNat) 0 k.toNat))), mk S') ∧ (∀ a i, ¬ (a = 72 ∧ i = 0) → gI S' a i = gI S a i) ∧ (∀ a i, a ≠ 110 → gJ S' a i = gJ S a i) ∧ (∀ a i, gQ S' a i = gQ S a i) ∧ Dyn S S' := by
  show ∃ S' : zS, z_ev X d (258, 0, [some (.ref 72), some (.int (Int32.ofInt k)), some (.int (Int32.ofInt n)), none, none, none, none, none], [], mk S) = _ ∧ _
  have hg : ∀ i, 0 ≤ i → i < 21 → gJ (sG (sI S 72 0 0) 110 0 21 (fun j => if j = 0 then 1000000000000 else 0)) 110 i = if i = 0 then 1000000000000 else 0 := fun i q1 q2 => by
    rw [gJ_sG, if_pos (by omega), i64_id]
    · split <;> omega
    · split <;> omega
  obtain ⟨S', x5', x6', g1, g2, g3, g4, g5, g6⟩ := l258a (X := X) (d := d) hk hn hs2 n.toNat 0 none none (sG (sI S 72 0 0) 110 0 21 (fun j => if j = 0 then 1000000000000 else 0)) (by omega) (fun i q1 q2 => by rw [hg i q1 (by omega)]; rfl) (by rw [hg k (by omega) (by omega), if_neg (by omega)]; omega)
  refine ⟨S', ?_, fun a i q => by rw [g3, gI_sG, gI_sI, if_neg q], fun a i q => by rw [g4 a i q, gJ_sG, if_neg (fun h => q h.1)]; rfl, fun a i => by rw [g5]; rfl, (Dyn.sG (Dyn.sI (by decide) Dyn.rf)).tr g6⟩
  simp (disch := first | omega | assumption | exact b01_rng _ | exact st_5 | exact st_12 | exact st_19 | (simp only [isSt_sI, isSt_sJ, isSt_sF, isSt_sG, isSt_sA]; assumption)) only [↓B258_0, ↓B258_14, ↓B258_17, ↓B258_26, ↓B258_33, ↓a_110, ↓a_74, ↓n_110, ↓n_74, ↓r_72_3, ↓r_72_62, ↓s_110, ↓s_74, ↓w_72_0, c150, i_lit, i_add, i_sub, i_mul, i_neg, i_lt, i_le, i_eq, i32_gI, i64_gJ, i32_id, i32_to, i64_to, sI_i32, sJ_i64, b01_t, b01_f, i32_b01, b01_0, ↓a_s0, ↓n_s0, ↓a_s1, ↓n_s1, Int.add_zero, t_lt, f_lt, t_le, f_le, t_eq, f_eq, true_and, and_true, false_and, and_false, and_self, ↓reduceIte, z_bool_of, or_true, true_or, or_false, false_or, Int.neg_neg, not_true_eq_false, not_false_eq_true, lg_lt, lg_le, lg_gt, lg_ge, lg_eq, j_lit, j_add, j_sub, j_mul, j_neg, j_eq, i64_id, ij, ji, z_rt, Nat.reduceEqDiff, Nat.reduceAdd, Int.reduceAdd, Int.reduceSub, Int.reduceMul, Int.reduceNeg, Int.reduceLT, Int.reduceLE, Int.reduceEq]
  rw [l258d 21 0 _ (by omega) (by omega)]
  have hs3 : gI (sG (sI S 72 0 0) 110 0 21 (fun j => if j = 0 then 1000000000000 else 0)) 74 6 = s := by rw [gI_sG, gI_sI, if_neg (by omega)]; exact hs
  simp (disch := first | omega | assumption | exact b01_rng _ | exact st_5 | exact st_12 | exact st_19 | (simp only [isSt_sI, isSt_sJ, isSt_sF, isSt_sG, isSt_sA]; assumption)) only [↓B258_64, ↓a_110, ↓a_74, ↓n_110, ↓n_74, ↓r_72_3, ↓r_72_62, ↓s_110, ↓s_74, ↓w_72_0, i_lit, i_add, i_sub, i_mul, i_neg, i_lt, i_le, i_eq, i32_gI, i64_gJ, i32_id, i32_to, i64_to, sI_i32, sJ_i64, b01_t, b01_f, i32_b01, b01_0, ↓a_s0, ↓n_s0, ↓a_s1, ↓n_s1, Int.add_zero, t_lt, f_lt, t_le, f_le, t_eq, f_eq, true_and, and_true, false_and, and_false, and_self, ↓reduceIte, z_bool_of, or_true, true_or, or_false, false_or, Int.neg_neg, not_true_eq_false, not_false_eq_true, lg_lt, lg_le, lg_gt, lg_ge, lg_eq, j_lit, j_add, j_sub, j_mul, j_neg, j_eq, i64_id, ij, ji, z_rt, Nat.reduceEqDiff, Nat.reduceAdd, Int.reduceAdd, Int.reduceSub, Int.reduceMul, Int.reduceNeg, Int.reduceLT, Int.reduceLE, Int.reduceEq, hs3]
  rw [show Int32.ofInt 0 = Int32.ofInt ((0 : Nat) : Int) from rfl, g1, B258_152]
  have := l258c (X := X) (d := d) (v2 := Int32.ofInt n) (v3 := Int32.ofInt s) hk (fw_rng hs2 n.toNat) g2 k.toNat 0 0 (by omega) (by omega) (by omega) (by omega)
  rw [Int.zero_add] at this
  exact this
theorem e126a {X : zX} {d : Nat} (hd : 1 ≤ d) {S : zS} (k n : Int) (h1 : r32 k) (h2 : r32 n) (h : ¬ (1 ≤ k ∧ k ≤ 20 ∧ 0 ≤ n ∧ n ≤ 99)) : z_ev X d (z_entry 126 [.ref 4, .int (Int32.ofInt k), .int (Int32.ofInt n)] (mk S)) = some (some (.long (Int64.ofInt (-1))), mk S) := by
  show z_ev X d (126, 0, [some (.ref 4), some (.int (Int32.ofInt k)), some (.int (Int32.ofInt n)), none, none, none, none, none], [], mk S) = _
  by_cases q1 : k < 1
  · simp (disch := first | omega | assumption | exact b01_rng _ | exact st_5 | exact st_12 | exact st_19 | (simp only [isSt_sI, isSt_sJ, isSt_sF, isSt_sG, isSt_sA]; assumption)) only [↓B126_0, ↓B126_5, ↓B126_11, ↓B126_15, ↓B126_21, i_lit, i_add, i_sub, i_mul, i_neg, i_lt, i_le, i_eq, i32_gI, i64_gJ, i32_id, i32_to, i64_to, sI_i32, sJ_i64, b01_t, b01_f, i32_b01, b01_0, ↓a_s0, ↓n_s0, ↓a_s1, ↓n_s1, Int.add_zero, t_lt, f_lt, t_le, f_le, t_eq, f_eq, true_and, and_true, false_and, and_false, and_self, ↓reduceIte, z_bool_of, or_true, true_or, or_false, false_or, Int.neg_neg, not_true_eq_false, not_false_eq_true, lg_lt, lg_le, lg_gt, lg_ge, lg_eq, j_lit, j_add, j_sub, j_mul, j_neg, j_eq, i64_id, ij, ji, z_rt, Nat.reduceEqDiff, Nat.reduceAdd, Int.reduceAdd, Int.reduceSub, Int.reduceMul, Int.reduceNeg, Int.reduceLT, Int.reduceLE, Int.reduceEq]
  · by_cases q2 : 20 < k
    · simp (disch := first | omega | assumption | exact b01_rng _ | exact st_5 | exact st_12 | exact st_19 | (simp only [isSt_sI, isSt_sJ, isSt_sF, isSt_sG, isSt_sA]; assumption)) only [↓B126_0, ↓B126_5, ↓B126_11, ↓B126_15, ↓B126_21, i_lit, i_add, i_sub, i_mul, i_neg, i_lt, i_le, i_eq, i32_gI, i64_gJ, i32_id, i32_to, i64_to, sI_i32, sJ_i64, b01_t, b01_f, i32_b01, b01_0, ↓a_s0, ↓n_s0, ↓a_s1, ↓n_s1, Int.add_zero, t_lt, f_lt, t_le, f_le, t_eq, f_eq, true_and, and_true, false_and, and_false, and_self, ↓reduceIte, z_bool_of, or_true, true_or, or_false, false_or, Int.neg_neg, not_true_eq_false, not_false_eq_true, lg_lt, lg_le, lg_gt, lg_ge, lg_eq, j_lit, j_add, j_sub, j_mul, j_neg, j_eq, i64_id, ij, ji, z_rt, Nat.reduceEqDiff, Nat.reduceAdd, Int.reduceAdd, Int.reduceSub, Int.reduceMul, Int.reduceNeg, Int.reduceLT, Int.reduceLE, Int.reduceEq]
    · by_cases q3 : n < 0
      · simp (disch := first | omega | assumption | exact b01_rng _ | exact st_5 | exact st_12 | exact st_19 | (simp only [isSt_sI, isSt_sJ, isSt_sF, isSt_sG, isSt_sA]; assumption)) only [↓B126_0, ↓B126_5, ↓B126_11, ↓B126_15, ↓B126_21, i_lit, i_add, i_sub, i_mul, i_neg, i_lt, i_le, i_eq, i32_gI, i64_gJ, i32_id, i32_to, i64_to, sI_i32, sJ_i64, b01_t, b01_f, i32_b01, b01_0, ↓a_s0, ↓n_s0, ↓a_s1, ↓n_s1, Int.add_zero, t_lt, f_lt, t_le, f_le, t_eq, f_eq, true_and, and_true, false_and, and_false, and_self, ↓reduceIte, z_bool_of, or_true, true_or, or_false, false_or, Int.neg_neg, not_true_eq_false, not_false_eq_true, lg_lt, lg_le, lg_gt, lg_ge, lg_eq, j_lit, j_add, j_sub, j_mul, j_neg, j_eq, i64_id, ij, ji, z_rt, Nat.reduceEqDiff, Nat.reduceAdd, Int.reduceAdd, Int.reduceSub, Int.reduceMul, Int.reduceNeg, Int.reduceLT, Int.reduceLE, Int.reduceEq]
      · simp (disch := first | omega | assumption | exact b01_rng _ | exact st_5 | exact st_12 | exact st_19 | (simp only [isSt_sI, isSt_sJ, isSt_sF, isSt_sG, isSt_sA]; assumption)) only [↓B126_0, ↓B126_5, ↓B126_11, ↓B126_15, ↓B126_21, i_lit, i_add, i_sub, i_mul, i_neg, i_lt, i_le, i_eq, i32_gI, i64_gJ, i32_id, i32_to, i64_to, sI_i32, sJ_i64, b01_t, b01_f, i32_b01, b01_0, ↓a_s0, ↓n_s0, ↓a_s1, ↓n_s1, Int.add_zero, t_lt, f_lt, t_le, f_le, t_eq, f_eq, true_and, and_true, false_and, and_false, and_self, ↓reduceIte, z_bool_of, or_true, true_or, or_false, false_or, Int.neg_neg, not_true_eq_false, not_false_eq_true, lg_lt, lg_le, lg_gt, lg_ge, lg_eq, j_lit, j_add, j_sub, j_mul, j_neg, j_eq, i64_id, ij, ji, z_rt, Nat.reduceEqDiff, Nat.reduceAdd, Int.reduceAdd, Int.reduceSub, Int.reduceMul, Int.reduceNeg, Int.reduceLT, Int.reduceLE, Int.reduceEq]
theorem c126a {X : zX} {d : Nat} (hd : 1 < d) {S : zS} (k n : Int) (h1 : r32 k) (h2 : r32 n) (h : ¬ (1 ≤ k ∧ k ≤ 20 ∧ 0 ≤ n ∧ n ≤ 99)) {cm cp : Nat} {L : zL} {st : List Value} : z_evc X d 126 [.ref 4, .int (Int32.ofInt k), .int (Int32.ofInt n)] (cm, cp, L, st, mk S) = z_ev X d (cm, cp, L, .long (Int64.ofInt (-1)) :: st, mk S) := z_evc_of (r := (some (.long (Int64.ofInt (-1))), mk S)) (ck := (cm, cp, L, st, mk S)) hd (e126a (X := X) (Nat.le_refl _) k n h1 h2 h)
theorem e258a {X : zX} {d : Nat} (hd : 1 ≤ d) {S : zS} (k n : Int) (h1 : r32 k) (h2 : r32 n) (h : ¬ (1 ≤ k ∧ k ≤ 20 ∧ 0 ≤ n ∧ n ≤ 99)) : z_ev X d (z_entry 258 [.ref 72, .int (Int32.ofInt k), .int (Int32.ofInt n)] (mk S)) = some (some (.long (Int64.ofInt (-1))), mk (sI S 72 0 0)) := by
  show z_ev X d (258, 0, [some (.ref 72), some (.int (Int32.ofInt k)), some (.int (Int32.ofInt n)), none, none, none, none, none], [], mk S) = _
  by_cases q1 : 1 ≤ k ∧ k ≤ 20
  · have q2 : ¬ (0 ≤ n ∧ n ≤ 99) := by omega
    simp (disch := first | omega | assumption | exact b01_rng _ | exact st_5 | exact st_12 | exact st_19 | (simp only [isSt_sI, isSt_sJ, isSt_sF, isSt_sG, isSt_sA]; assumption)) only [↓B258_0, ↓B258_14, ↓B258_17, ↓B258_26, ↓B258_29, ↓a_110, ↓a_74, ↓n_110, ↓n_74, ↓r_72_3, ↓r_72_62, ↓s_110, ↓s_74, ↓w_72_0, c150, i_lit, i_add, i_sub, i_mul, i_neg, i_lt, i_le, i_eq, i32_gI, i64_gJ, i32_id, i32_to, i64_to, sI_i32, sJ_i64, b01_t, b01_f, i32_b01, b01_0, ↓a_s0, ↓n_s0, ↓a_s1, ↓n_s1, Int.add_zero, t_lt, f_lt, t_le, f_le, t_eq, f_eq, true_and, and_true, false_and, and_false, and_self, ↓reduceIte, z_bool_of, or_true, true_or, or_false, false_or, Int.neg_neg, not_true_eq_false, not_false_eq_true, lg_lt, lg_le, lg_gt, lg_ge, lg_eq, j_lit, j_add, j_sub, j_mul, j_neg, j_eq, i64_id, ij, ji, z_rt, Nat.reduceEqDiff, Nat.reduceAdd, Int.reduceAdd, Int.reduceSub, Int.reduceMul, Int.reduceNeg, Int.reduceLT, Int.reduceLE, Int.reduceEq, q2]
  · simp (disch := first | omega | assumption | exact b01_rng _ | exact st_5 | exact st_12 | exact st_19 | (simp only [isSt_sI, isSt_sJ, isSt_sF, isSt_sG, isSt_sA]; assumption)) only [↓B258_0, ↓B258_14, ↓B258_17, ↓B258_26, ↓B258_29, ↓a_110, ↓a_74, ↓n_110, ↓n_74, ↓r_72_3, ↓r_72_62, ↓s_110, ↓s_74, ↓w_72_0, c150, i_lit, i_add, i_sub, i_mul, i_neg, i_lt, i_le, i_eq, i32_gI, i64_gJ, i32_id, i32_to, i64_to, sI_i32, sJ_i64, b01_t, b01_f, i32_b01, b01_0, ↓a_s0, ↓n_s0, ↓a_s1, ↓n_s1, Int.add_zero, t_lt, f_lt, t_le, f_le, t_eq, f_eq, true_and, and_true, false_and, and_false, and_self, ↓reduceIte, z_bool_of, or_true, true_or, or_false, false_or, Int.neg_neg, not_true_eq_false, not_false_eq_true, lg_lt, lg_le, lg_gt, lg_ge, lg_eq, j_lit, j_add, j_sub, j_mul, j_neg, j_eq, i64_id, ij, ji, z_rt, Nat.reduceEqDiff, Nat.reduceAdd, Int.reduceAdd, Int.reduceSub, Int.reduceMul, Int.reduceNeg, Int.reduceLT, Int.reduceLE, Int.reduceEq, q1]
theorem c258a {X : zX} {d : Nat} (hd : 1 < d) {S : zS} (k n : Int) (h1 : r32 k) (h2 : r32 n) (h : ¬ (1 ≤ k ∧ k ≤ 20 ∧ 0 ≤ n ∧ n ≤ 99)) {cm cp : Nat} {L : zL} {st : List Value} : z_evc X d 258 [.ref 72, .int (Int32.ofInt k), .int (Int32.ofInt n)] (cm, cp, L, st, mk S) = z_ev X d (cm, cp, L, .long (Int64.ofInt (-1)) :: st, mk (sI S 72 0 0)) := z_evc_of (r := (some (.long (Int64.ofInt (-1))), mk (sI S 72 0 0))) (ck := (cm, cp, L, st, mk S)) hd (e258a (X := X) (Nat.le_refl _) k n h1 h2 h)
theorem p_few {P Q : zP} (hG : Good P Q) {X : zX} {k n : Int} (h1 : r32 k) (h2 : r32 n) {S : zS} {d : Nat} (hd : 200 ≤ d) (hI : Inv P Q S) : PairAt P Q X 126 258 [.int (Int32.ofInt k), .int (Int32.ofInt n)] S d := by
  by_cases q : 1 ≤ k ∧ k ≤ 20 ∧ 0 ≤ n ∧ n ≤ 99
  · obtain ⟨-, -, -, -, -, b6, -⟩ := id hI.1
    simp only [Nat.reduceAdd] at b6
    obtain ⟨S1, a1, a2, a3, a4, a5⟩ := x126 (X := X) (d := d) (S := S) (by omega) (show 1 ≤ k ∧ k ≤ 20 by omega) (show 0 ≤ n ∧ n ≤ 99 by omega) b6.2.1 (by omega)
    obtain ⟨S2, c1, c2, c3, c4, c5⟩ := x258 (X := X) (d := d) (S := S1) (by omega) (show 1 ≤ k ∧ k ≤ 20 by omega) (show 0 ≤ n ∧ n ≤ 99 by omega) (a2 74 6) (by omega)
    have hI2 : Inv P Q S2 := by
      have K : ∀ a i, ¬ (a = 72 ∧ i = 0) → gI S2 a i = gI S a i := fun a i z => by rw [c2 a i z, a2]
      have hQ : ∀ a i, gQ S2 a i = gQ S a i := fun a i => by rw [c4, a4]
      have hD := a5.tr c5
      have J : ∀ a i, a ≠ 70 → a ≠ 110 → gJ S2 a i = gJ S a i := fun a i z1 z2 => by rw [c3 a i z2, a3 a i z1]
      obtain ⟨a1, a2, a3, a4, a5, a6, a7⟩ := hI
      refine ⟨a1.fr hG hD (fun i => K _ _ (by omega)) (fun i => K _ _ (by omega)) (fun i => K _ _ (by omega)) (fun i => K _ _ (by omega)) (fun i => K _ _ (by omega)) (fun i => hQ _ _) (fun i => hQ _ _) (fun i => K _ _ (by omega)), a2.fr (K _ _ (by omega)) (K _ _ (by omega)) (fun i => K _ _ (by omega)) (fun i => K _ _ (by omega)) (fun i => K _ _ (by omega)) (fun i => K _ _ (by omega)) (fun i => K _ _ (by omega)) (fun i _ _ => K _ _ (by omega)), a3.fr (K _ _ (by omega)) (K _ _ (by omega)) (fun i => K _ _ (by omega)) (fun i => K _ _ (by omega)), ?_, a5.fr (K _ _ (by omega)) (K _ _ (by omega)) (fun i => K _ _ (by omega)) (fun i => K _ _ (by omega)), a6.fr hG hD (fun i => K _ _ (by omega)) (fun a i _ => hQ a i) (fun i => K _ _ (by omega)), a7.fr hD.2.1 (hQ _ _) (hQ _ _) (K _ _ (by omega)) (fun i => J _ _ (by omega) (by omega)) (fun i => J _ _ (by omega) (by omega)) (fun i => J _ _ (by omega) (by omega)) (fun i => J _ _ (by omega) (by omega)) (fun i => J _ _ (by omega) (by omega)) (fun a i q => J _ _ (by omega) (by omega))⟩
      unfold MsRel
      have k1 : ∀ i, gI S2 71 i = gI S 71 i := fun i => K 71 i (by omega)
      have k3 : ∀ i, gI S2 73 i = gI S 73 i := fun i => K 73 i (by omega)
      have k4 : ∀ i, gI S2 4 i = gI S 4 i := fun i => K 4 i (by omega)
      simp only [k1, k3, k4]
      rw [K 72 18 (by omega), K 72 11 (by omega), K 72 67 (by omega), K 72 1 (by omega)]
      exact a4
    exact ⟨_, S1, S2, a1, c1, hI2, by rw [(a5.tr c5).2.1]; omega, by rw [(a5.tr c5).2.2]; omega, Or.inr ⟨_, rfl⟩⟩
  · exact ⟨_, _, _, e126a (X := X) (d := d) (by omega) k n h1 h2 q, e258a (X := X) (d := d) (by omega) k n h1 h2 q, hI.th hG, by rw [gN_sI]; omega, by rw [gW_sI]; omega, Or.inr ⟨_, rfl⟩⟩
