/-! a state is copied -/
def sR (S : zS) (a : Nat) (lo hi : Int) (f : Int → Option Nat) : zS := (S.1, S.2.1, fun b j => if b = a ∧ lo ≤ j ∧ j < hi then f j else S.2.2.1 b j, S.2.2.2)
theorem gI_sR (S : zS) (a b : Nat) (j lo hi : Int) (f : Int → Option Nat) : gI (sR S a lo hi f) b j = gI S b j := rfl
theorem gJ_sR (S : zS) (a b : Nat) (j lo hi : Int) (f : Int → Option Nat) : gJ (sR S a lo hi f) b j = gJ S b j := rfl
theorem gQ_sR (S : zS) (a b : Nat) (j lo hi : Int) (f : Int → Option Nat) : gQ (sR S a lo hi f) b j = if b = a ∧ lo ≤ j ∧ j < hi then f j else gQ S b j := rfl
theorem gH_sR (S : zS) (a b : Nat) (lo hi : Int) (f : Int → Option Nat) : gH (sR S a lo hi f) b = gH S b := rfl
theorem gN_sR (S : zS) (a : Nat) (lo hi : Int) (f : Int → Option Nat) : gN (sR S a lo hi f) = gN S := rfl
theorem gW_sR (S : zS) (a : Nat) (lo hi : Int) (f : Int → Option Nat) : gW (sR S a lo hi f) = gW S := rfl
theorem sR_nil {S : zS} {a : Nat} {lo hi : Int} {f : Int → Option Nat} (h : hi ≤ lo) : sR S a lo hi f = S := by
  refine zS_ext (fun _ _ => rfl) (fun _ _ => rfl) (fun b j => ?_) (fun _ => rfl) rfl rfl
  rw [gQ_sR, if_neg (by omega)]
theorem sR_step {S : zS} {a : Nat} {lo hi : Int} {x : Option Nat} {f : Int → Option Nat} (h : lo < hi) (hx : x = f lo) : sR (sQ S a lo x) a (lo + 1) hi f = sR S a lo hi f := by
  subst hx
  refine zS_ext (fun _ _ => rfl) (fun _ _ => rfl) (fun b j => ?_) (fun _ => rfl) rfl rfl
  rw [gQ_sR, gQ_sR, gQ_sQ]
  by_cases q : b = a ∧ j = lo
  · obtain ⟨rfl, rfl⟩ := q
    rw [if_neg (by omega), if_pos ⟨rfl, rfl⟩, if_pos (by omega)]
  · rw [if_neg q]
    by_cases q2 : b = a ∧ lo ≤ j ∧ j < hi
    · rw [if_pos q2, if_pos (by obtain ⟨h1, h2, h3⟩ := q2; refine ⟨h1, ?_, h3⟩; have : j ≠ lo := fun h => q ⟨h1, h⟩; omega)]
    · rw [if_neg q2, if_neg (by intro h; apply q2; exact ⟨h.1, by omega, h.2.2⟩)]
theorem isSt_sQ {S : zS} {s a : Nat} {i : Int} {x : Option Nat} (h : isSt S s) (ha : a ≠ s) : isSt (sQ S a i x) s := by
  rcases h with q | ⟨w1, w2, w3, w4⟩
  · exact Or.inl q
  · exact Or.inr ⟨w1, w2, fun j hj => by rw [gQ_sQ, if_neg (fun q => ha q.1.symm)]; exact w3 j hj, w4⟩
theorem isSt_sR {S : zS} {s a : Nat} {lo hi : Int} {f : Int → Option Nat} (h : isSt S s) (ha : a ≠ s) : isSt (sR S a lo hi f) s := by
  rcases h with q | ⟨w1, w2, w3, w4⟩
  · exact Or.inl q
  · exact Or.inr ⟨w1, w2, fun j hj => by rw [gQ_sR, if_neg (fun q => ha q.1.symm)]; exact w3 j hj, w4⟩
section
variable {ρ : Type} {X : zX} {S : zS} {s o : Nat} {i x : Int32}
theorem L_cpy0 {a a0 : Nat} {n : Nat} {m : Int} {k : zM → Option ρ} (h0 : zdes S a0 = some (.inr (0, n))) (h1 : zdes S a = some (.inr (0, n))) (hm : m = n) (hn : n < 100000) : z_cpy none (mk S) a0 (Int32.ofInt 0) a (Int32.ofInt 0) (Int32.ofInt m) k = k (mk (sF S a 0 m (gI S a0))) := by
  subst hm
  rw [L_cpy h0 h1 (by omega) (by omega) (by omega) (by omega) (by omega) hn hn]
  simp only [Int.zero_add, Int.sub_zero]
theorem st_c1 {k : zM → Option ρ} (hs : isSt S s) (ho : isSt S o) : z_cpy none (mk S) (o + 1) 0 (s + 1) 0 60 k = k (mk (sF S (s + 1) 0 60 (gI S (o + 1)))) := L_cpy0 (st_d1 ho) (st_d1 hs) rfl (by decide)
theorem st_c2 {k : zM → Option ρ} (hs : isSt S s) (ho : isSt S o) : z_cpy none (mk S) (o + 2) 0 (s + 2) 0 (Int32.ofInt 3) k = k (mk (sF S (s + 2) 0 3 (gI S (o + 2)))) := L_cpy0 (st_d2 ho) (st_d2 hs) rfl (by decide)
theorem st_c3 {k : zM → Option ρ} (hs : isSt S s) (ho : isSt S o) : z_cpy none (mk S) (o + 3) 0 (s + 3) 0 6 k = k (mk (sF S (s + 3) 0 6 (gI S (o + 3)))) := L_cpy0 (st_d3 ho) (st_d3 hs) rfl (by decide)
theorem st_c4 {k : zM → Option ρ} (hs : isSt S s) (ho : isSt S o) : z_cpy none (mk S) (o + 4) 0 (s + 4) 0 6 k = k (mk (sF S (s + 4) 0 6 (gI S (o + 4)))) := L_cpy0 (st_d4 ho) (st_d4 hs) rfl (by decide)
end
theorem l63a {X : zX} {d : Nat} {s o : Nat} (hd : o + 6 < s ∨ s + 6 < o) {f : Int → Option Nat} : ∀ (n : Nat) (i : Int) (S : zS), 0 ≤ i → i + n = 6 → isSt S s → isSt S o → (∀ (k : Int) (a : Nat), 0 ≤ k → k < 6 → gQ S (o + 5) k = some a → 114 ≤ a ∧ gH S a = some (.inl 3)) → (∀ j : Int, f j = gQ S (o + 5) j) → z_ev X d (63, 64, [some (.ref s), some (.ref o), some (.int (Int32.ofInt i))], [], mk S) = z_ev X d (63, 88, [some (.ref s), some (.ref o), some (.int (Int32.ofInt 6))], [], mk (sR S (s + 5) i 6 f)) := by
  intro n
  induction n with
  | zero =>
    intro i S h0 hi hs ho hr hf
    rw [sR_nil (by omega), B63_64]
    have : i = 6 := by omega
    subst this
    simp (disch := first | omega | assumption | exact b01_rng _ | exact st_5 | exact st_12 | exact st_19 | (simp only [isSt_sI, isSt_sJ, isSt_sF, isSt_sG, isSt_sA]; assumption)) only [i_lit, i_add, i_sub, i_mul, i_neg, i_lt, i_le, i_eq, i32_gI, i64_gJ, i32_id, i32_to, i64_to, sI_i32, sJ_i64, b01_t, b01_f, i32_b01, b01_0, ↓a_s0, ↓n_s0, ↓a_s1, ↓n_s1, Int.add_zero, t_lt, f_lt, t_le, f_le, t_eq, f_eq, true_and, and_true, false_and, and_false, and_self, ↓reduceIte, z_bool_of, or_true, true_or, or_false, false_or, Int.neg_neg, not_true_eq_false, not_false_eq_true, lg_lt, lg_le, lg_gt, lg_ge, lg_eq, j_lit, j_add, j_sub, j_mul, j_neg, j_eq, i64_id, ij, ji, z_rt, Nat.reduceEqDiff, Nat.reduceAdd, Int.reduceAdd, Int.reduceSub, Int.reduceMul, Int.reduceNeg, Int.reduceLT, Int.reduceLE, Int.reduceEq]
  | succ n ih =>
    intro i S h0 hi hs ho hr hf
    rw [B63_64]
    cases hq : gQ S (o + 5) i with
    | none =>
      simp (disch := first | omega | assumption | exact b01_rng _ | exact st_5 | exact st_12 | exact st_19 | (simp only [isSt_sI, isSt_sJ, isSt_sF, isSt_sG, isSt_sA]; assumption)) only [↓B63_70, ↓B63_81_ns0, ↓B63_81, ↓st_o, ↓st_r6, ↓st_r7, ↓st_r8, ↓st_r9, ↓st_r10, ↓st_w6, ↓st_w7, ↓st_w8, ↓st_w9, ↓st_w10, ↓st_R0, ↓st_R1, ↓st_R2, ↓st_R3, ↓st_R4, ↓st_R5, ↓st_a1, ↓st_a2, ↓st_a3, ↓st_a4, ↓st_a5, ↓st_a6, ↓st_s1, ↓st_s2, ↓st_s3, ↓st_s4, ↓st_n1, ↓st_n2, ↓st_n3, ↓st_n4, ↓st_n5, ↓st_n6, i_lit, i_add, i_sub, i_mul, i_neg, i_lt, i_le, i_eq, i32_gI, i64_gJ, i32_id, i32_to, i64_to, sI_i32, sJ_i64, b01_t, b01_f, i32_b01, b01_0, ↓a_s0, ↓n_s0, ↓a_s1, ↓n_s1, Int.add_zero, t_lt, f_lt, t_le, f_le, t_eq, f_eq, true_and, and_true, false_and, and_false, and_self, ↓reduceIte, z_bool_of, or_true, true_or, or_false, false_or, Int.neg_neg, not_true_eq_false, not_false_eq_true, lg_lt, lg_le, lg_gt, lg_ge, lg_eq, j_lit, j_add, j_sub, j_mul, j_neg, j_eq, i64_id, ij, ji, z_rt, Nat.reduceEqDiff, Nat.reduceAdd, Int.reduceAdd, Int.reduceSub, Int.reduceMul, Int.reduceNeg, Int.reduceLT, Int.reduceLE, Int.reduceEq, hq, ↓G_qst0 (S := S) (show 3 ≤ 3 by decide) (by decide) (st_d5 hs)]
      rw [ih (i + 1) _ (by omega) (by omega) (isSt_sQ hs (by omega)) (isSt_sQ ho (by omega)) (fun k a q1 q2 q3 => hr k a q1 q2 (by rw [gQ_sQ, if_neg (by omega)] at q3; exact q3)) (fun j => by rw [hf, gQ_sQ, if_neg (by omega)])]
      rw [sR_step (by omega) (by rw [hf, hq])]
    | some a =>
      obtain ⟨r1, r2⟩ := hr i a h0 (by omega) hq
      have hz : zdes S a = some (.inl (z_elem 3, [2, 2, 2, 0, 0, 0])) := by rw [zdes_dyn r1, r2]; rfl
      simp (disch := first | omega | assumption | exact b01_rng _ | exact st_5 | exact st_12 | exact st_19 | (simp only [isSt_sI, isSt_sJ, isSt_sF, isSt_sG, isSt_sA]; assumption)) only [↓B63_70, ↓B63_81, ↓st_o, ↓st_r6, ↓st_r7, ↓st_r8, ↓st_r9, ↓st_r10, ↓st_w6, ↓st_w7, ↓st_w8, ↓st_w9, ↓st_w10, ↓st_R0, ↓st_R1, ↓st_R2, ↓st_R3, ↓st_R4, ↓st_R5, ↓st_a1, ↓st_a2, ↓st_a3, ↓st_a4, ↓st_a5, ↓st_a6, ↓st_s1, ↓st_s2, ↓st_s3, ↓st_s4, ↓st_n1, ↓st_n2, ↓st_n3, ↓st_n4, ↓st_n5, ↓st_n6, i_lit, i_add, i_sub, i_mul, i_neg, i_lt, i_le, i_eq, i32_gI, i64_gJ, i32_id, i32_to, i64_to, sI_i32, sJ_i64, b01_t, b01_f, i32_b01, b01_0, ↓a_s0, ↓n_s0, ↓a_s1, ↓n_s1, Int.add_zero, t_lt, f_lt, t_le, f_le, t_eq, f_eq, true_and, and_true, false_and, and_false, and_self, ↓reduceIte, z_bool_of, or_true, true_or, or_false, false_or, Int.neg_neg, not_true_eq_false, not_false_eq_true, lg_lt, lg_le, lg_gt, lg_ge, lg_eq, j_lit, j_add, j_sub, j_mul, j_neg, j_eq, i64_id, ij, ji, z_rt, Nat.reduceEqDiff, Nat.reduceAdd, Int.reduceAdd, Int.reduceSub, Int.reduceMul, Int.reduceNeg, Int.reduceLT, Int.reduceLE, Int.reduceEq, hq, ↓G_qst (S := S) (show 3 ≤ 3 by decide) (by decide) (st_d5 hs) hz]
      rw [ih (i + 1) _ (by omega) (by omega) (isSt_sQ hs (by omega)) (isSt_sQ ho (by omega)) (fun k a q1 q2 q3 => hr k a q1 q2 (by rw [gQ_sQ, if_neg (by omega)] at q3; exact q3)) (fun j => by rw [hf, gQ_sQ, if_neg (by omega)])]
      rw [sR_step (by omega) (by rw [hf, hq])]
theorem l63b {X : zX} {d : Nat} {s o : Nat} (hd : o + 6 < s ∨ s + 6 < o) {f : Int → Option Nat} : ∀ (n : Nat) (i : Int) (S : zS), 0 ≤ i → i + n = 6 → isSt S s → isSt S o → (∀ (k : Int) (a : Nat), 0 ≤ k → k < 6 → gQ S (o + 6) k = some a → 114 ≤ a ∧ gH S a = some (.inl 1)) → (∀ j : Int, f j = gQ S (o + 6) j) → z_ev X d (63, 90, [some (.ref s), some (.ref o), some (.int (Int32.ofInt i))], [], mk S) = z_ev X d (63, 114, [some (.ref s), some (.ref o), some (.int (Int32.ofInt 6))], [], mk (sR S (s + 6) i 6 f)) := by
  intro n
  induction n with
  | zero =>
    intro i S h0 hi hs ho hr hf
    rw [sR_nil (by omega), B63_90]
    have : i = 6 := by omega
    subst this
    simp (disch := first | omega | assumption | exact b01_rng _ | exact st_5 | exact st_12 | exact st_19 | (simp only [isSt_sI, isSt_sJ, isSt_sF, isSt_sG, isSt_sA]; assumption)) only [i_lit, i_add, i_sub, i_mul, i_neg, i_lt, i_le, i_eq, i32_gI, i64_gJ, i32_id, i32_to, i64_to, sI_i32, sJ_i64, b01_t, b01_f, i32_b01, b01_0, ↓a_s0, ↓n_s0, ↓a_s1, ↓n_s1, Int.add_zero, t_lt, f_lt, t_le, f_le, t_eq, f_eq, true_and, and_true, false_and, and_false, and_self, ↓reduceIte, z_bool_of, or_true, true_or, or_false, false_or, Int.neg_neg, not_true_eq_false, not_false_eq_true, lg_lt, lg_le, lg_gt, lg_ge, lg_eq, j_lit, j_add, j_sub, j_mul, j_neg, j_eq, i64_id, ij, ji, z_rt, Nat.reduceEqDiff, Nat.reduceAdd, Int.reduceAdd, Int.reduceSub, Int.reduceMul, Int.reduceNeg, Int.reduceLT, Int.reduceLE, Int.reduceEq]
  | succ n ih =>
    intro i S h0 hi hs ho hr hf
    rw [B63_90]
    cases hq : gQ S (o + 6) i with
    | none =>
      simp (disch := first | omega | assumption | exact b01_rng _ | exact st_5 | exact st_12 | exact st_19 | (simp only [isSt_sI, isSt_sJ, isSt_sF, isSt_sG, isSt_sA]; assumption)) only [↓B63_96, ↓B63_107_ns0, ↓B63_107, ↓st_o, ↓st_r6, ↓st_r7, ↓st_r8, ↓st_r9, ↓st_r10, ↓st_w6, ↓st_w7, ↓st_w8, ↓st_w9, ↓st_w10, ↓st_R0, ↓st_R1, ↓st_R2, ↓st_R3, ↓st_R4, ↓st_R5, ↓st_a1, ↓st_a2, ↓st_a3, ↓st_a4, ↓st_a5, ↓st_a6, ↓st_s1, ↓st_s2, ↓st_s3, ↓st_s4, ↓st_n1, ↓st_n2, ↓st_n3, ↓st_n4, ↓st_n5, ↓st_n6, i_lit, i_add, i_sub, i_mul, i_neg, i_lt, i_le, i_eq, i32_gI, i64_gJ, i32_id, i32_to, i64_to, sI_i32, sJ_i64, b01_t, b01_f, i32_b01, b01_0, ↓a_s0, ↓n_s0, ↓a_s1, ↓n_s1, Int.add_zero, t_lt, f_lt, t_le, f_le, t_eq, f_eq, true_and, and_true, false_and, and_false, and_self, ↓reduceIte, z_bool_of, or_true, true_or, or_false, false_or, Int.neg_neg, not_true_eq_false, not_false_eq_true, lg_lt, lg_le, lg_gt, lg_ge, lg_eq, j_lit, j_add, j_sub, j_mul, j_neg, j_eq, i64_id, ij, ji, z_rt, Nat.reduceEqDiff, Nat.reduceAdd, Int.reduceAdd, Int.reduceSub, Int.reduceMul, Int.reduceNeg, Int.reduceLT, Int.reduceLE, Int.reduceEq, hq, ↓G_qst0 (S := S) (show 3 ≤ 4 by decide) (by decide) (st_d6 hs)]
      rw [ih (i + 1) _ (by omega) (by omega) (isSt_sQ hs (by omega)) (isSt_sQ ho (by omega)) (fun k a q1 q2 q3 => hr k a q1 q2 (by rw [gQ_sQ, if_neg (by omega)] at q3; exact q3)) (fun j => by rw [hf, gQ_sQ, if_neg (by omega)])]
      rw [sR_step (by omega) (by rw [hf, hq])]
    | some a =>
      obtain ⟨r1, r2⟩ := hr i a h0 (by omega) hq
      have hz : zdes S a = some (.inl (z_elem 4, [2, 2, 0, 0, 0])) := by rw [zdes_dyn r1, r2]; rfl
      simp (disch := first | omega | assumption | exact b01_rng _ | exact st_5 | exact st_12 | exact st_19 | (simp only [isSt_sI, isSt_sJ, isSt_sF, isSt_sG, isSt_sA]; assumption)) only [↓B63_96, ↓B63_107, ↓st_o, ↓st_r6, ↓st_r7, ↓st_r8, ↓st_r9, ↓st_r10, ↓st_w6, ↓st_w7, ↓st_w8, ↓st_w9, ↓st_w10, ↓st_R0, ↓st_R1, ↓st_R2, ↓st_R3, ↓st_R4, ↓st_R5, ↓st_a1, ↓st_a2, ↓st_a3, ↓st_a4, ↓st_a5, ↓st_a6, ↓st_s1, ↓st_s2, ↓st_s3, ↓st_s4, ↓st_n1, ↓st_n2, ↓st_n3, ↓st_n4, ↓st_n5, ↓st_n6, i_lit, i_add, i_sub, i_mul, i_neg, i_lt, i_le, i_eq, i32_gI, i64_gJ, i32_id, i32_to, i64_to, sI_i32, sJ_i64, b01_t, b01_f, i32_b01, b01_0, ↓a_s0, ↓n_s0, ↓a_s1, ↓n_s1, Int.add_zero, t_lt, f_lt, t_le, f_le, t_eq, f_eq, true_and, and_true, false_and, and_false, and_self, ↓reduceIte, z_bool_of, or_true, true_or, or_false, false_or, Int.neg_neg, not_true_eq_false, not_false_eq_true, lg_lt, lg_le, lg_gt, lg_ge, lg_eq, j_lit, j_add, j_sub, j_mul, j_neg, j_eq, i64_id, ij, ji, z_rt, Nat.reduceEqDiff, Nat.reduceAdd, Int.reduceAdd, Int.reduceSub, Int.reduceMul, Int.reduceNeg, Int.reduceLT, Int.reduceLE, Int.reduceEq, hq, ↓G_qst (S := S) (show 3 ≤ 4 by decide) (by decide) (st_d6 hs) hz]
      rw [ih (i + 1) _ (by omega) (by omega) (isSt_sQ hs (by omega)) (isSt_sQ ho (by omega)) (fun k a q1 q2 q3 => hr k a q1 q2 (by rw [gQ_sQ, if_neg (by omega)] at q3; exact q3)) (fun j => by rw [hf, gQ_sQ, if_neg (by omega)])]
      rw [sR_step (by omega) (by rw [hf, hq])]
def cpS (S : zS) (s o : Nat) : zS := sI (sI (sI (sI (sI (sR (sR (sF (sF (sF (sF S (s + 1) 0 60 (gI S (o + 1))) (s + 2) 0 3 (gI S (o + 2))) (s + 3) 0 6 (gI S (o + 3))) (s + 4) 0 6 (gI S (o + 4))) (s + 5) 0 6 (gQ S (o + 5))) (s + 6) 0 6 (gQ S (o + 6))) s 6 (gI S o 6)) s 7 (gI S o 7)) s 8 (gI S o 8)) s 9 (gI S o 9)) s 10 (gI S o 10)
theorem e63 {X : zX} {d : Nat} (hd : 0 ≤ d) {S : zS} {s o : Nat} (hs : isSt S s) (ho : isSt S o) (hso : o + 6 < s ∨ s + 6 < o) (hr : RefOK S o) : z_ev X d (z_entry 63 [.ref s, .ref o] (mk S)) = some (none, mk (cpS S s o)) := by
  show z_ev X d (63, 0, [some (.ref s), some (.ref o), none], [], mk S) = _
  have n2 : ∀ i, gI (sF S (s + 1) 0 60 (gI S (o + 1))) (o + 2) i = gI S (o + 2) i := fun i => by rw [gI_sF, if_neg (by omega)]
  have n3 : ∀ i, gI (sF (sF S (s + 1) 0 60 (gI S (o + 1))) (s + 2) 0 3 (gI S (o + 2))) (o + 3) i = gI S (o + 3) i := fun i => by rw [gI_sF, if_neg (by omega), gI_sF, if_neg (by omega)]
  have n4 : ∀ i, gI (sF (sF (sF S (s + 1) 0 60 (gI S (o + 1))) (s + 2) 0 3 (gI S (o + 2))) (s + 3) 0 6 (gI S (o + 3))) (o + 4) i = gI S (o + 4) i := fun i => by rw [gI_sF, if_neg (by omega), gI_sF, if_neg (by omega), gI_sF, if_neg (by omega)]
  simp (disch := first | omega | assumption | exact b01_rng _ | exact st_5 | exact st_12 | exact st_19 | (simp only [isSt_sI, isSt_sJ, isSt_sF, isSt_sG, isSt_sA]; assumption)) only [↓B63_0, ↓st_o, ↓st_r6, ↓st_r7, ↓st_r8, ↓st_r9, ↓st_r10, ↓st_w6, ↓st_w7, ↓st_w8, ↓st_w9, ↓st_w10, ↓st_R0, ↓st_R1, ↓st_R2, ↓st_R3, ↓st_R4, ↓st_R5, ↓st_a1, ↓st_a2, ↓st_a3, ↓st_a4, ↓st_a5, ↓st_a6, ↓st_s1, ↓st_s2, ↓st_s3, ↓st_s4, ↓st_n1, ↓st_n2, ↓st_n3, ↓st_n4, ↓st_n5, ↓st_n6, i_lit, i_add, i_sub, i_mul, i_neg, i_lt, i_le, i_eq, i32_gI, i64_gJ, i32_id, i32_to, i64_to, sI_i32, sJ_i64, b01_t, b01_f, i32_b01, b01_0, ↓a_s0, ↓n_s0, ↓a_s1, ↓n_s1, Int.add_zero, t_lt, f_lt, t_le, f_le, t_eq, f_eq, true_and, and_true, false_and, and_false, and_self, ↓reduceIte, z_bool_of, or_true, true_or, or_false, false_or, Int.neg_neg, not_true_eq_false, not_false_eq_true, lg_lt, lg_le, lg_gt, lg_ge, lg_eq, j_lit, j_add, j_sub, j_mul, j_neg, j_eq, i64_id, ij, ji, z_rt, Nat.reduceEqDiff, Nat.reduceAdd, Int.reduceAdd, Int.reduceSub, Int.reduceMul, Int.reduceNeg, Int.reduceLT, Int.reduceLE, Int.reduceEq, ↓st_c1, ↓st_c2, ↓st_c3, ↓st_c4]
  rw [show gI (sF S (s + 1) 0 60 (gI S (o + 1))) (o + 2) = gI S (o + 2) from funext n2, show gI (sF (sF S (s + 1) 0 60 (gI S (o + 1))) (s + 2) 0 3 (gI S (o + 2))) (o + 3) = gI S (o + 3) from funext n3, show gI (sF (sF (sF S (s + 1) 0 60 (gI S (o + 1))) (s + 2) 0 3 (gI S (o + 2))) (s + 3) 0 6 (gI S (o + 3))) (o + 4) = gI S (o + 4) from funext n4]
  obtain ⟨T0, hT0⟩ : ∃ T0, T0 = sF (sF (sF (sF S (s + 1) 0 60 (gI S (o + 1))) (s + 2) 0 3 (gI S (o + 2))) (s + 3) 0 6 (gI S (o + 3))) (s + 4) 0 6 (gI S (o + 4)) := ⟨_, rfl⟩
  rw [← hT0]
  have a1 : isSt T0 s := by rw [hT0]; exact hs
  have a2 : isSt T0 o := by rw [hT0]; exact ho
  have a3 : ∀ b j, gQ T0 b j = gQ S b j := by rw [hT0]; exact fun _ _ => rfl
  have a4 : ∀ b, gH T0 b = gH S b := by rw [hT0]; exact fun _ => rfl
  rw [l63a hso 6 0 T0 (by omega) (by omega) a1 a2 (fun k a q1 q2 q3 => by rw [a3] at q3; rw [a4]; exact hr.1 k a q1 q2 q3) (f := gQ S (o + 5)) (fun _ => (a3 _ _).symm), B63_88]
  rw [show (0 : Int32) = Int32.ofInt 0 from rfl, l63b hso 6 0 _ (by omega) (by omega) (isSt_sR a1 (by omega)) (isSt_sR a2 (by omega)) (fun k a q1 q2 q3 => by rw [gQ_sR, if_neg (by omega), a3] at q3; rw [gH_sR, a4]; exact hr.2 k a q1 q2 q3) (f := gQ S (o + 6)) (fun j => by rw [gQ_sR, if_neg (by omega), a3]), hT0]
  have hs2 : isSt (sR (sR (sF (sF (sF (sF S (s + 1) 0 60 (gI S (o + 1))) (s + 2) 0 3 (gI S (o + 2))) (s + 3) 0 6 (gI S (o + 3))) (s + 4) 0 6 (gI S (o + 4))) (s + 5) 0 6 (gQ S (o + 5))) (s + 6) 0 6 (gQ S (o + 6))) s := isSt_sR (isSt_sR hs (by omega)) (by omega)
  have ho2 : isSt (sR (sR (sF (sF (sF (sF S (s + 1) 0 60 (gI S (o + 1))) (s + 2) 0 3 (gI S (o + 2))) (s + 3) 0 6 (gI S (o + 3))) (s + 4) 0 6 (gI S (o + 4))) (s + 5) 0 6 (gQ S (o + 5))) (s + 6) 0 6 (gQ S (o + 6))) o := isSt_sR (isSt_sR ho (by omega)) (by omega)
  have hF : ∀ i, gI (sR (sR (sF (sF (sF (sF S (s + 1) 0 60 (gI S (o + 1))) (s + 2) 0 3 (gI S (o + 2))) (s + 3) 0 6 (gI S (o + 3))) (s + 4) 0 6 (gI S (o + 4))) (s + 5) 0 6 (gQ S (o + 5))) (s + 6) 0 6 (gQ S (o + 6))) o i = gI S o i := fun i => by
    rw [gI_sR, gI_sR, gI_sF, if_neg (by omega), gI_sF, if_neg (by omega), gI_sF, if_neg (by omega), gI_sF, if_neg (by omega)]
  unfold cpS
  generalize sR (sR (sF (sF (sF (sF S (s + 1) 0 60 (gI S (o + 1))) (s + 2) 0 3 (gI S (o + 2))) (s + 3) 0 6 (gI S (o + 3))) (s + 4) 0 6 (gI S (o + 4))) (s + 5) 0 6 (gQ S (o + 5))) (s + 6) 0 6 (gQ S (o + 6)) = T at *
  have hne : (o = s) = False := eq_false (by omega)
  simp (disch := first | omega | assumption | exact b01_rng _ | exact st_5 | exact st_12 | exact st_19 | (simp only [isSt_sI, isSt_sJ, isSt_sF, isSt_sG, isSt_sA]; assumption)) only [↓B63_114, ↓st_o, ↓st_r6, ↓st_r7, ↓st_r8, ↓st_r9, ↓st_r10, ↓st_w6, ↓st_w7, ↓st_w8, ↓st_w9, ↓st_w10, ↓st_R0, ↓st_R1, ↓st_R2, ↓st_R3, ↓st_R4, ↓st_R5, ↓st_a1, ↓st_a2, ↓st_a3, ↓st_a4, ↓st_a5, ↓st_a6, ↓st_s1, ↓st_s2, ↓st_s3, ↓st_s4, ↓st_n1, ↓st_n2, ↓st_n3, ↓st_n4, ↓st_n5, ↓st_n6, i_lit, i_add, i_sub, i_mul, i_neg, i_lt, i_le, i_eq, i32_gI, i64_gJ, i32_id, i32_to, i64_to, sI_i32, sJ_i64, b01_t, b01_f, i32_b01, b01_0, ↓a_s0, ↓n_s0, ↓a_s1, ↓n_s1, Int.add_zero, t_lt, f_lt, t_le, f_le, t_eq, f_eq, true_and, and_true, false_and, and_false, and_self, ↓reduceIte, z_bool_of, or_true, true_or, or_false, false_or, Int.neg_neg, not_true_eq_false, not_false_eq_true, lg_lt, lg_le, lg_gt, lg_ge, lg_eq, j_lit, j_add, j_sub, j_mul, j_neg, j_eq, i64_id, ij, ji, z_rt, Nat.reduceEqDiff, Nat.reduceAdd, Int.reduceAdd, Int.reduceSub, Int.reduceMul, Int.reduceNeg, Int.reduceLT, Int.reduceLE, Int.reduceEq, gI_sI, hF, hne]

theorem c63 {X : zX} {d : Nat} (hd : 0 < d) {S : zS} {s o : Nat} (hs : isSt S s) (ho : isSt S o) (hso : o + 6 < s ∨ s + 6 < o) (hr : RefOK S o) {cm cp : Nat} {L : zL} {st : List Value} : z_evc X d 63 [.ref s, .ref o] (cm, cp, L, st, mk S) = z_ev X d (cm, cp, L, st, mk (cpS S s o)) := z_evc_of (r := (none, mk (cpS S s o))) (ck := (cm, cp, L, st, mk S)) hd (e63 (X := X) (Nat.le_refl _) hs ho hso hr)