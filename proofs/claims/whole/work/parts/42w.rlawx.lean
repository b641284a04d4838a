/-! the reference's law(), whole -/
def lawM (Z : zS) (c nc k : Int) : zS := sI (sI (sF (sF (sI Z 74 (2492 + 900 * c + 1) nc) 74 (2492 + 900 * c + 2) (2492 + 900 * c + 2 + 8 * nc) (fA Z (2492 + 900 * c))) 74 (2492 + 900 * c + 98) (2492 + 900 * c + 98 + 2 * k) (fB Z (2492 + 900 * c))) 74 3 (c + 1)) 72 1 0
theorem x200 {X : zX} {d : Nat} (hd : 20 ≤ d) {b : Int → Int} {n : Int} {T : Nat} (hT : RTape b n T) {S : zS} (hK : KW S) (hL : KL S) (h1 : gI S 72 13 = n) (h2 : gI S 81 = b) {c : Int} (h8 : gI S 74 3 = c) (hc : 0 ≤ c ∧ c < 6) : match pTx b n 0 with
  | .inl e => ∃ Z : zS, z_ev X d (z_entry 200 [.ref 72] (mk S)) = some (some (.int (Int32.ofInt (-6))), mk (tellS Z (-6))) ∧ FrTx (sI S 72 0 0) Z ∧ RBad Z (tpos b n e) ∧ EndT Z
  | .inr (cls, p) => ∃ (Z : zS) (k : Int), z_ev X d (z_entry 200 [.ref 72] (mk S)) = some (some (.int (Int32.ofInt c)), mk (lawM Z c cls.length k)) ∧ FrTx (sI S 72 0 0) Z ∧ gI Z 72 19 = 0 ∧ (0 ≤ k ∧ k ≤ 400) ∧ (1 ≤ cls.length ∧ cls.length ≤ 12) ∧ RTx Z k cls ∧ EndT Z ∧ gI Z 72 18 = -1 := by
  have e0 : z_ev X d (z_entry 200 [.ref 72] (mk S)) = z_ev X d (200, 0, L200, [], mk S) := rfl
  have h8' : gI (sI S 72 0 0) 74 3 = c := by rw [gI_sI, if_neg (by omega)]; exact h8
  obtain ⟨S1, a1, a2, a3, a4⟩ := z197 (X := X) (d := d) (by omega) hT (S := sI S 72 0 0) (ord := 0) (Or.inl rfl) (by rw [gI_sI, if_neg (by omega)]; exact h1) (by rw [← h2]; funext i; rw [gI_sI, if_neg (by omega)])
  have hK1 : KW S1 := hK.fr (fun a i q => by rw [a4.2.2.1 a i (by omega)]; rfl)
  have hL1 : KL S1 := by
    have e : ∀ i, gJ S1 89 i = gJ S 89 i := fun i => by rw [a4.2.2.1 _ _ (by omega)]; rfl
    unfold KL; rw [e, e, e]; exact hL
  have hl := ref_law (X := X) (d := d) (by omega) hT 12 [] (0, 0) 0 S1 0 rfl a2 hK1 hL1 a3 (fun j cl w => by simp at w)
  have ent : z_ev X d (200, 0, L200, [], mk S) = z_evc X d 199 [.ref 72] (200, 37, L200, [], mk S1) := by
    simp (disch := first | omega | assumption | exact b01_rng _ | exact st_5 | exact st_12 | exact st_19 | (simp only [isSt_sI, isSt_sJ, isSt_sF, isSt_sG, isSt_sA]; assumption)) only [↓B200_0, ↓B200_28, ↓B200_33, ↓a_74, ↓a_82, ↓a_83, ↓a_84, ↓n_74, ↓n_82, ↓n_83, ↓n_84, ↓o_72, ↓r_72_19, ↓r_72_21, ↓r_72_22, ↓r_72_23, ↓r_72_24, ↓r_72_25, ↓r_72_3, ↓s_74, ↓s_82, ↓s_83, ↓s_84, ↓w_72_0, ↓w_72_13, a1, i_lit, i_add, i_sub, i_mul, i_neg, i_lt, i_le, i_eq, i32_gI, i64_gJ, i32_id, i32_to, i64_to, sI_i32, sJ_i64, b01_t, b01_f, i32_b01, b01_0, ↓a_s0, ↓n_s0, ↓a_s1, ↓n_s1, Int.add_zero, t_lt, f_lt, t_le, f_le, t_eq, f_eq, true_and, and_true, false_and, and_false, and_self, ↓reduceIte, z_bool_of, or_true, true_or, or_false, false_or, Int.neg_neg, not_true_eq_false, not_false_eq_true, lg_lt, lg_le, lg_gt, lg_ge, lg_eq, j_lit, j_add, j_sub, j_mul, j_neg, j_eq, i64_id, ij, ji, z_rt, Nat.reduceEqDiff, Nat.reduceAdd, Int.reduceAdd, Int.reduceSub, Int.reduceMul, Int.reduceNeg, Int.reduceLT, Int.reduceLE, Int.reduceEq, h8']
  show match pText (tc b n) (pCl b n 0) 12 [] (0, 0) 0 with
    | .inl e => _
    | .inr (cls, p) => _
  cases hr : pText (tc b n) (pCl b n 0) 12 [] (0, 0) 0 with
  | inl e =>
    rw [hr] at hl
    obtain ⟨S2, b1, b2, b3⟩ := hl
    have w1 := b2.1
    refine ⟨S2, ?_, a4.tr b3.1, b2, b3.2⟩
    rw [e0, ent, b1]
    simp (disch := first | omega | assumption | exact b01_rng _ | exact st_5 | exact st_12 | exact st_19 | (simp only [isSt_sI, isSt_sJ, isSt_sF, isSt_sG, isSt_sA]; assumption)) only [↓B200_68, ↓B200_75, ↓B200_81, ↓a_74, ↓a_82, ↓a_83, ↓a_84, ↓n_74, ↓n_82, ↓n_83, ↓n_84, ↓o_72, ↓r_72_19, ↓r_72_21, ↓r_72_22, ↓r_72_23, ↓r_72_24, ↓r_72_25, ↓r_72_3, ↓s_74, ↓s_82, ↓s_83, ↓s_84, ↓w_72_0, ↓w_72_13, c153, i_lit, i_add, i_sub, i_mul, i_neg, i_lt, i_le, i_eq, i32_gI, i64_gJ, i32_id, i32_to, i64_to, sI_i32, sJ_i64, b01_t, b01_f, i32_b01, b01_0, ↓a_s0, ↓n_s0, ↓a_s1, ↓n_s1, Int.add_zero, t_lt, f_lt, t_le, f_le, t_eq, f_eq, true_and, and_true, false_and, and_false, and_self, ↓reduceIte, z_bool_of, or_true, true_or, or_false, false_or, Int.neg_neg, not_true_eq_false, not_false_eq_true, lg_lt, lg_le, lg_gt, lg_ge, lg_eq, j_lit, j_add, j_sub, j_mul, j_neg, j_eq, i64_id, ij, ji, z_rt, Nat.reduceEqDiff, Nat.reduceAdd, Int.reduceAdd, Int.reduceSub, Int.reduceMul, Int.reduceNeg, Int.reduceLT, Int.reduceLE, Int.reduceEq, w1, tellS]
  | inr x =>
    obtain ⟨cls, p⟩ := x
    rw [hr] at hl
    obtain ⟨S2, k, b1, b2, b3, b4, b5, b6, b7, b8⟩ := hl
    have g74 : gI S2 74 3 = c := by rw [b8.1.2.1 _ _ (by omega) (by omega), a4.2.1 _ _ (by omega) (by omega)]; exact h8'
    refine ⟨S2, k, ?_, a4.tr b8.1, b2, b4, b6, b7, b8.2⟩
    rw [e0, ent, b1]
    generalize hcl : (cls.length : Int) = nc at *
    have hnc : 1 ≤ nc ∧ nc ≤ 12 := by omega
    obtain ⟨at_, hat⟩ : ∃ at_, at_ = 2492 + 900 * c := ⟨_, rfl⟩
    have s1 : z_ev X d (200, 68, L200, [], mk S2) = z_ev X d (200, 111, L200i at_ 0, [], mk (sI S2 74 (at_ + 1) nc)) := by
      rw [hat]
      simp (disch := first | omega | assumption | exact b01_rng _ | exact st_5 | exact st_12 | exact st_19 | (simp only [isSt_sI, isSt_sJ, isSt_sF, isSt_sG, isSt_sA]; assumption)) only [↓B200_68, ↓B200_82, ↓a_74, ↓a_82, ↓a_83, ↓a_84, ↓n_74, ↓n_82, ↓n_83, ↓n_84, ↓o_72, ↓r_72_19, ↓r_72_21, ↓r_72_22, ↓r_72_23, ↓r_72_24, ↓r_72_25, ↓r_72_3, ↓s_74, ↓s_82, ↓s_83, ↓s_84, ↓w_72_0, ↓w_72_13, i_lit, i_add, i_sub, i_mul, i_neg, i_lt, i_le, i_eq, i32_gI, i64_gJ, i32_id, i32_to, i64_to, sI_i32, sJ_i64, b01_t, b01_f, i32_b01, b01_0, ↓a_s0, ↓n_s0, ↓a_s1, ↓n_s1, Int.add_zero, t_lt, f_lt, t_le, f_le, t_eq, f_eq, true_and, and_true, false_and, and_false, and_self, ↓reduceIte, z_bool_of, or_true, true_or, or_false, false_or, Int.neg_neg, not_true_eq_false, not_false_eq_true, lg_lt, lg_le, lg_gt, lg_ge, lg_eq, j_lit, j_add, j_sub, j_mul, j_neg, j_eq, i64_id, ij, ji, z_rt, Nat.reduceEqDiff, Nat.reduceAdd, Int.reduceAdd, Int.reduceSub, Int.reduceMul, Int.reduceNeg, Int.reduceLT, Int.reduceLE, Int.reduceEq, b2, g74, b5]
    have e2 := l200a (X := X) (d := d) (at_ := at_) (nc := nc) (f := fA S2 at_) (by omega) (by omega) (8 * nc).toNat 0 (sI S2 74 (at_ + 1) nc) (by omega) (by omega) (by rw [gI_sI, if_neg (by omega)]; exact b5) (fun j => by unfold fA; rw [gI_sI, if_neg (by omega)])
    have hz : at_ + 2 + 0 = at_ + 2 := by omega
    rw [hz] at e2
    have e3 := l200b (X := X) (d := d) (at_ := at_) (k := k) (f := fB S2 at_) (by omega) b4 k.toNat 0 (sF (sI S2 74 (at_ + 1) nc) 74 (at_ + 2) (at_ + 2 + 8 * nc) (fA S2 at_)) (by omega) (by omega) (by rw [gI_sF, if_neg (by omega), gI_sI, if_neg (by omega)]; exact b3) (fun j => (fB_fr (fun a i q => by rw [gI_sF, if_neg (by omega), gI_sI, if_neg (by omega)])).symm)
    have hz2 : at_ + 98 + 2 * 0 = at_ + 98 := by omega
    rw [hz2] at e3
    rw [s1, e2, e3]
    unfold lawM
    rw [← hat]
    generalize hU : sF (sF (sI S2 74 (at_ + 1) nc) 74 (at_ + 2) (at_ + 2 + 8 * nc) (fA S2 at_)) 74 (at_ + 98) (at_ + 98 + 2 * k) (fB S2 at_) = U
    have u3 : gI U 74 3 = c := by rw [← hU, gI_sF, if_neg (by omega), gI_sF, if_neg (by omega), gI_sI, if_neg (by omega)]; exact g74
    have u3' : gI (sI U 74 3 (c + 1)) 74 3 = c + 1 := by rw [gI_sI, if_pos ⟨rfl, rfl⟩, i32_id (by omega) (by omega)]
    have e4 : c + 1 - 1 = c := by omega
    have hts : tellS (sI U 74 3 (c + 1)) c = sI (sI U 74 3 (c + 1)) 72 1 0 := by unfold tellS; rw [if_neg (by omega)]
    simp (disch := first | omega | assumption | exact b01_rng _ | exact st_5 | exact st_12 | exact st_19 | (simp only [isSt_sI, isSt_sJ, isSt_sF, isSt_sG, isSt_sA]; assumption)) only [↓B200_200, ↓B200_222, ↓a_74, ↓a_82, ↓a_83, ↓a_84, ↓n_74, ↓n_82, ↓n_83, ↓n_84, ↓o_72, ↓r_72_19, ↓r_72_21, ↓r_72_22, ↓r_72_23, ↓r_72_24, ↓r_72_25, ↓r_72_3, ↓s_74, ↓s_82, ↓s_83, ↓s_84, ↓w_72_0, ↓w_72_13, c153, i_lit, i_add, i_sub, i_mul, i_neg, i_lt, i_le, i_eq, i32_gI, i64_gJ, i32_id, i32_to, i64_to, sI_i32, sJ_i64, b01_t, b01_f, i32_b01, b01_0, ↓a_s0, ↓n_s0, ↓a_s1, ↓n_s1, Int.add_zero, t_lt, f_lt, t_le, f_le, t_eq, f_eq, true_and, and_true, false_and, and_false, and_self, ↓reduceIte, z_bool_of, or_true, true_or, or_false, false_or, Int.neg_neg, not_true_eq_false, not_false_eq_true, lg_lt, lg_le, lg_gt, lg_ge, lg_eq, j_lit, j_add, j_sub, j_mul, j_neg, j_eq, i64_id, ij, ji, z_rt, Nat.reduceEqDiff, Nat.reduceAdd, Int.reduceAdd, Int.reduceSub, Int.reduceMul, Int.reduceNeg, Int.reduceLT, Int.reduceLE, Int.reduceEq, u3, u3', e4, hts]
