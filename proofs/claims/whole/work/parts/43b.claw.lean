/-! the class's law() -/
theorem e76 {X : zX} {d : Nat} (hd : 0 ≤ d) {S : zS} (k : Int) (a : Nat) (h8 : gI S 5 9 = k) (hk : 0 ≤ k ∧ k < 6) (ha : 114 ≤ a) (hH : gH S a = some (.inl 1)) : z_ev X d (z_entry 76 [.ref 5, .ref a] (mk S)) = some (none, mk (sI (sQ S 11 k (some a)) 5 9 (k + 1))) := by
  show z_ev X d (76, 0, [some (.ref 5), some (.ref a)], [], mk S) = _
  have hz : zdes S a = some (.inl (z_elem 4, [2, 2, 0, 0, 0])) := cls_dyn ha hH
  have hq := fun {ρ : Type} {i : Int32} {k : zM → Option ρ} => G_qst (ρ := ρ) (S := S) (a := 11) (i := i) (k := k) (t := 4) (n := 6) (by decide) (by decide) rfl hz
  simp (disch := first | omega | assumption | exact b01_rng _ | exact st_5 | exact st_12 | exact st_19 | (simp only [isSt_sI, isSt_sJ, isSt_sF, isSt_sG, isSt_sA]; assumption)) only [↓B76_0, ↓B76_7, ↓B76_19, ↓B76_39, ↓r_5_9, ↓r_5_5, ↓n_11, ↓w_5_9, i_lit, i_add, i_sub, i_mul, i_neg, i_lt, i_le, i_eq, i32_gI, i64_gJ, i32_id, i32_to, i64_to, sI_i32, sJ_i64, b01_t, b01_f, i32_b01, b01_0, ↓a_s0, ↓n_s0, ↓a_s1, ↓n_s1, Int.add_zero, t_lt, f_lt, t_le, f_le, t_eq, f_eq, true_and, and_true, false_and, and_false, and_self, ↓reduceIte, z_bool_of, or_true, true_or, or_false, false_or, Int.neg_neg, not_true_eq_false, not_false_eq_true, lg_lt, lg_le, lg_gt, lg_ge, lg_eq, j_lit, j_add, j_sub, j_mul, j_neg, j_eq, i64_id, ij, ji, z_rt, Nat.reduceEqDiff, Nat.reduceAdd, Int.reduceAdd, Int.reduceSub, Int.reduceMul, Int.reduceNeg, Int.reduceLT, Int.reduceLE, Int.reduceEq, h8, ↓hq, gI_sQ]
theorem c76 {X : zX} {d : Nat} (hd : 0 < d) {S : zS} (k : Int) (a : Nat) (h8 : gI S 5 9 = k) (hk : 0 ≤ k ∧ k < 6) (ha : 114 ≤ a) (hH : gH S a = some (.inl 1)) {cm cp : Nat} {L : zL} {st : List Value} : z_evc X d 76 [.ref 5, .ref a] (cm, cp, L, st, mk S) = z_ev X d (cm, cp, L, st, mk (sI (sQ S 11 k (some a)) 5 9 (k + 1))) := z_evc_of (r := (none, mk (sI (sQ S 11 k (some a)) 5 9 (k + 1)))) (ck := (cm, cp, L, st, mk S)) hd (e76 (X := X) (Nat.le_refl _) k a h8 hk ha hH)
theorem e105a {X : zX} {d : Nat} (hd : 2 ≤ d) {S : zS} (h8 : gI S 5 9 = 6) : z_ev X d (z_entry 105 [.ref 4] (mk S)) = some (some (.int (Int32.ofInt (-5))), mk (cR (sI S 35 1 0) (-5))) := by
  show z_ev X d (105, 0, [some (.ref 4), none], [], mk S) = _
  simp (disch := first | omega | assumption | exact b01_rng _ | exact st_5 | exact st_12 | exact st_19 | (simp only [isSt_sI, isSt_sJ, isSt_sF, isSt_sG, isSt_sA]; assumption)) only [↓B105_0, ↓B105_12, ↓B105_26, ↓o_19, ↓o_37, ↓o_4, ↓o_5, ↓o_52, ↓o_53, ↓r_19_9, ↓r_37_5, ↓r_4_0, ↓r_4_6, ↓r_4_7, ↓r_4_9, ↓r_52_0, ↓r_5_9, ↓w_35_1, ↓w_4_17, i_lit, i_add, i_sub, i_mul, i_neg, i_lt, i_le, i_eq, i32_gI, i64_gJ, i32_id, i32_to, i64_to, sI_i32, sJ_i64, b01_t, b01_f, i32_b01, b01_0, ↓a_s0, ↓n_s0, ↓a_s1, ↓n_s1, Int.add_zero, t_lt, f_lt, t_le, f_le, t_eq, f_eq, true_and, and_true, false_and, and_false, and_self, ↓reduceIte, z_bool_of, or_true, true_or, or_false, false_or, Int.neg_neg, not_true_eq_false, not_false_eq_true, lg_lt, lg_le, lg_gt, lg_ge, lg_eq, j_lit, j_add, j_sub, j_mul, j_neg, j_eq, i64_id, ij, ji, z_rt, Nat.reduceEqDiff, Nat.reduceAdd, Int.reduceAdd, Int.reduceSub, Int.reduceMul, Int.reduceNeg, Int.reduceLT, Int.reduceLE, Int.reduceEq, c134, h8]
theorem c105a {X : zX} {d : Nat} (hd : 2 < d) {S : zS} (h8 : gI S 5 9 = 6) {cm cp : Nat} {L : zL} {st : List Value} : z_evc X d 105 [.ref 4] (cm, cp, L, st, mk S) = z_ev X d (cm, cp, L, .int (Int32.ofInt (-5)) :: st, mk (cR (sI S 35 1 0) (-5))) := z_evc_of (r := (some (.int (Int32.ofInt (-5))), mk (cR (sI S 35 1 0) (-5)))) (ck := (cm, cp, L, st, mk S)) hd (e105a (X := X) (Nat.le_refl _) h8)
def FrC5 (S S' : zS) : Prop := Dyn S S' ∧ (∀ a i, ¬ (37 ≤ a ∧ a ≤ 55) → gI S' a i = gI S a i) ∧ (∀ a i, gJ S' a i = gJ S a i) ∧ (∀ a i, gQ S' a i = gQ S a i)
theorem FrC5.tr {A B C : zS} (h1 : FrC5 A B) (h2 : FrC5 B C) : FrC5 A C := ⟨h1.1.tr h2.1, fun a i q1 => (h2.2.1 a i q1).trans (h1.2.1 a i q1), fun a i => (h2.2.2.1 a i).trans (h1.2.2.1 a i), fun a i => (h2.2.2.2 a i).trans (h1.2.2.2 a i)⟩
theorem FrCl.c5 {S S' : zS} (h : FrCl S S') : FrC5 S S' := ⟨h.1, fun a i q => h.2.1 a i (by omega), h.2.2.1, h.2.2.2⟩
theorem FrL.c5 {S S' : zS} {x y : Int} (h : FrL (sI (sI S 52 1 x) 52 2 y) S') : FrC5 S S' := ⟨(by (repeat (first | exact Dyn.rf | refine Dyn.sI (by decide) ?_ | refine Dyn.sF (by decide) ?_ | refine Dyn.sJ ?_ | refine Dyn.sG ?_ | refine Dyn.sQ (by decide) ?_)) : Dyn S (sI (sI S 52 1 x) 52 2 y)).tr h.1, fun a i q => by rw [h.2.1 a i (by omega) (by omega) (by omega) (by omega) (by omega), gI_sI, if_neg (by omega), gI_sI, if_neg (by omega)], fun a i => by rw [h.2.2.1]; rfl, fun a i => by rw [h.2.2.2]; rfl⟩
/-- .. with k new cells, w more places -/
def FrC5N (S S' : zS) (k w : Nat) : Prop := gN S' = gN S + k ∧ gW S' ≤ gW S + w ∧ (∀ b, b < gN S → ¬ (37 ≤ b ∧ b ≤ 55) → ∀ i, gI S' b i = gI S b i) ∧ (∀ b, b < gN S → (∀ i, gQ S' b i = gQ S b i) ∧ (114 ≤ b → gH S' b = gH S b)) ∧ (∀ b i, gJ S' b i = gJ S b i) ∧ (∀ b, gN S + k ≤ b → gH S' b = gH S b)
/-- the code as instructions -/
def insC (g : Int → Int) : Ins := fun k => dC 0 (g k)
theorem x105 {X : zX} {d : Nat} (hd : 100 ≤ d) {S : zS} (hTp : TpRel S) (hN : 114 ≤ gN S) {k : Int} (h8 : gI S 5 9 = k) (hk : 0 ≤ k ∧ k < 6) : ∃ T : Nat, RTape (gI S 81) (gI S 72 13) T ∧ match pTx (gI S 81) (gI S 72 13) 0 with
  | .inl e => ∃ S' : zS, z_ev X d (z_entry 105 [.ref 4] (mk S)) = some (some (.int (Int32.ofInt (-6))), mk (cR (sI S' 4 17 (tpos (gI S 81) (gI S 72 13) e)) (-6))) ∧ FrC5 (sI S 35 1 0) S'
  | .inr (cls, p) => ∃ (S' : zS) (m : Nat) (g h : Int → Int), z_ev X d (z_entry 105 [.ref 4] (mk S)) = some (some (.int (Int32.ofInt k)), mk (sI (sI (sQ S' 11 k (some (gN S))) 5 9 (k + 1)) 4 16 0)) ∧ ClsC S' (gN S) m cls.length g h ∧ m ≤ 436 ∧ CTx (insC g) m h cls ∧ AllOK cls p.2 ∧ (1 ≤ cls.length ∧ cls.length ≤ 12) ∧ FrC5N (sI (sI S 35 1 0) 4 17 (-1)) S' 3 501 := by
  obtain ⟨T, S1, a1, a2, a3, a4⟩ := tape_toks (X := X) (d := d - 1) (by omega) hTp
  generalize hb : gI S 81 = b at *
  generalize hn : gI S 72 13 = n at *
  refine ⟨T, a4, ?_⟩
  have e0 : z_ev X d (z_entry 105 [.ref 4] (mk S)) = z_ev X d (105, 0, [some (.ref 4), none], [], mk S) := rfl
  have k84 : ∀ {cm cp : Nat} {L : zL} {s : List Value}, z_evc X d 84 [.ref 37, .ref 35] (cm, cp, L, s, mk S) = z_ev X d (cm, cp, L, s, mk S1) := fun {cm cp L s} => z_evc_of (r := (none, mk S1)) (ck := (cm, cp, L, s, mk S)) (show d - 1 < d by omega) a1
  have a2' : AlT (sI S1 35 1 0) b n T 0 := ⟨⟨a2.1.1.fr (fun a i q => by rw [gI_sI, if_neg (by omega)]) (by rw [gI_sI, if_neg (by omega)]), by rw [gI_sI, if_neg (by omega)]; exact a2.1.2.1, a2.1.2.2⟩, by rw [gI_sI, if_neg (by omega)]; exact a2.2⟩
  have a3' : FrC5 (sI S 35 1 0) (sI S1 35 1 0) := (a3.put (by omega) : FrCl (sI S 35 1 0) (sI S1 35 1 0)).c5
  have hN1 : gN (sI S1 35 1 0) = gN S := a3.1.2.1
  have hx := text_al (X := X) (d := d - 1) (by omega) a4.1.1 (ord := 0) (Or.inl rfl) a2'
  cases hp : pTx b n 0 with
  | inl e =>
    rw [hp] at hx
    obtain ⟨S2, g1, g2, g3⟩ := hx
    have k1 : ∀ {cm cp : Nat} {L : zL} {s : List Value}, z_evc X d 1 [.ref 52, .ref 37, .int (Int32.ofInt 0)] (cm, cp, L, s, mk (sI S1 35 1 0)) = z_ev X d (cm, cp, L, .int (Int32.ofInt 0) :: s, mk S2) := fun {cm cp L s} => z_evc_of (r := (some (.int (Int32.ofInt 0)), mk S2)) (ck := (cm, cp, L, s, mk (sI S1 35 1 0))) (show d - 1 < d by omega) g1
    have hr := gI_rng S2 37 5
    rw [g2] at hr
    refine ⟨S2, ?_, a3'.tr g3.c5⟩
    rw [e0]
    simp (disch := first | omega | assumption | exact b01_rng _ | exact st_5 | exact st_12 | exact st_19 | (simp only [isSt_sI, isSt_sJ, isSt_sF, isSt_sG, isSt_sA]; assumption)) only [↓B105_0, ↓B105_27, ↓B105_38, ↓B105_58, ↓B105_74, ↓B105_80, ↓o_19, ↓o_37, ↓o_4, ↓o_5, ↓o_52, ↓o_53, ↓r_19_9, ↓r_37_5, ↓r_4_0, ↓r_4_6, ↓r_4_7, ↓r_4_9, ↓r_52_0, ↓r_5_9, ↓w_35_1, ↓w_4_17, i_lit, i_add, i_sub, i_mul, i_neg, i_lt, i_le, i_eq, i32_gI, i64_gJ, i32_id, i32_to, i64_to, sI_i32, sJ_i64, b01_t, b01_f, i32_b01, b01_0, ↓a_s0, ↓n_s0, ↓a_s1, ↓n_s1, Int.add_zero, t_lt, f_lt, t_le, f_le, t_eq, f_eq, true_and, and_true, false_and, and_false, and_self, ↓reduceIte, z_bool_of, or_true, true_or, or_false, false_or, Int.neg_neg, not_true_eq_false, not_false_eq_true, lg_lt, lg_le, lg_gt, lg_ge, lg_eq, j_lit, j_add, j_sub, j_mul, j_neg, j_eq, i64_id, ij, ji, z_rt, Nat.reduceEqDiff, Nat.reduceAdd, Int.reduceAdd, Int.reduceSub, Int.reduceMul, Int.reduceNeg, Int.reduceLT, Int.reduceLE, Int.reduceEq, h8, k84, k1, g2, c134]
  | inr y =>
    obtain ⟨cls, p⟩ := y
    rw [hp] at hx
    obtain ⟨S2, g1, g2, g3, g4, g5, g6, g7, g8, -⟩ := hx
    have k1 : ∀ {cm cp : Nat} {L : zL} {s : List Value}, z_evc X d 1 [.ref 52, .ref 37, .int (Int32.ofInt 0)] (cm, cp, L, s, mk (sI S1 35 1 0)) = z_ev X d (cm, cp, L, .int (Int32.ofInt 1) :: s, mk S2) := fun {cm cp L s} => z_evc_of (r := (some (.int (Int32.ofInt 1)), mk S2)) (ck := (cm, cp, L, s, mk (sI S1 35 1 0))) (show d - 1 < d by omega) g1
    have hF2 : FrC5 (sI S 35 1 0) S2 := a3'.tr g3.c5
    have hN2 : gN (sI S2 4 17 (-1)) = gN S := hF2.1.2.1
    obtain ⟨m, hm⟩ : ∃ m : Nat, gI S2 53 3 = m := ⟨(gI S2 53 3).toNat, by omega⟩
    obtain ⟨S3, c1, c2, c3, c4⟩ := x18 (X := X) (d := d - 1) (by omega) (S := sI S2 4 17 (-1)) (m := m) (nc := cls.length) (by omega) (by rw [gI_sI, if_neg (by omega)]; exact hm) (by omega) (by rw [gI_sI, if_neg (by omega)]; exact g4) (by omega)
    rw [hN2] at c1 c2
    have k18 : ∀ {cm cp : Nat} {L : zL} {s : List Value}, z_evc X d 18 [.ref 53] (cm, cp, L, s, mk (sI S2 4 17 (-1))) = z_ev X d (cm, cp, L, .ref (gN S) :: s, mk S3) := fun {cm cp L s} => z_evc_of (r := (some (.ref (gN S)), mk S3)) (ck := (cm, cp, L, s, mk (sI S2 4 17 (-1)))) (show d - 1 < d by omega) c1
    have hC : CTx (insC (gI (sI S2 4 17 (-1)) 54)) m (gI (sI S2 4 17 (-1)) 55) cls := by
      have e54 : ∀ i, gI (sI S2 4 17 (-1)) 54 i = gI S2 54 i := fun i => by rw [gI_sI, if_neg (by omega)]
      have e55 : gI (sI S2 4 17 (-1)) 55 = gI S2 55 := by funext i; rw [gI_sI, if_neg (by omega)]
      have z52 : gI S2 52 1 = 0 := by rw [g3.2.1 52 1 (by omega) (by omega) (by omega) (by omega) (by omega)]; simp (disch := first | omega | assumption | exact b01_rng _ | exact st_5 | exact st_12 | exact st_19 | (simp only [isSt_sI, isSt_sJ, isSt_sF, isSt_sG, isSt_sA]; assumption)) only [gI_sI, i_lit, i_add, i_sub, i_mul, i_neg, i_lt, i_le, i_eq, i32_gI, i64_gJ, i32_id, i32_to, i64_to, sI_i32, sJ_i64, b01_t, b01_f, i32_b01, b01_0, ↓a_s0, ↓n_s0, ↓a_s1, ↓n_s1, Int.add_zero, t_lt, f_lt, t_le, f_le, t_eq, f_eq, true_and, and_true, false_and, and_false, and_self, ↓reduceIte, z_bool_of, or_true, true_or, or_false, false_or, Int.neg_neg, not_true_eq_false, not_false_eq_true, lg_lt, lg_le, lg_gt, lg_ge, lg_eq, j_lit, j_add, j_sub, j_mul, j_neg, j_eq, i64_id, ij, ji, z_rt, Nat.reduceEqDiff, Nat.reduceAdd, Int.reduceAdd, Int.reduceSub, Int.reduceMul, Int.reduceNeg, Int.reduceLT, Int.reduceLE, Int.reduceEq]
      have ei : insC (gI (sI S2 4 17 (-1)) 54) = IC S2 := by funext i; unfold insC IC; rw [e54, z52]
      rw [ei, e55, ← hm]; exact g7
    have e8 : gI S3 5 9 = k := by
      rw [c4 5 (by omega), gI_sI, if_neg (by omega), hF2.2.1 5 9 (by omega), gI_sI, if_neg (by omega)]; exact h8
    have k76 := fun {cm cp : Nat} {L : zL} {s : List Value} => c76 (X := X) (d := d) (S := S3) (by omega) k (gN S) e8 hk hN c2.2.1 (cm := cm) (cp := cp) (L := L) (st := s)
    have e9 : gI (sI (sQ S3 11 k (some (gN S))) 5 9 (k + 1)) 5 9 = k + 1 := by simp (disch := first | omega | assumption | exact b01_rng _ | exact st_5 | exact st_12 | exact st_19 | (simp only [isSt_sI, isSt_sJ, isSt_sF, isSt_sG, isSt_sA]; assumption)) only [gI_sI, i_lit, i_add, i_sub, i_mul, i_neg, i_lt, i_le, i_eq, i32_gI, i64_gJ, i32_id, i32_to, i64_to, sI_i32, sJ_i64, b01_t, b01_f, i32_b01, b01_0, ↓a_s0, ↓n_s0, ↓a_s1, ↓n_s1, Int.add_zero, t_lt, f_lt, t_le, f_le, t_eq, f_eq, true_and, and_true, false_and, and_false, and_self, ↓reduceIte, z_bool_of, or_true, true_or, or_false, false_or, Int.neg_neg, not_true_eq_false, not_false_eq_true, lg_lt, lg_le, lg_gt, lg_ge, lg_eq, j_lit, j_add, j_sub, j_mul, j_neg, j_eq, i64_id, ij, ji, z_rt, Nat.reduceEqDiff, Nat.reduceAdd, Int.reduceAdd, Int.reduceSub, Int.reduceMul, Int.reduceNeg, Int.reduceLT, Int.reduceLE, Int.reduceEq]
    have e10 : k + 1 - 1 = k := by omega
    refine ⟨S3, m, _, _, ?_, c2, by omega, hC, g8, g5, ?_⟩
    · rw [e0]
      simp (disch := first | omega | assumption | exact b01_rng _ | exact st_5 | exact st_12 | exact st_19 | (simp only [isSt_sI, isSt_sJ, isSt_sF, isSt_sG, isSt_sA]; assumption)) only [↓B105_0, ↓B105_27, ↓B105_38, ↓B105_58, ↓B105_81, ↓B105_95, ↓B105_98, ↓B105_111, ↓o_19, ↓o_37, ↓o_4, ↓o_5, ↓o_52, ↓o_53, ↓r_19_9, ↓r_37_5, ↓r_4_0, ↓r_4_6, ↓r_4_7, ↓r_4_9, ↓r_52_0, ↓r_5_9, ↓w_35_1, ↓w_4_17, i_lit, i_add, i_sub, i_mul, i_neg, i_lt, i_le, i_eq, i32_gI, i64_gJ, i32_id, i32_to, i64_to, sI_i32, sJ_i64, b01_t, b01_f, i32_b01, b01_0, ↓a_s0, ↓n_s0, ↓a_s1, ↓n_s1, Int.add_zero, t_lt, f_lt, t_le, f_le, t_eq, f_eq, true_and, and_true, false_and, and_false, and_self, ↓reduceIte, z_bool_of, or_true, true_or, or_false, false_or, Int.neg_neg, not_true_eq_false, not_false_eq_true, lg_lt, lg_le, lg_gt, lg_ge, lg_eq, j_lit, j_add, j_sub, j_mul, j_neg, j_eq, i64_id, ij, ji, z_rt, Nat.reduceEqDiff, Nat.reduceAdd, Int.reduceAdd, Int.reduceSub, Int.reduceMul, Int.reduceNeg, Int.reduceLT, Int.reduceLE, Int.reduceEq, h8, k84, k1, g2, k18, k76, e9, e10, c135]
    · obtain ⟨f1, f2, f3, f4, f5, f6⟩ := c3
      rw [hN2] at f1 f3 f4 f6
      have hW : gW (sI S2 4 17 (-1)) = gW S := hF2.1.2.2
      rw [hW] at f2
      have o : ∀ b, ¬ (37 ≤ b ∧ b ≤ 55) → ∀ i, gI (sI S2 4 17 (-1)) b i = gI (sI (sI S 35 1 0) 4 17 (-1)) b i := fun b w i => by
        rw [gI_sI, gI_sI (S := sI S 35 1 0), hF2.2.1 b i w]
      exact ⟨f1, f2, fun b hb w i => by rw [f3 b hb (by omega) i]; exact o b w i, fun b hb => ⟨fun i => by rw [(f4 b hb).1 i]; exact hF2.2.2.2 b i, fun w => by rw [(f4 b hb).2 w]; exact (hF2.1.1 b w).2.2⟩, fun b i => by rw [f5]; exact hF2.2.2.1 b i, fun b hb => by rw [f6 b hb]; exact (hF2.1.1 b (by have : gN S + 3 ≤ b := hb; omega)).2.2⟩
