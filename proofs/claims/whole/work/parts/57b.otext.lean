/-! ORDERS: texts, and what is kept ahead of them -/
theorem Inv.od {S F : zS} (hI : Inv PM QL S) (hD : Dyn S F) (h1 : ∀ a i, a = 19 ∨ a = 20 ∨ a = 75 ∨ a = 76 ∨ a = 113 → gI F a i = gI S a i) (h71 : gI F 72 71 = gI S 72 71) (hQ : ∀ i, gQ F 26 i = gQ S 26 i) (hR : RefOK F 5) (hJ : ∀ a i, a = 87 ∨ a = 88 ∨ a = 89 ∨ a = 93 ∨ a = 111 → gJ F a i = gJ S a i) (hX : FxC F) (h20 : gI F 72 20 = 0) (hL : LH PM QL F F) (hM : MsRel F) (hT : TpRel F) : Inv PM QL F := by
  obtain ⟨a1, a2, a3, a4, a5, a6, a7⟩ := hI
  obtain ⟨f1, f2, f3, f4, f5, f6, f7, f8⟩ := a7
  refine ⟨hL.1, HiRel_2.mpr hL.2, hT, hM, a5.fr h71 (h1 _ _ (by omega)) (fun i => h1 _ _ (by omega)) (fun i => h1 _ _ (by omega)), ImRel.fr2 good2.g hD a6 hR (fun i => h1 _ _ (by omega)) hQ (fun i => h1 _ _ (by omega)), by rw [hD.2.1]; exact f1, hX.2, h20, ?_, ?_, ?_, ?_, ?_, hX.1⟩
  · simp only [hJ 87 _ (by omega)]; exact f4
  · simp only [hJ 88 _ (by omega)]; exact f5
  · simp only [hJ 89 _ (by omega)]; exact f6
  · simp only [hJ 93 _ (by omega)]; exact f7
  · simp only [hJ 111 _ (by omega)]; exact f8.1
/-- the class's history is copied -/
def hcS (S : zS) (s o : Nat) : zS := sI (sF (sF (sF S (s + 1) 0 16 (gI S (o + 1))) (s + 2) 0 16 (gI S (o + 2))) (s + 3) 0 16 (gI S (o + 3))) s 3 (gI S o 3)
section
variable {ρ : Type} {S : zS}
theorem hc_1 {k : zM → Option ρ} : z_cpy none (mk S) 28 0 32 0 16 k = k (mk (sF S 32 0 16 (gI S 28))) := L_cpy0 (zd28 S) (zd32 S) rfl (by decide)
theorem hc_2 {k : zM → Option ρ} : z_cpy none (mk S) 29 0 33 0 16 k = k (mk (sF S 33 0 16 (gI S 29))) := L_cpy0 (zd29 S) (zd33 S) rfl (by decide)
theorem hc_3 {k : zM → Option ρ} : z_cpy none (mk S) 30 0 34 0 16 k = k (mk (sF S 34 0 16 (gI S 30))) := L_cpy0 (zd30 S) (zd34 S) rfl (by decide)
theorem hd_1 {k : zM → Option ρ} : z_cpy none (mk S) 32 0 28 0 16 k = k (mk (sF S 28 0 16 (gI S 32))) := L_cpy0 (zd32 S) (zd28 S) rfl (by decide)
theorem hd_2 {k : zM → Option ρ} : z_cpy none (mk S) 33 0 29 0 16 k = k (mk (sF S 29 0 16 (gI S 33))) := L_cpy0 (zd33 S) (zd29 S) rfl (by decide)
theorem hd_3 {k : zM → Option ρ} : z_cpy none (mk S) 34 0 30 0 16 k = k (mk (sF S 30 0 16 (gI S 34))) := L_cpy0 (zd34 S) (zd30 S) rfl (by decide)
end
theorem e20a {X : zX} {d : Nat} (hd : 0 ≤ d) {S : zS} : z_ev X d (z_entry 20 [.ref 31, .ref 27] (mk S)) = some (none, mk (hcS S 31 27)) := by
  show z_ev X d (20, 0, [some (.ref 31), some (.ref 27)], [], mk S) = _
  have n2 : gI (sF S 32 0 16 (gI S 28)) 29 = gI S 29 := funext fun i => by rw [gI_sF, if_neg (by omega)]
  have n3 : gI (sF (sF S 32 0 16 (gI S 28)) 33 0 16 (gI S 29)) 30 = gI S 30 := funext fun i => by rw [gI_sF, if_neg (by omega), gI_sF, if_neg (by omega)]
  have n4 : gI (sF (sF (sF S 32 0 16 (gI S 28)) 33 0 16 (gI S 29)) 34 0 16 (gI S 30)) 27 3 = gI S 27 3 := by rw [gI_sF, if_neg (by omega), gI_sF, if_neg (by omega), gI_sF, if_neg (by omega)]
  show _ = some (none, mk (sI (sF (sF (sF S 32 0 16 (gI S 28)) 33 0 16 (gI S 29)) 34 0 16 (gI S 30)) 31 3 (gI S 27 3)))
  simp (disch := first | omega | assumption | exact b01_rng _ | exact st_5 | exact st_12 | exact st_19 | (simp only [isSt_sI, isSt_sJ, isSt_sF, isSt_sG, isSt_sA]; assumption)) only [↓B20_0, ↓a_28, ↓a_29, ↓a_30, ↓a_32, ↓a_33, ↓a_34, ↓n_28, ↓n_29, ↓n_30, ↓n_32, ↓n_33, ↓n_34, ↓r_27_0, ↓r_27_1, ↓r_27_2, ↓r_27_3, ↓r_31_0, ↓r_31_1, ↓r_31_2, ↓r_31_3, ↓s_28, ↓s_29, ↓s_30, ↓s_32, ↓s_33, ↓s_34, ↓w_27_3, ↓w_31_3, ↓hc_1, ↓hc_2, ↓hc_3, n2, n3, n4, i_lit, i_add, i_sub, i_mul, i_neg, i_lt, i_le, i_eq, i32_gI, i64_gJ, i32_id, i32_to, i64_to, sI_i32, sJ_i64, b01_t, b01_f, i32_b01, b01_0, ↓a_s0, ↓n_s0, ↓a_s1, ↓n_s1, Int.add_zero, t_lt, f_lt, t_le, f_le, t_eq, f_eq, true_and, and_true, false_and, and_false, and_self, ↓reduceIte, z_bool_of, or_true, true_or, or_false, false_or, Int.neg_neg, not_true_eq_false, not_false_eq_true, lg_lt, lg_le, lg_gt, lg_ge, lg_eq, j_lit, j_add, j_sub, j_mul, j_neg, j_eq, i64_id, ij, ji, z_rt, Nat.reduceEqDiff, Nat.reduceAdd, Int.reduceAdd, Int.reduceSub, Int.reduceMul, Int.reduceNeg, Int.reduceLT, Int.reduceLE, Int.reduceEq]
theorem c20a {X : zX} {d : Nat} (hd : 0 < d) {S : zS} {cm cp : Nat} {L : zL} {st : List Value} : z_evc X d 20 [.ref 31, .ref 27] (cm, cp, L, st, mk S) = z_ev X d (cm, cp, L, st, mk (hcS S 31 27)) := z_evc_of (r := (none, mk (hcS S 31 27))) (ck := (cm, cp, L, st, mk S)) hd (e20a (X := X) (Nat.le_refl _) )
theorem e20b {X : zX} {d : Nat} (hd : 0 ≤ d) {S : zS} : z_ev X d (z_entry 20 [.ref 27, .ref 31] (mk S)) = some (none, mk (hcS S 27 31)) := by
  show z_ev X d (20, 0, [some (.ref 27), some (.ref 31)], [], mk S) = _
  have n2 : gI (sF S 28 0 16 (gI S 32)) 33 = gI S 33 := funext fun i => by rw [gI_sF, if_neg (by omega)]
  have n3 : gI (sF (sF S 28 0 16 (gI S 32)) 29 0 16 (gI S 33)) 34 = gI S 34 := funext fun i => by rw [gI_sF, if_neg (by omega), gI_sF, if_neg (by omega)]
  have n4 : gI (sF (sF (sF S 28 0 16 (gI S 32)) 29 0 16 (gI S 33)) 30 0 16 (gI S 34)) 31 3 = gI S 31 3 := by rw [gI_sF, if_neg (by omega), gI_sF, if_neg (by omega), gI_sF, if_neg (by omega)]
  show _ = some (none, mk (sI (sF (sF (sF S 28 0 16 (gI S 32)) 29 0 16 (gI S 33)) 30 0 16 (gI S 34)) 27 3 (gI S 31 3)))
  simp (disch := first | omega | assumption | exact b01_rng _ | exact st_5 | exact st_12 | exact st_19 | (simp only [isSt_sI, isSt_sJ, isSt_sF, isSt_sG, isSt_sA]; assumption)) only [↓B20_0, ↓a_28, ↓a_29, ↓a_30, ↓a_32, ↓a_33, ↓a_34, ↓n_28, ↓n_29, ↓n_30, ↓n_32, ↓n_33, ↓n_34, ↓r_27_0, ↓r_27_1, ↓r_27_2, ↓r_27_3, ↓r_31_0, ↓r_31_1, ↓r_31_2, ↓r_31_3, ↓s_28, ↓s_29, ↓s_30, ↓s_32, ↓s_33, ↓s_34, ↓w_27_3, ↓w_31_3, ↓hd_1, ↓hd_2, ↓hd_3, n2, n3, n4, i_lit, i_add, i_sub, i_mul, i_neg, i_lt, i_le, i_eq, i32_gI, i64_gJ, i32_id, i32_to, i64_to, sI_i32, sJ_i64, b01_t, b01_f, i32_b01, b01_0, ↓a_s0, ↓n_s0, ↓a_s1, ↓n_s1, Int.add_zero, t_lt, f_lt, t_le, f_le, t_eq, f_eq, true_and, and_true, false_and, and_false, and_self, ↓reduceIte, z_bool_of, or_true, true_or, or_false, false_or, Int.neg_neg, not_true_eq_false, not_false_eq_true, lg_lt, lg_le, lg_gt, lg_ge, lg_eq, j_lit, j_add, j_sub, j_mul, j_neg, j_eq, i64_id, ij, ji, z_rt, Nat.reduceEqDiff, Nat.reduceAdd, Int.reduceAdd, Int.reduceSub, Int.reduceMul, Int.reduceNeg, Int.reduceLT, Int.reduceLE, Int.reduceEq]
theorem c20b {X : zX} {d : Nat} (hd : 0 < d) {S : zS} {cm cp : Nat} {L : zL} {st : List Value} : z_evc X d 20 [.ref 27, .ref 31] (cm, cp, L, st, mk S) = z_ev X d (cm, cp, L, st, mk (hcS S 27 31)) := z_evc_of (r := (none, mk (hcS S 27 31))) (ck := (cm, cp, L, st, mk S)) hd (e20b (X := X) (Nat.le_refl _) )
section
variable {X : zX} {d : Nat}
/-- the class reads the text -/
theorem x106t (hd : 100 ≤ d) {S : zS} (hTp : TpRel S) : ∃ T : Nat, RTape (gI S 81) (gI S 72 13) T ∧ match pTx (gI S 81) (gI S 72 13) 1 with
  | .inl e => ∃ S' : zS, z_ev X d (z_entry 106 [.ref 4] (mk S)) = some (vI (-6), mk (cR (sI S' 4 17 (tpos (gI S 81) (gI S 72 13) e)) (-6))) ∧ FrC5 (sI (sI S 4 19 (-1)) 35 1 0) S'
  | .inr (cls, p) => ∃ S' : zS, z_ev X d (z_entry 106 [.ref 4] (mk S)) = z_ev X d (106, 59, [some (.ref 4), vI 1, none, none, none, none], [], mk (sI S' 4 17 (-1))) ∧ FrC5 (sI (sI S 4 19 (-1)) 35 1 0) S' ∧ gI S' 53 2 = cls.length ∧ (1 ≤ cls.length ∧ cls.length ≤ 12) ∧ (0 ≤ gI S' 53 3 ∧ gI S' 53 3 ≤ 436) ∧ CTx (IC S') (gI S' 53 3) (gI S' 55) cls ∧ AllOK cls p.2 ∧ gI S' 53 4 = p.2 ∧ (p.2 = 0 ∨ p.2 = 1) ∧ gI S' 52 1 = 1 := by
  have hTp0 : TpRel (sI S 4 19 (-1)) := hTp.fr (by rw [gI_sI, if_neg (by omega)]) (by rw [gI_sI, if_neg (by omega)]) (fun i => by rw [gI_sI, if_neg (by omega)]) (fun i => by rw [gI_sI, if_neg (by omega)])
  obtain ⟨T, S1, a1, a2, a3, a4⟩ := tape_toks (X := X) (d := d - 1) (by omega) hTp0
  have e81 : gI (sI S 4 19 (-1)) 81 = gI S 81 := funext fun i => by rw [gI_sI, if_neg (by omega)]
  have e13 : gI (sI S 4 19 (-1)) 72 13 = gI S 72 13 := by rw [gI_sI, if_neg (by omega)]
  rw [e81, e13] at a2 a4
  generalize hb : gI S 81 = b at *
  generalize hn : gI S 72 13 = n at *
  refine ⟨T, a4, ?_⟩
  have e0 : z_ev X d (z_entry 106 [.ref 4] (mk S)) = z_ev X d (106, 0, [some (.ref 4), none, none, none, none, none], [], mk S) := rfl
  have k84 : ∀ {cm cp : Nat} {L : zL} {s : List Value}, z_evc X d 84 [.ref 37, .ref 35] (cm, cp, L, s, mk (sI S 4 19 (-1))) = z_ev X d (cm, cp, L, s, mk S1) := fun {cm cp L s} => z_evc_of (r := (none, mk S1)) (ck := (cm, cp, L, s, mk (sI S 4 19 (-1)))) (show d - 1 < d by omega) a1
  have a2' : AlT (sI S1 35 1 0) b n T 0 := ⟨⟨a2.1.1.fr (fun a i q => by rw [gI_sI, if_neg (by omega)]) (by rw [gI_sI, if_neg (by omega)]), by rw [gI_sI, if_neg (by omega)]; exact a2.1.2.1, a2.1.2.2⟩, by rw [gI_sI, if_neg (by omega)]; exact a2.2⟩
  have a3' : FrC5 (sI (sI S 4 19 (-1)) 35 1 0) (sI S1 35 1 0) := (a3.put (by omega) : FrCl (sI (sI S 4 19 (-1)) 35 1 0) (sI S1 35 1 0)).c5
  have hx := text_al (X := X) (d := d - 1) (by omega) a4.1.1 (ord := 1) (Or.inr rfl) a2'
  cases hp : pTx b n 1 with
  | inl e =>
    rw [hp] at hx
    obtain ⟨S2, g1, g2, g3⟩ := hx
    have k1 : ∀ {cm cp : Nat} {L : zL} {s : List Value}, z_evc X d 1 [.ref 52, .ref 37, .int (Int32.ofInt 1)] (cm, cp, L, s, mk (sI S1 35 1 0)) = z_ev X d (cm, cp, L, .int (Int32.ofInt 0) :: s, mk S2) := fun {cm cp L s} => z_evc_of (r := (some (.int (Int32.ofInt 0)), mk S2)) (ck := (cm, cp, L, s, mk (sI S1 35 1 0))) (show d - 1 < d by omega) g1
    have hr := gI_rng S2 37 5
    rw [g2] at hr
    refine ⟨S2, ?_, a3'.tr g3.c5⟩
    rw [e0]
    simp (disch := first | omega | assumption | exact b01_rng _ | exact st_5 | exact st_12 | exact st_19 | (simp only [isSt_sI, isSt_sJ, isSt_sF, isSt_sG, isSt_sA]; assumption)) only [↓B106_0, ↓B106_16, ↓B106_36, ↓B106_52, ↓B106_58, ↓a_68, ↓n_68, ↓o_19, ↓o_27, ↓o_31, ↓o_37, ↓o_4, ↓o_5, ↓o_52, ↓o_53, ↓r_37_5, ↓r_4_0, ↓r_4_1, ↓r_4_12, ↓r_4_19, ↓r_4_4, ↓r_4_5, ↓r_4_6, ↓r_4_7, ↓r_4_9, ↓r_52_0, ↓r_53_2, ↓r_53_4, ↓s_68, ↓w_35_1, ↓w_4_17, ↓w_4_19, i_lit, i_add, i_sub, i_mul, i_neg, i_lt, i_le, i_eq, i32_gI, i64_gJ, i32_id, i32_to, i64_to, sI_i32, sJ_i64, b01_t, b01_f, i32_b01, b01_0, ↓a_s0, ↓n_s0, ↓a_s1, ↓n_s1, Int.add_zero, t_lt, f_lt, t_le, f_le, t_eq, f_eq, true_and, and_true, false_and, and_false, and_self, ↓reduceIte, z_bool_of, or_true, true_or, or_false, false_or, Int.neg_neg, not_true_eq_false, not_false_eq_true, lg_lt, lg_le, lg_gt, lg_ge, lg_eq, j_lit, j_add, j_sub, j_mul, j_neg, j_eq, i64_id, ij, ji, z_rt, Nat.reduceEqDiff, Nat.reduceAdd, Int.reduceAdd, Int.reduceSub, Int.reduceMul, Int.reduceNeg, Int.reduceLT, Int.reduceLE, Int.reduceEq, k84, k1, g2, c134]
  | inr y =>
    obtain ⟨cls, p⟩ := y
    rw [hp] at hx
    obtain ⟨S2, g1, g2, g3, g4, g5, g6, g7, g8, g9, g10⟩ := hx
    have k1 : ∀ {cm cp : Nat} {L : zL} {s : List Value}, z_evc X d 1 [.ref 52, .ref 37, .int (Int32.ofInt 1)] (cm, cp, L, s, mk (sI S1 35 1 0)) = z_ev X d (cm, cp, L, .int (Int32.ofInt 1) :: s, mk S2) := fun {cm cp L s} => z_evc_of (r := (some (.int (Int32.ofInt 1)), mk S2)) (ck := (cm, cp, L, s, mk (sI S1 35 1 0))) (show d - 1 < d by omega) g1
    have z52 : gI S2 52 1 = 1 := by rw [g3.2.1 52 1 (by omega) (by omega) (by omega) (by omega) (by omega), gI_sI, if_neg (by omega), gI_sI, if_pos ⟨rfl, rfl⟩]; rfl
    refine ⟨S2, ?_, a3'.tr g3.c5, g4, g5, g6, g7, g8, g9, g10, z52⟩
    rw [e0]
    simp (disch := first | omega | assumption | exact b01_rng _ | exact st_5 | exact st_12 | exact st_19 | (simp only [isSt_sI, isSt_sJ, isSt_sF, isSt_sG, isSt_sA]; assumption)) only [↓B106_0, ↓B106_16, ↓B106_36, ↓a_68, ↓n_68, ↓o_19, ↓o_27, ↓o_31, ↓o_37, ↓o_4, ↓o_5, ↓o_52, ↓o_53, ↓r_37_5, ↓r_4_0, ↓r_4_1, ↓r_4_12, ↓r_4_19, ↓r_4_4, ↓r_4_5, ↓r_4_6, ↓r_4_7, ↓r_4_9, ↓r_52_0, ↓r_53_2, ↓r_53_4, ↓s_68, ↓w_35_1, ↓w_4_17, ↓w_4_19, i_lit, i_add, i_sub, i_mul, i_neg, i_lt, i_le, i_eq, i32_gI, i64_gJ, i32_id, i32_to, i64_to, sI_i32, sJ_i64, b01_t, b01_f, i32_b01, b01_0, ↓a_s0, ↓n_s0, ↓a_s1, ↓n_s1, Int.add_zero, t_lt, f_lt, t_le, f_le, t_eq, f_eq, true_and, and_true, false_and, and_false, and_self, ↓reduceIte, z_bool_of, or_true, true_or, or_false, false_or, Int.neg_neg, not_true_eq_false, not_false_eq_true, lg_lt, lg_le, lg_gt, lg_ge, lg_eq, j_lit, j_add, j_sub, j_mul, j_neg, j_eq, i64_id, ij, ji, z_rt, Nat.reduceEqDiff, Nat.reduceAdd, Int.reduceAdd, Int.reduceSub, Int.reduceMul, Int.reduceNeg, Int.reduceLT, Int.reduceLE, Int.reduceEq, k84, k1, g2]
/-- the reference reads the text -/
theorem x264t (hd : 20 ≤ d) {b : Int → Int} {n : Int} {T : Nat} (hT : RTape b n T) {S : zS} (hK : KW S) (hL : KO S) (h1 : gI S 72 13 = n) (h2 : gI S 81 = b) : match pTx b n 1 with
  | .inl e => ∃ Z : zS, z_ev X d (z_entry 264 [.ref 72] (mk S)) = some (vI (-6), mk (tellS Z (-6))) ∧ FrTo (sI (sI S 72 0 0) 72 67 (-1)) Z ∧ RBad Z (tpos b n e) ∧ EndT Z
  | .inr (cls, p) => ∃ (Z : zS) (k : Int), z_ev X d (z_entry 264 [.ref 72] (mk S)) = z_ev X d (264, 64, L264, [], mk Z) ∧ FrTo (sI (sI S 72 0 0) 72 67 (-1)) Z ∧ gI Z 72 19 = 0 ∧ (0 ≤ k ∧ k ≤ 400) ∧ gI Z 72 21 = cls.length ∧ (1 ≤ cls.length ∧ cls.length ≤ 12) ∧ ROx Z k cls ∧ EndT Z ∧ gI Z 72 18 = -1 := by
  have e0 : z_ev X d (z_entry 264 [.ref 72] (mk S)) = z_ev X d (264, 0, L264, [], mk S) := rfl
  obtain ⟨S1, a1, a2, a3, a4⟩ := z197 (X := X) (d := d) (by omega) hT (S := sI (sI S 72 0 0) 72 67 (-1)) (ord := 1) (Or.inr rfl) (by rw [gI_sI, if_neg (by omega), gI_sI, if_neg (by omega)]; exact h1) (by rw [← h2]; funext i; rw [gI_sI, if_neg (by omega), gI_sI, if_neg (by omega)])
  have hK1 : KW S1 := hK.fr (fun a i q => by rw [a4.2.2.1 a i (by omega)]; rfl)
  have hL1 : KO S1 := by
    have e : ∀ i, gJ S1 111 i = gJ S 111 i := fun i => by rw [a4.2.2.1 _ _ (by omega)]; rfl
    unfold KO; rw [e, e, e, e]; exact hL
  have hl := ref_ord (X := X) (d := d) (by omega) hT 12 [] (0, 0) 0 S1 0 rfl a2 hK1 hL1 a3 (fun j cl w => by simp at w)
  have ent : z_ev X d (264, 0, L264, [], mk S) = z_evc X d 260 [.ref 72] (264, 19, L264, [], mk S1) := by
    simp (disch := first | omega | assumption | exact b01_rng _ | exact st_5 | exact st_12 | exact st_19 | (simp only [isSt_sI, isSt_sJ, isSt_sF, isSt_sG, isSt_sA]; assumption)) only [↓B264_0, ↓B264_15, ↓a_112, ↓a_77, ↓a_78, ↓a_79, ↓a_80, ↓n_112, ↓n_77, ↓n_78, ↓n_79, ↓n_80, ↓o_72, ↓r_72_10, ↓r_72_19, ↓r_72_21, ↓r_72_6, ↓r_72_64, ↓r_72_65, ↓r_72_7, ↓r_72_8, ↓r_72_9, ↓s_112, ↓s_77, ↓s_78, ↓s_79, ↓s_80, ↓w_72_0, ↓w_72_65, ↓w_72_66, ↓w_72_67, ↓o_72, a1, i_lit, i_add, i_sub, i_mul, i_neg, i_lt, i_le, i_eq, i32_gI, i64_gJ, i32_id, i32_to, i64_to, sI_i32, sJ_i64, b01_t, b01_f, i32_b01, b01_0, ↓a_s0, ↓n_s0, ↓a_s1, ↓n_s1, Int.add_zero, t_lt, f_lt, t_le, f_le, t_eq, f_eq, true_and, and_true, false_and, and_false, and_self, ↓reduceIte, z_bool_of, or_true, true_or, or_false, false_or, Int.neg_neg, not_true_eq_false, not_false_eq_true, lg_lt, lg_le, lg_gt, lg_ge, lg_eq, j_lit, j_add, j_sub, j_mul, j_neg, j_eq, i64_id, ij, ji, z_rt, Nat.reduceEqDiff, Nat.reduceAdd, Int.reduceAdd, Int.reduceSub, Int.reduceMul, Int.reduceNeg, Int.reduceLT, Int.reduceLE, Int.reduceEq]
  show match pText (tc b n) (pCl b n 1) 12 [] (0, 0) 0 with
    | .inl e => _
    | .inr (cls, p) => _
  cases hr : pText (tc b n) (pCl b n 1) 12 [] (0, 0) 0 with
  | inl e =>
    rw [hr] at hl
    obtain ⟨S2, b1, b2, b3, b4⟩ := hl
    have w1 := b2.1
    have c153' := fun {cm cp : Nat} {L : zL} {st : List Value} => c153 (X := X) (d := d) (by omega) (cm := cm) (cp := cp) (L := L) (st := st) (S := S2) (-6) (by omega)
    refine ⟨S2, ?_, a4.o.tr b3, b2, b4⟩
    rw [e0, ent, b1]
    unfold tellS
    simp (disch := first | omega | assumption | exact b01_rng _ | exact st_5 | exact st_12 | exact st_19 | (simp only [isSt_sI, isSt_sJ, isSt_sF, isSt_sG, isSt_sA]; assumption)) only [↓B264_50, ↓B264_57, ↓B264_63, ↓a_112, ↓a_77, ↓a_78, ↓a_79, ↓a_80, ↓n_112, ↓n_77, ↓n_78, ↓n_79, ↓n_80, ↓o_72, ↓r_72_10, ↓r_72_19, ↓r_72_21, ↓r_72_6, ↓r_72_64, ↓r_72_65, ↓r_72_7, ↓r_72_8, ↓r_72_9, ↓s_112, ↓s_77, ↓s_78, ↓s_79, ↓s_80, ↓w_72_0, ↓w_72_65, ↓w_72_66, ↓w_72_67, ↓o_72, c153', i_lit, i_add, i_sub, i_mul, i_neg, i_lt, i_le, i_eq, i32_gI, i64_gJ, i32_id, i32_to, i64_to, sI_i32, sJ_i64, b01_t, b01_f, i32_b01, b01_0, ↓a_s0, ↓n_s0, ↓a_s1, ↓n_s1, Int.add_zero, t_lt, f_lt, t_le, f_le, t_eq, f_eq, true_and, and_true, false_and, and_false, and_self, ↓reduceIte, z_bool_of, or_true, true_or, or_false, false_or, Int.neg_neg, not_true_eq_false, not_false_eq_true, lg_lt, lg_le, lg_gt, lg_ge, lg_eq, j_lit, j_add, j_sub, j_mul, j_neg, j_eq, i64_id, ij, ji, z_rt, Nat.reduceEqDiff, Nat.reduceAdd, Int.reduceAdd, Int.reduceSub, Int.reduceMul, Int.reduceNeg, Int.reduceLT, Int.reduceLE, Int.reduceEq, w1]
  | inr x =>
    obtain ⟨cls, p⟩ := x
    rw [hr] at hl
    obtain ⟨S2, k, b1, b2, b3, b4, b5, b6, b7, b8, b9, b10⟩ := hl
    refine ⟨S2, k, ?_, a4.o.tr b8, b2, b4, b5, b6, b7, b9, b10⟩
    rw [e0, ent, b1]
    simp (disch := first | omega | assumption | exact b01_rng _ | exact st_5 | exact st_12 | exact st_19 | (simp only [isSt_sI, isSt_sJ, isSt_sF, isSt_sG, isSt_sA]; assumption)) only [↓B264_50, ↓a_112, ↓a_77, ↓a_78, ↓a_79, ↓a_80, ↓n_112, ↓n_77, ↓n_78, ↓n_79, ↓n_80, ↓o_72, ↓r_72_10, ↓r_72_19, ↓r_72_21, ↓r_72_6, ↓r_72_64, ↓r_72_65, ↓r_72_7, ↓r_72_8, ↓r_72_9, ↓s_112, ↓s_77, ↓s_78, ↓s_79, ↓s_80, ↓w_72_0, ↓w_72_65, ↓w_72_66, ↓w_72_67, i_lit, i_add, i_sub, i_mul, i_neg, i_lt, i_le, i_eq, i32_gI, i64_gJ, i32_id, i32_to, i64_to, sI_i32, sJ_i64, b01_t, b01_f, i32_b01, b01_0, ↓a_s0, ↓n_s0, ↓a_s1, ↓n_s1, Int.add_zero, t_lt, f_lt, t_le, f_le, t_eq, f_eq, true_and, and_true, false_and, and_false, and_self, ↓reduceIte, z_bool_of, or_true, true_or, or_false, false_or, Int.neg_neg, not_true_eq_false, not_false_eq_true, lg_lt, lg_le, lg_gt, lg_ge, lg_eq, j_lit, j_add, j_sub, j_mul, j_neg, j_eq, i64_id, ij, ji, z_rt, Nat.reduceEqDiff, Nat.reduceAdd, Int.reduceAdd, Int.reduceSub, Int.reduceMul, Int.reduceNeg, Int.reduceLT, Int.reduceLE, Int.reduceEq, b2]
/-- the reference keeps what was -/
theorem l264a {had : Int} {f : Int → Int} : ∀ (c : Nat) (k : Int) (T : zS), k + c = 1008 → 0 ≤ k → (∀ i, gI T 77 i = f i) → z_ev X d (264, 77, [some (.ref 72), some (.int (Int32.ofInt had)), some (.int (Int32.ofInt k)), none], [], mk T) = z_ev X d (264, 102, [some (.ref 72), some (.int (Int32.ofInt had)), some (.int (Int32.ofInt 1008)), none], [], mk (sF T 79 k 1008 f)) := by
  intro c
  induction c with
  | zero =>
    intro k T hc hk hf
    have : k = 1008 := by omega
    subst this
    rw [sF_nil (by omega), B264_77]
    simp (disch := first | omega | assumption | exact b01_rng _ | exact st_5 | exact st_12 | exact st_19 | (simp only [isSt_sI, isSt_sJ, isSt_sF, isSt_sG, isSt_sA]; assumption)) only [i_lit, i_add, i_sub, i_mul, i_neg, i_lt, i_le, i_eq, i32_gI, i64_gJ, i32_id, i32_to, i64_to, sI_i32, sJ_i64, b01_t, b01_f, i32_b01, b01_0, ↓a_s0, ↓n_s0, ↓a_s1, ↓n_s1, Int.add_zero, t_lt, f_lt, t_le, f_le, t_eq, f_eq, true_and, and_true, false_and, and_false, and_self, ↓reduceIte, z_bool_of, or_true, true_or, or_false, false_or, Int.neg_neg, not_true_eq_false, not_false_eq_true, lg_lt, lg_le, lg_gt, lg_ge, lg_eq, j_lit, j_add, j_sub, j_mul, j_neg, j_eq, i64_id, ij, ji, z_rt, Nat.reduceEqDiff, Nat.reduceAdd, Int.reduceAdd, Int.reduceSub, Int.reduceMul, Int.reduceNeg, Int.reduceLT, Int.reduceLE, Int.reduceEq]
  | succ c ih =>
    intro k T hc hk hf
    have e := ih (k + 1) (sI T 79 k (f k)) (by omega) (by omega) (fun i => by rw [gI_sI, if_neg (by omega)]; exact hf i)
    rw [sF_step (S := T) (a := 79) (lo := k) (hi := 1008) (x := f k) (f := f) (by omega) rfl] at e
    have hk77 := hf k
    rw [← e, B264_77]
    simp (disch := first | omega | assumption | exact b01_rng _ | exact st_5 | exact st_12 | exact st_19 | (simp only [isSt_sI, isSt_sJ, isSt_sF, isSt_sG, isSt_sA]; assumption)) only [↓B264_84, ↓a_112, ↓a_77, ↓a_78, ↓a_79, ↓a_80, ↓n_112, ↓n_77, ↓n_78, ↓n_79, ↓n_80, ↓o_72, ↓r_72_10, ↓r_72_19, ↓r_72_21, ↓r_72_6, ↓r_72_64, ↓r_72_65, ↓r_72_7, ↓r_72_8, ↓r_72_9, ↓s_112, ↓s_77, ↓s_78, ↓s_79, ↓s_80, ↓w_72_0, ↓w_72_65, ↓w_72_66, ↓w_72_67, hk77, i_lit, i_add, i_sub, i_mul, i_neg, i_lt, i_le, i_eq, i32_gI, i64_gJ, i32_id, i32_to, i64_to, sI_i32, sJ_i64, b01_t, b01_f, i32_b01, b01_0, ↓a_s0, ↓n_s0, ↓a_s1, ↓n_s1, Int.add_zero, t_lt, f_lt, t_le, f_le, t_eq, f_eq, true_and, and_true, false_and, and_false, and_self, ↓reduceIte, z_bool_of, or_true, true_or, or_false, false_or, Int.neg_neg, not_true_eq_false, not_false_eq_true, lg_lt, lg_le, lg_gt, lg_ge, lg_eq, j_lit, j_add, j_sub, j_mul, j_neg, j_eq, i64_id, ij, ji, z_rt, Nat.reduceEqDiff, Nat.reduceAdd, Int.reduceAdd, Int.reduceSub, Int.reduceMul, Int.reduceNeg, Int.reduceLT, Int.reduceLE, Int.reduceEq]
theorem l264b {had : Int} {f : Int → Int} : ∀ (c : Nat) (k : Int) (T : zS), k + c = 16 → 0 ≤ k → (∀ i, gI T 78 i = f i) → z_ev X d (264, 104, [some (.ref 72), some (.int (Int32.ofInt had)), some (.int (Int32.ofInt k)), none], [], mk T) = z_ev X d (264, 128, [some (.ref 72), some (.int (Int32.ofInt had)), some (.int (Int32.ofInt 16)), none], [], mk (sF T 80 k 16 f)) := by
  intro c
  induction c with
  | zero =>
    intro k T hc hk hf
    have : k = 16 := by omega
    subst this
    rw [sF_nil (by omega), B264_104]
    simp (disch := first | omega | assumption | exact b01_rng _ | exact st_5 | exact st_12 | exact st_19 | (simp only [isSt_sI, isSt_sJ, isSt_sF, isSt_sG, isSt_sA]; assumption)) only [i_lit, i_add, i_sub, i_mul, i_neg, i_lt, i_le, i_eq, i32_gI, i64_gJ, i32_id, i32_to, i64_to, sI_i32, sJ_i64, b01_t, b01_f, i32_b01, b01_0, ↓a_s0, ↓n_s0, ↓a_s1, ↓n_s1, Int.add_zero, t_lt, f_lt, t_le, f_le, t_eq, f_eq, true_and, and_true, false_and, and_false, and_self, ↓reduceIte, z_bool_of, or_true, true_or, or_false, false_or, Int.neg_neg, not_true_eq_false, not_false_eq_true, lg_lt, lg_le, lg_gt, lg_ge, lg_eq, j_lit, j_add, j_sub, j_mul, j_neg, j_eq, i64_id, ij, ji, z_rt, Nat.reduceEqDiff, Nat.reduceAdd, Int.reduceAdd, Int.reduceSub, Int.reduceMul, Int.reduceNeg, Int.reduceLT, Int.reduceLE, Int.reduceEq]
  | succ c ih =>
    intro k T hc hk hf
    have e := ih (k + 1) (sI T 80 k (f k)) (by omega) (by omega) (fun i => by rw [gI_sI, if_neg (by omega)]; exact hf i)
    rw [sF_step (S := T) (a := 80) (lo := k) (hi := 16) (x := f k) (f := f) (by omega) rfl] at e
    have hk77 := hf k
    rw [← e, B264_104]
    simp (disch := first | omega | assumption | exact b01_rng _ | exact st_5 | exact st_12 | exact st_19 | (simp only [isSt_sI, isSt_sJ, isSt_sF, isSt_sG, isSt_sA]; assumption)) only [↓B264_110, ↓a_112, ↓a_77, ↓a_78, ↓a_79, ↓a_80, ↓n_112, ↓n_77, ↓n_78, ↓n_79, ↓n_80, ↓o_72, ↓r_72_10, ↓r_72_19, ↓r_72_21, ↓r_72_6, ↓r_72_64, ↓r_72_65, ↓r_72_7, ↓r_72_8, ↓r_72_9, ↓s_112, ↓s_77, ↓s_78, ↓s_79, ↓s_80, ↓w_72_0, ↓w_72_65, ↓w_72_66, ↓w_72_67, hk77, i_lit, i_add, i_sub, i_mul, i_neg, i_lt, i_le, i_eq, i32_gI, i64_gJ, i32_id, i32_to, i64_to, sI_i32, sJ_i64, b01_t, b01_f, i32_b01, b01_0, ↓a_s0, ↓n_s0, ↓a_s1, ↓n_s1, Int.add_zero, t_lt, f_lt, t_le, f_le, t_eq, f_eq, true_and, and_true, false_and, and_false, and_self, ↓reduceIte, z_bool_of, or_true, true_or, or_false, false_or, Int.neg_neg, not_true_eq_false, not_false_eq_true, lg_lt, lg_le, lg_gt, lg_ge, lg_eq, j_lit, j_add, j_sub, j_mul, j_neg, j_eq, i64_id, ij, ji, z_rt, Nat.reduceEqDiff, Nat.reduceAdd, Int.reduceAdd, Int.reduceSub, Int.reduceMul, Int.reduceNeg, Int.reduceLT, Int.reduceLE, Int.reduceEq]
/-- .. and gives it back -/
theorem l265a {had : Int} {f : Int → Int} : ∀ (c : Nat) (k : Int) (T : zS), k + c = 1008 → 0 ≤ k → (∀ i, gI T 79 i = f i) → z_ev X d (265, 8, [some (.ref 72), some (.int (Int32.ofInt had)), some (.int (Int32.ofInt k))], [], mk T) = z_ev X d (265, 33, [some (.ref 72), some (.int (Int32.ofInt had)), some (.int (Int32.ofInt 1008))], [], mk (sF T 77 k 1008 f)) := by
  intro c
  induction c with
  | zero =>
    intro k T hc hk hf
    have : k = 1008 := by omega
    subst this
    rw [sF_nil (by omega), B265_8]
    simp (disch := first | omega | assumption | exact b01_rng _ | exact st_5 | exact st_12 | exact st_19 | (simp only [isSt_sI, isSt_sJ, isSt_sF, isSt_sG, isSt_sA]; assumption)) only [i_lit, i_add, i_sub, i_mul, i_neg, i_lt, i_le, i_eq, i32_gI, i64_gJ, i32_id, i32_to, i64_to, sI_i32, sJ_i64, b01_t, b01_f, i32_b01, b01_0, ↓a_s0, ↓n_s0, ↓a_s1, ↓n_s1, Int.add_zero, t_lt, f_lt, t_le, f_le, t_eq, f_eq, true_and, and_true, false_and, and_false, and_self, ↓reduceIte, z_bool_of, or_true, true_or, or_false, false_or, Int.neg_neg, not_true_eq_false, not_false_eq_true, lg_lt, lg_le, lg_gt, lg_ge, lg_eq, j_lit, j_add, j_sub, j_mul, j_neg, j_eq, i64_id, ij, ji, z_rt, Nat.reduceEqDiff, Nat.reduceAdd, Int.reduceAdd, Int.reduceSub, Int.reduceMul, Int.reduceNeg, Int.reduceLT, Int.reduceLE, Int.reduceEq]
  | succ c ih =>
    intro k T hc hk hf
    have e := ih (k + 1) (sI T 77 k (f k)) (by omega) (by omega) (fun i => by rw [gI_sI, if_neg (by omega)]; exact hf i)
    rw [sF_step (S := T) (a := 77) (lo := k) (hi := 1008) (x := f k) (f := f) (by omega) rfl] at e
    have hk77 := hf k
    rw [← e, B265_8]
    simp (disch := first | omega | assumption | exact b01_rng _ | exact st_5 | exact st_12 | exact st_19 | (simp only [isSt_sI, isSt_sJ, isSt_sF, isSt_sG, isSt_sA]; assumption)) only [↓B265_15, ↓a_77, ↓a_78, ↓a_79, ↓a_80, ↓n_77, ↓n_78, ↓n_79, ↓n_80, ↓o_72, ↓r_72_10, ↓r_72_6, ↓r_72_7, ↓r_72_9, ↓s_77, ↓s_78, ↓s_79, ↓s_80, ↓w_72_8, hk77, i_lit, i_add, i_sub, i_mul, i_neg, i_lt, i_le, i_eq, i32_gI, i64_gJ, i32_id, i32_to, i64_to, sI_i32, sJ_i64, b01_t, b01_f, i32_b01, b01_0, ↓a_s0, ↓n_s0, ↓a_s1, ↓n_s1, Int.add_zero, t_lt, f_lt, t_le, f_le, t_eq, f_eq, true_and, and_true, false_and, and_false, and_self, ↓reduceIte, z_bool_of, or_true, true_or, or_false, false_or, Int.neg_neg, not_true_eq_false, not_false_eq_true, lg_lt, lg_le, lg_gt, lg_ge, lg_eq, j_lit, j_add, j_sub, j_mul, j_neg, j_eq, i64_id, ij, ji, z_rt, Nat.reduceEqDiff, Nat.reduceAdd, Int.reduceAdd, Int.reduceSub, Int.reduceMul, Int.reduceNeg, Int.reduceLT, Int.reduceLE, Int.reduceEq]
theorem l265b {had : Int} {f : Int → Int} : ∀ (c : Nat) (k : Int) (T : zS), k + c = 16 → 0 ≤ k → (∀ i, gI T 80 i = f i) → z_ev X d (265, 35, [some (.ref 72), some (.int (Int32.ofInt had)), some (.int (Int32.ofInt k))], [], mk T) = z_ev X d (265, 59, [some (.ref 72), some (.int (Int32.ofInt had)), some (.int (Int32.ofInt 16))], [], mk (sF T 78 k 16 f)) := by
  intro c
  induction c with
  | zero =>
    intro k T hc hk hf
    have : k = 16 := by omega
    subst this
    rw [sF_nil (by omega), B265_35]
    simp (disch := first | omega | assumption | exact b01_rng _ | exact st_5 | exact st_12 | exact st_19 | (simp only [isSt_sI, isSt_sJ, isSt_sF, isSt_sG, isSt_sA]; assumption)) only [i_lit, i_add, i_sub, i_mul, i_neg, i_lt, i_le, i_eq, i32_gI, i64_gJ, i32_id, i32_to, i64_to, sI_i32, sJ_i64, b01_t, b01_f, i32_b01, b01_0, ↓a_s0, ↓n_s0, ↓a_s1, ↓n_s1, Int.add_zero, t_lt, f_lt, t_le, f_le, t_eq, f_eq, true_and, and_true, false_and, and_false, and_self, ↓reduceIte, z_bool_of, or_true, true_or, or_false, false_or, Int.neg_neg, not_true_eq_false, not_false_eq_true, lg_lt, lg_le, lg_gt, lg_ge, lg_eq, j_lit, j_add, j_sub, j_mul, j_neg, j_eq, i64_id, ij, ji, z_rt, Nat.reduceEqDiff, Nat.reduceAdd, Int.reduceAdd, Int.reduceSub, Int.reduceMul, Int.reduceNeg, Int.reduceLT, Int.reduceLE, Int.reduceEq]
  | succ c ih =>
    intro k T hc hk hf
    have e := ih (k + 1) (sI T 78 k (f k)) (by omega) (by omega) (fun i => by rw [gI_sI, if_neg (by omega)]; exact hf i)
    rw [sF_step (S := T) (a := 78) (lo := k) (hi := 16) (x := f k) (f := f) (by omega) rfl] at e
    have hk77 := hf k
    rw [← e, B265_35]
    simp (disch := first | omega | assumption | exact b01_rng _ | exact st_5 | exact st_12 | exact st_19 | (simp only [isSt_sI, isSt_sJ, isSt_sF, isSt_sG, isSt_sA]; assumption)) only [↓B265_41, ↓a_77, ↓a_78, ↓a_79, ↓a_80, ↓n_77, ↓n_78, ↓n_79, ↓n_80, ↓o_72, ↓r_72_10, ↓r_72_6, ↓r_72_7, ↓r_72_9, ↓s_77, ↓s_78, ↓s_79, ↓s_80, ↓w_72_8, hk77, i_lit, i_add, i_sub, i_mul, i_neg, i_lt, i_le, i_eq, i32_gI, i64_gJ, i32_id, i32_to, i64_to, sI_i32, sJ_i64, b01_t, b01_f, i32_b01, b01_0, ↓a_s0, ↓n_s0, ↓a_s1, ↓n_s1, Int.add_zero, t_lt, f_lt, t_le, f_le, t_eq, f_eq, true_and, and_true, false_and, and_false, and_self, ↓reduceIte, z_bool_of, or_true, true_or, or_false, false_or, Int.neg_neg, not_true_eq_false, not_false_eq_true, lg_lt, lg_le, lg_gt, lg_ge, lg_eq, j_lit, j_add, j_sub, j_mul, j_neg, j_eq, i64_id, ij, ji, z_rt, Nat.reduceEqDiff, Nat.reduceAdd, Int.reduceAdd, Int.reduceSub, Int.reduceMul, Int.reduceNeg, Int.reduceLT, Int.reduceLE, Int.reduceEq]
def gbS (T : zS) (had : Int) : zS := sI (sF (sF (sF T 74 5 68 (fun j => gI T 77 (63 * 17 + (j - 5)))) 77 0 1008 (gI T 79)) 78 0 16 (gI T 80)) 72 8 had
theorem x265 (hd : 0 < d) {T : zS} {had : Int} (hh : 0 ≤ had ∧ had ≤ 16) : z_ev X d (z_entry 265 [.ref 72, .int (Int32.ofInt had)] (mk T)) = some (none, mk (gbS T had)) := by
  have c157' := fun {cm cp : Nat} {L : zL} {st : List Value} => c157 (X := X) (d := d) (by omega) (cm := cm) (cp := cp) (L := L) (st := st) (S := T) 17 (by omega)
  obtain ⟨T1, hT1⟩ : ∃ T1 : zS, T1 = sF T 74 5 68 (fun j => gI T 77 (63 * 17 + (j - 5))) := ⟨_, rfl⟩
  rw [← hT1] at c157'
  have a1 : z_ev X d (z_entry 265 [.ref 72, .int (Int32.ofInt had)] (mk T)) = z_ev X d (265, 8, [some (.ref 72), some (.int (Int32.ofInt had)), some (.int (Int32.ofInt 0))], [], mk T1) := by
    show z_ev X d (265, 0, [some (.ref 72), some (.int (Int32.ofInt had)), none], [], mk T) = _
    simp (disch := first | omega | assumption | exact b01_rng _ | exact st_5 | exact st_12 | exact st_19 | (simp only [isSt_sI, isSt_sJ, isSt_sF, isSt_sG, isSt_sA]; assumption)) only [↓B265_0, ↓B265_6, ↓o_72, c157', i_lit, i_add, i_sub, i_mul, i_neg, i_lt, i_le, i_eq, i32_gI, i64_gJ, i32_id, i32_to, i64_to, sI_i32, sJ_i64, b01_t, b01_f, i32_b01, b01_0, ↓a_s0, ↓n_s0, ↓a_s1, ↓n_s1, Int.add_zero, t_lt, f_lt, t_le, f_le, t_eq, f_eq, true_and, and_true, false_and, and_false, and_self, ↓reduceIte, z_bool_of, or_true, true_or, or_false, false_or, Int.neg_neg, not_true_eq_false, not_false_eq_true, lg_lt, lg_le, lg_gt, lg_ge, lg_eq, j_lit, j_add, j_sub, j_mul, j_neg, j_eq, i64_id, ij, ji, z_rt, Nat.reduceEqDiff, Nat.reduceAdd, Int.reduceAdd, Int.reduceSub, Int.reduceMul, Int.reduceNeg, Int.reduceLT, Int.reduceLE, Int.reduceEq]
  have e1 := l265a (X := X) (d := d) (had := had) (f := gI T 79) 1008 0 T1 (by omega) (by omega) (fun i => by rw [hT1, gI_sF, if_neg (by omega)])
  have e2 := l265b (X := X) (d := d) (had := had) (f := gI T 80) 16 0 (sF T1 77 0 1008 (gI T 79)) (by omega) (by omega) (fun i => by rw [gI_sF, if_neg (by omega), hT1, gI_sF, if_neg (by omega)])
  have a2 : z_ev X d (265, 33, [some (.ref 72), some (.int (Int32.ofInt had)), some (.int (Int32.ofInt 1008))], [], mk (sF T1 77 0 1008 (gI T 79))) = z_ev X d (265, 35, [some (.ref 72), some (.int (Int32.ofInt had)), some (.int (Int32.ofInt 0))], [], mk (sF T1 77 0 1008 (gI T 79))) := by
    simp (disch := first | omega | assumption | exact b01_rng _ | exact st_5 | exact st_12 | exact st_19 | (simp only [isSt_sI, isSt_sJ, isSt_sF, isSt_sG, isSt_sA]; assumption)) only [↓B265_33, i_lit, i_add, i_sub, i_mul, i_neg, i_lt, i_le, i_eq, i32_gI, i64_gJ, i32_id, i32_to, i64_to, sI_i32, sJ_i64, b01_t, b01_f, i32_b01, b01_0, ↓a_s0, ↓n_s0, ↓a_s1, ↓n_s1, Int.add_zero, t_lt, f_lt, t_le, f_le, t_eq, f_eq, true_and, and_true, false_and, and_false, and_self, ↓reduceIte, z_bool_of, or_true, true_or, or_false, false_or, Int.neg_neg, not_true_eq_false, not_false_eq_true, lg_lt, lg_le, lg_gt, lg_ge, lg_eq, j_lit, j_add, j_sub, j_mul, j_neg, j_eq, i64_id, ij, ji, z_rt, Nat.reduceEqDiff, Nat.reduceAdd, Int.reduceAdd, Int.reduceSub, Int.reduceMul, Int.reduceNeg, Int.reduceLT, Int.reduceLE, Int.reduceEq]
  unfold gbS
  rw [a1, e1, a2, e2, ← hT1]
  simp (disch := first | omega | assumption | exact b01_rng _ | exact st_5 | exact st_12 | exact st_19 | (simp only [isSt_sI, isSt_sJ, isSt_sF, isSt_sG, isSt_sA]; assumption)) only [↓B265_59, ↓a_77, ↓a_78, ↓a_79, ↓a_80, ↓n_77, ↓n_78, ↓n_79, ↓n_80, ↓o_72, ↓r_72_10, ↓r_72_6, ↓r_72_7, ↓r_72_9, ↓s_77, ↓s_78, ↓s_79, ↓s_80, ↓w_72_8, i_lit, i_add, i_sub, i_mul, i_neg, i_lt, i_le, i_eq, i32_gI, i64_gJ, i32_id, i32_to, i64_to, sI_i32, sJ_i64, b01_t, b01_f, i32_b01, b01_0, ↓a_s0, ↓n_s0, ↓a_s1, ↓n_s1, Int.add_zero, t_lt, f_lt, t_le, f_le, t_eq, f_eq, true_and, and_true, false_and, and_false, and_self, ↓reduceIte, z_bool_of, or_true, true_or, or_false, false_or, Int.neg_neg, not_true_eq_false, not_false_eq_true, lg_lt, lg_le, lg_gt, lg_ge, lg_eq, j_lit, j_add, j_sub, j_mul, j_neg, j_eq, i64_id, ij, ji, z_rt, Nat.reduceEqDiff, Nat.reduceAdd, Int.reduceAdd, Int.reduceSub, Int.reduceMul, Int.reduceNeg, Int.reduceLT, Int.reduceLE, Int.reduceEq]
end
