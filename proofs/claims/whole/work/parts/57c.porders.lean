/-! orders in pairs -/
theorem HiRel2.fr8 {S T S' T' : zS} (h : HiRel2 S T) (h1 : gI S' 27 3 = gI S 27 3) (h2 : gI T' 72 8 = gI T 72 8) (h3 : ∀ i, 0 ≤ i → i < 16 → gI S' 28 i = gI S 28 i ∧ gI S' 29 i = gI S 29 i ∧ gI S' 30 i = gI S 30 i) (h6 : ∀ i, 0 ≤ i → i < 1008 → gI T' 77 i = gI T 77 i) (h7 : ∀ i, 0 ≤ i → i < 16 → gI T' 78 i = gI T 78 i) (h8 : ∀ i, 5 ≤ i → i < 68 → gI T' 74 i = gI T 74 i) : HiRel2 S' T' := by
  obtain ⟨a1, a2⟩ := h
  have hs : ∀ k i, 0 ≤ k → 0 ≤ i → i < 63 → snap T' k i = snap T k i := fun k i q0 q1 q2 => by
    unfold snap; rw [h2]
    by_cases z : k < gI T 72 8
    · rw [if_pos z, if_pos z, h6 _ (by omega) (by omega)]
    · rw [if_neg z, if_neg z, h8 _ (by omega) (by omega)]
  refine ⟨by rw [h1, h2]; exact a1, fun k q1 q2 => ?_⟩
  rw [h2] at q2
  obtain ⟨b1, b2, b3, b4, b5, b6, b7⟩ := a2 k q1 q2
  obtain ⟨c1, c2, c3⟩ := h3 k q1 (by omega)
  have c7 := h7 k q1 (by omega)
  refine ⟨by rw [c1, c7]; exact b1, by rw [c7]; exact b2, by rw [c7]; exact b3, by rw [c7, c2]; exact b4, by rw [c7, c3]; exact b5, by rw [c7, hs _ _ (by omega) (by omega) (by omega)]; exact b6, fun i q3 q4 => ?_⟩
  rw [hs _ _ q1 q3 q4, b7 i q3 q4, c1, c2, c3]
  exact undoAt_congr (fun i w1 w2 => (hs _ _ (by omega) w1 w2).symm) q3 q4
theorem FxC.keep2 {S S' : zS} (h : FxC S) (hJ : ∀ a i, a = 66 ∨ a = 67 → gJ S' a i = gJ S a i) (hQ : ∀ i, gQ S' 58 i = gQ S 58 i) : FxC S' :=
  ⟨fun i q1 q2 => by rw [hJ 66 i (Or.inl rfl), hJ 67 i (Or.inr rfl)]; exact h.1 i q1 q2, by rw [hQ, hQ]; exact h.2⟩
section
variable {X : zX} {d : Nat}
/-- a text that can't be -/
theorem orders_bad {S S' Z : zS} {f : Int} (hI : Inv PM QL S) (hC : FrC5 (sI (sI S 4 19 (-1)) 35 1 0) S') (hf : r32 f) (hZ : FrTo (sI (sI (cR (sI S' 4 17 f) (-6)) 72 0 0) 72 67 (-1)) Z) (h18 : gI Z 72 18 = f) (hE : EndT Z) : Inv PM QL (tellS Z (-6)) ∧ Dyn S (tellS Z (-6)) := by
  have hG := good2.g
  obtain ⟨m1, m2, m3, m4, m5, m6, m7, m8, m9⟩ := id hI.2.2.2.1
  have hD1 : Dyn S (cR (sI S' 4 17 f) (-6)) := ((by (repeat (first | exact Dyn.rf | refine Dyn.sI (by decide) ?_ | refine Dyn.sF (by decide) ?_ | refine Dyn.sJ ?_ | refine Dyn.sG ?_ | refine Dyn.sQ (by decide) ?_)) : Dyn S (sI (sI S 4 19 (-1)) 35 1 0)).tr hC.1).tr (by unfold cR; (repeat (first | exact Dyn.rf | refine Dyn.sI (by decide) ?_ | refine Dyn.sF (by decide) ?_ | refine Dyn.sJ ?_ | refine Dyn.sG ?_ | refine Dyn.sQ (by decide) ?_)))
  have c1 : ∀ a i, ¬ (37 ≤ a ∧ a ≤ 55) → ¬ (a = 35 ∧ i = 1) → a ≠ 4 → a ≠ 71 → gI (cR (sI S' 4 17 f) (-6)) a i = gI S a i := fun a i q1 q2 q3 q4 => by
    rw [cR_I q3 q4, gI_sI, if_neg (by omega), hC.2.1 a i q1, gI_sI, if_neg q2, gI_sI, if_neg (by omega)]
  have c35 : gI (cR (sI S' 4 17 f) (-6)) 35 1 = 0 := by rw [cR_I (by omega) (by omega), gI_sI, if_neg (by omega), hC.2.1 _ _ (by omega), gI_sI, if_pos ⟨rfl, rfl⟩]; rfl
  have c418 : gI (cR (sI S' 4 17 f) (-6)) 4 18 = gI S 4 18 := by
    unfold cR; rw [gI_sI, if_neg (by omega), gI_sI, if_neg (by omega), gI_sI, if_neg (by omega), hC.2.1 _ _ (by omega), gI_sI, if_neg (by omega), gI_sI, if_neg (by omega)]
  have c419 : gI (cR (sI S' 4 17 f) (-6)) 4 19 = -1 := by
    unfold cR; rw [gI_sI, if_neg (by omega), gI_sI, if_neg (by omega), gI_sI, if_neg (by omega), hC.2.1 _ _ (by omega), gI_sI, if_neg (by omega), gI_sI, if_pos ⟨rfl, rfl⟩]; rfl
  have c417 : gI (cR (sI S' 4 17 f) (-6)) 4 17 = f := by unfold cR; simp (disch := first | omega | assumption | exact b01_rng _ | exact st_5 | exact st_12 | exact st_19 | (simp only [isSt_sI, isSt_sJ, isSt_sF, isSt_sG, isSt_sA]; assumption)) only [gI_sI, i_lit, i_add, i_sub, i_mul, i_neg, i_lt, i_le, i_eq, i32_gI, i64_gJ, i32_id, i32_to, i64_to, sI_i32, sJ_i64, b01_t, b01_f, i32_b01, b01_0, ↓a_s0, ↓n_s0, ↓a_s1, ↓n_s1, Int.add_zero, t_lt, f_lt, t_le, f_le, t_eq, f_eq, true_and, and_true, false_and, and_false, and_self, ↓reduceIte, z_bool_of, or_true, true_or, or_false, false_or, Int.neg_neg, not_true_eq_false, not_false_eq_true, lg_lt, lg_le, lg_gt, lg_ge, lg_eq, j_lit, j_add, j_sub, j_mul, j_neg, j_eq, i64_id, ij, ji, z_rt, Nat.reduceEqDiff, Nat.reduceAdd, Int.reduceAdd, Int.reduceSub, Int.reduceMul, Int.reduceNeg, Int.reduceLT, Int.reduceLE, Int.reduceEq, rix]
  have c416 : gI (cR (sI S' 4 17 f) (-6)) 4 16 = -6 := by unfold cR; simp (disch := first | omega | assumption | exact b01_rng _ | exact st_5 | exact st_12 | exact st_19 | (simp only [isSt_sI, isSt_sJ, isSt_sF, isSt_sG, isSt_sA]; assumption)) only [gI_sI, i_lit, i_add, i_sub, i_mul, i_neg, i_lt, i_le, i_eq, i32_gI, i64_gJ, i32_id, i32_to, i64_to, sI_i32, sJ_i64, b01_t, b01_f, i32_b01, b01_0, ↓a_s0, ↓n_s0, ↓a_s1, ↓n_s1, Int.add_zero, t_lt, f_lt, t_le, f_le, t_eq, f_eq, true_and, and_true, false_and, and_false, and_self, ↓reduceIte, z_bool_of, or_true, true_or, or_false, false_or, Int.neg_neg, not_true_eq_false, not_false_eq_true, lg_lt, lg_le, lg_gt, lg_ge, lg_eq, j_lit, j_add, j_sub, j_mul, j_neg, j_eq, i64_id, ij, ji, z_rt, Nat.reduceEqDiff, Nat.reduceAdd, Int.reduceAdd, Int.reduceSub, Int.reduceMul, Int.reduceNeg, Int.reduceLT, Int.reduceLE, Int.reduceEq, rix]
  have e71 : ∀ i, gI S' 71 i = gI S 71 i := fun i => by rw [hC.2.1 _ _ (by omega), gI_sI, if_neg (by omega), gI_sI, if_neg (by omega)]
  have c71 : ∀ i, i ≠ 4 → gI (cR (sI S' 4 17 f) (-6)) 71 i = gI S 71 i := fun i q => by
    unfold cR rix; rw [gI_sI, if_neg (by simp only [Int.reduceNeg, Int.reduceEq, if_false]; omega), gI_sI, if_neg (by omega), gI_sI, if_neg (by omega)]; exact e71 i
  have c714 : gI (cR (sI S' 4 17 f) (-6)) 71 4 = i32 (gI S 71 4 + 1) := by
    unfold cR; simp (disch := first | omega | assumption | exact b01_rng _ | exact st_5 | exact st_12 | exact st_19 | (simp only [isSt_sI, isSt_sJ, isSt_sF, isSt_sG, isSt_sA]; assumption)) only [gI_sI, i_lit, i_add, i_sub, i_mul, i_neg, i_lt, i_le, i_eq, i32_gI, i64_gJ, i32_id, i32_to, i64_to, sI_i32, sJ_i64, b01_t, b01_f, i32_b01, b01_0, ↓a_s0, ↓n_s0, ↓a_s1, ↓n_s1, Int.add_zero, t_lt, f_lt, t_le, f_le, t_eq, f_eq, true_and, and_true, false_and, and_false, and_self, ↓reduceIte, z_bool_of, or_true, true_or, or_false, false_or, Int.neg_neg, not_true_eq_false, not_false_eq_true, lg_lt, lg_le, lg_gt, lg_ge, lg_eq, j_lit, j_add, j_sub, j_mul, j_neg, j_eq, i64_id, ij, ji, z_rt, Nat.reduceEqDiff, Nat.reduceAdd, Int.reduceAdd, Int.reduceSub, Int.reduceMul, Int.reduceNeg, Int.reduceLT, Int.reduceLE, Int.reduceEq, rix, e71]
  have cJ : ∀ a i, gJ (cR (sI S' 4 17 f) (-6)) a i = gJ S a i := fun a i => hC.2.2.1 a i
  have cQ : ∀ a i, gQ (cR (sI S' 4 17 f) (-6)) a i = gQ S a i := fun a i => hC.2.2.2 a i
  generalize cR (sI S' 4 17 f) (-6) = C at *
  have z1 : ∀ a i, ¬ (a = 72 ∧ (i = 0 ∨ i = 67 ∨ (13 ≤ i ∧ i ≤ 16) ∨ (18 ≤ i ∧ i ≤ 21) ∨ i = 23 ∨ i = 26 ∨ i = 29 ∨ i = 30)) → ¬ (82 ≤ a ∧ a ≤ 86) → a ≠ 112 → gI Z a i = gI C a i := fun a i q1 q2 q3 => by
    rw [hZ.2.1 a i (by omega) q2 q3, gI_sI, if_neg (by omega), gI_sI, if_neg (by omega)]
  have z67 : gI Z 72 67 = -1 := by rw [hZ.2.1 72 67 (by omega) (by omega) (by omega), gI_sI, if_pos ⟨rfl, rfl⟩]; rfl
  have zJ : ∀ a i, ¬ (a = 72 ∧ i = 17) → gJ Z a i = gJ C a i := fun a i q => hZ.2.2.1 a i q
  have zQ : ∀ a i, gQ Z a i = gQ C a i := fun a i => hZ.2.2.2 a i
  have hD2 : Dyn C Z := (by (repeat (first | exact Dyn.rf | refine Dyn.sI (by decide) ?_ | refine Dyn.sF (by decide) ?_ | refine Dyn.sJ ?_ | refine Dyn.sG ?_ | refine Dyn.sQ (by decide) ?_)) : Dyn C (sI (sI C 72 0 0) 72 67 (-1))).tr hZ.1
  have eF : tellS Z (-6) = sI (sI Z 72 1 (-6)) 73 6 (gI Z 73 6 + 1) := by unfold tellS; rw [if_pos (by omega)]; rfl
  rw [eF]
  have hD : Dyn S (sI (sI Z 72 1 (-6)) 73 6 (gI Z 73 6 + 1)) := Dyn.sI (by decide) (Dyn.sI (by decide) (hD1.tr hD2))
  refine ⟨?_, hD⟩
  have t1 : ∀ a i, ¬ (a = 72 ∧ i = 1) → ¬ (a = 73 ∧ i = 6) → gI (sI (sI Z 72 1 (-6)) 73 6 (gI Z 73 6 + 1)) a i = gI Z a i := fun a i q1 q2 => by rw [gI_sI, if_neg q2, gI_sI, if_neg q1]
  have tJ : ∀ a i, gJ (sI (sI Z 72 1 (-6)) 73 6 (gI Z 73 6 + 1)) a i = gJ Z a i := fun _ _ => rfl
  have tQ : ∀ a i, gQ (sI (sI Z 72 1 (-6)) 73 6 (gI Z 73 6 + 1)) a i = gQ Z a i := fun _ _ => rfl
  have t721 : gI (sI (sI Z 72 1 (-6)) 73 6 (gI Z 73 6 + 1)) 72 1 = -6 := by rw [gI_sI, if_neg (by omega), gI_sI, if_pos ⟨rfl, rfl⟩]; rfl
  have t736 : gI (sI (sI Z 72 1 (-6)) 73 6 (gI Z 73 6 + 1)) 73 6 = i32 (gI Z 73 6 + 1) := by rw [gI_sI, if_pos ⟨rfl, rfl⟩]
  generalize sI (sI Z 72 1 (-6)) 73 6 (gI Z 73 6 + 1) = F at *
  have k : ∀ a i, ¬ (37 ≤ a ∧ a ≤ 55) → ¬ (a = 35 ∧ i = 1) → a ≠ 4 → a ≠ 71 → a ≠ 72 → a ≠ 73 → ¬ (82 ≤ a ∧ a ≤ 86) → a ≠ 112 → gI F a i = gI S a i := fun a i q1 q2 q3 q4 q5 q6 q7 q8 => by rw [t1 a i (by omega) (by omega), z1 a i (by omega) q7 q8, c1 a i q1 q2 q3 q4]
  have w : ∀ a i, a ≠ 4 → (a ≤ 34 ∨ (56 ≤ a ∧ a ≤ 70) ∨ (74 ≤ a ∧ a ≤ 81) ∨ a = 113) → gI F a i = gI S a i := fun a i q1 q2 => k a i (by omega) (by omega) q1 (by omega) (by omega) (by omega) (by omega) (by omega)
  have kQ : ∀ a i, gQ F a i = gQ S a i := fun a i => (tQ a i).trans ((zQ a i).trans (cQ a i))
  have kJ : ∀ a i, ¬ (a = 72 ∧ i = 17) → gJ F a i = gJ S a i := fun a i q => (tJ a i).trans ((zJ a i q).trans (cJ a i))
  have k72 : ∀ i, i = 8 ∨ i = 11 ∨ i = 71 → gI F 72 i = gI S 72 i := fun i q => by rw [t1 72 i (by omega) (by omega), z1 72 i (by omega) (by omega) (by omega), c1 72 i (by omega) (by omega) (by omega) (by omega)]
  refine hI.od hD (fun a i q => w a i (by omega) (by omega)) (k72 71 (by omega)) (fun i => kQ 26 i) (hI.2.2.2.2.2.1.1.fr hD (fun i => kQ _ _) (fun i => kQ _ _)) (fun a i q => kJ a i (by omega)) (hI.fxc.keep2 (fun a i q => kJ a i (by omega)) (fun i => kQ 58 i)) ?_ ((LH.of hI).fr hG hD (fun a i q => w a i (by omega) (by omega)) (fun a i q => kQ a i) (fun a i q => w a i (by omega) (by omega)) (k72 8 (by omega))) ?_ ?_
  · rw [t1 72 20 (by omega) (by omega)]; exact hE.2
  · unfold MsRel
    rw [t1 4 17 (by omega) (by omega), t1 4 18 (by omega) (by omega), t1 4 19 (by omega) (by omega), t1 4 16 (by omega) (by omega), z1 4 17 (by omega) (by omega) (by omega), z1 4 18 (by omega) (by omega) (by omega), z1 4 19 (by omega) (by omega) (by omega), z1 4 16 (by omega) (by omega) (by omega), c417, c418, c419, c416, t1 72 18 (by omega) (by omega), h18, k72 11 (by omega), t1 72 67 (by omega) (by omega), z67, t721]
    have e1 : ∀ i, gI F 71 i = gI C 71 i := fun i => by rw [t1 71 i (by omega) (by omega), z1 71 i (by omega) (by omega) (by omega)]
    have e2 : ∀ i, i ≠ 6 → gI F 73 i = gI S 73 i := fun i q => by rw [t1 73 i (by omega) (by omega), z1 73 i (by omega) (by omega) (by omega), c1 73 i (by omega) (by omega) (by omega) (by omega)]
    have e6 : gI F 73 6 = i32 (gI S 73 6 + 1) := by rw [t736, z1 73 6 (by omega) (by omega) (by omega), c1 73 6 (by omega) (by omega) (by omega) (by omega)]
    simp only [e1]
    rw [c71 0 (by omega), c71 1 (by omega), c71 2 (by omega), c71 3 (by omega), c714, e2 1 (by omega), e2 2 (by omega), e2 3 (by omega), e2 5 (by omega), e6, m9]
    exact ⟨trivial, m2, trivial, trivial, m5, m6, m7, m8, rfl⟩
  · have t13 : gI F 72 13 = 0 := by rw [t1 72 13 (by omega) (by omega)]; exact hE.1
    have t35 : gI F 35 1 = 0 := by rw [t1 35 1 (by omega) (by omega), z1 35 1 (by omega) (by omega) (by omega), c35]
    exact ⟨⟨by rw [t13, t35], by rw [t13]; omega, by rw [t13]; omega⟩, fun i q1 q2 => by rw [t13] at q2; omega⟩
/-- the class, its text being read: all to the clauses' end -/
theorem orders_cls (hd : 300 ≤ d) {S S' : zS} {cls : List Cl} {p : Nat × Int} (hI : Inv PM QL S) (hC : FrC5 (sI (sI S 4 19 (-1)) 35 1 0) S') (hl : gI S' 53 2 = cls.length) (hl2 : 1 ≤ cls.length ∧ cls.length ≤ 12) (h3 : 0 ≤ gI S' 53 3 ∧ gI S' 53 3 ≤ 436) (hT : CTx (IC S') (gI S' 53 3) (gI S' 55) cls) (hA : AllOK cls p.2) (h4 : gI S' 53 4 = p.2) (hp : p.2 = 0 ∨ p.2 = 1) (h52 : gI S' 52 1 = 1) (hO : ∀ cl ∈ cls, OrK cl) {T0 : zS} (hT0 : LH PM QL S T0) (hg0 : gI T0 74 = gI S 74) : ∃ (C4 S6 : zS) (y3 : Int) (y4 y5 : Option Value), z_ev X d (106, 59, [some (.ref 4), vI 1, none, none, none, none], [], mk (sI S' 4 17 (-1))) = z_ev X d (106, 181, L106 y3 y4 y5, [], mk S6) ∧ FrOd C4 S6 ∧ (∀ a i, ¬ (12 ≤ a ∧ a ≤ 18) → ¬ (31 ≤ a ∧ a ≤ 34) → ¬ (58 ≤ a ∧ a ≤ 65) → a ≠ 68 → gI C4 a i = gI (sI S' 4 17 (-1)) a i) ∧ (∀ a i, ¬ (64 ≤ a ∧ a ≤ 67) → a ≠ 69 → gJ C4 a i = gJ S a i) ∧ (∀ a i, a ≠ 17 → a ≠ 18 → a ≠ 58 → gQ C4 a i = gQ S a i) ∧ Dyn S C4 ∧ (StRel PM QL C4 12 (gI S 74) ∧ RefOK C4 12 ∧ gI C4 31 3 = gI S 27 3 ∧ ∀ i, 0 ≤ i → i < 16 → gI C4 32 i = gI S 28 i ∧ gI C4 33 i = gI S 29 i ∧ gI C4 34 i = gI S 30 i) ∧ ((gI S6 4 19 = -1 ∧ ∃ (T0' : zS) (done' latest' : Int), OR S6 T0' done' latest' p.2 ∧ ∀ (T : zS) (had : Int) (z3 : Option Value), r32 had → ORS T0 T 0 (-1) → RK2 T cls → ∃ (T' : zS) (w2 : Int) (w3 : Option Value), z_ev X d (264, 140, L264b had 0 z3, [], mk T) = z_ev X d (264, 206, L264b had w2 w3, [], mk T') ∧ FrOm T T' ∧ ORS T0' T' done' latest') ∨ ∃ jj : Int, (0 ≤ jj ∧ jj < 12) ∧ gI S6 4 19 = jj ∧ FxC S6 ∧ ∀ (T : zS) (had : Int) (z3 : Option Value), r32 had → ORS T0 T 0 (-1) → RK2 T cls → ∃ (T' : zS) (t' : Int), z_ev X d (264, 140, L264b had 0 z3, [], mk T) = z_ev X d (264, 177, L264b had jj (vI t'), [], mk T') ∧ FrOm T T' ∧ gI T' 72 20 = 0) := by
  have hG := good2.g
  obtain ⟨C0, hC0⟩ : ∃ C0 : zS, C0 = sI S' 4 17 (-1) := ⟨_, rfl⟩
  rw [← hC0]
  have k0 : ∀ a i, ¬ (37 ≤ a ∧ a ≤ 55) → ¬ (a = 35 ∧ i = 1) → a ≠ 4 → gI C0 a i = gI S a i := fun a i q1 q2 q3 => by
    rw [hC0, gI_sI, if_neg (by omega), hC.2.1 a i q1, gI_sI, if_neg q2, gI_sI, if_neg (by omega)]
  have kQ0 : ∀ a i, gQ C0 a i = gQ S a i := fun a i => by rw [hC0]; exact hC.2.2.2 a i
  have kJ0 : ∀ a i, gJ C0 a i = gJ S a i := fun a i => by rw [hC0]; exact hC.2.2.1 a i
  have hD0 : Dyn S C0 := by rw [hC0]; exact Dyn.sI (by decide) ((by (repeat (first | exact Dyn.rf | refine Dyn.sI (by decide) ?_ | refine Dyn.sF (by decide) ?_ | refine Dyn.sJ ?_ | refine Dyn.sG ?_ | refine Dyn.sQ (by decide) ?_)) : Dyn S (sI (sI S 4 19 (-1)) 35 1 0)).tr hC.1)
  have hL0 : LH PM QL C0 T0 := hT0.fr hG hD0 (fun a i q => k0 a i (by omega) (by omega) (by omega)) (fun a i q => kQ0 a i) (fun _ _ _ => rfl) rfl
  have R0 : RefOK C0 5 := hI.2.2.2.2.2.1.1.fr hD0 (fun i => kQ0 _ _) (fun i => kQ0 _ _)
  have S0 : StRel PM QL C0 5 (gI S 74) := by have := hL0.1; rw [hg0] at this; exact this
  -- kept
  obtain ⟨C1, hC1⟩ : ∃ C1 : zS, C1 = cpS C0 12 5 := ⟨_, rfl⟩
  obtain ⟨C2, hC2⟩ : ∃ C2 : zS, C2 = hcS C1 31 27 := ⟨_, rfl⟩
  obtain ⟨C3, hC3⟩ : ∃ C3 : zS, C3 = sI (sI C2 68 1 0) 68 2 (-1) := ⟨_, rfl⟩
  have k2 : ∀ a i, ¬ (31 ≤ a ∧ a ≤ 34) → gI C2 a i = gI C1 a i := fun a i q => by
    rw [hC2]; unfold hcS; rw [gI_sI, if_neg (by omega), gI_sF, if_neg (by omega), gI_sF, if_neg (by omega), gI_sF, if_neg (by omega)]
  have k3 : ∀ a i, ¬ (12 ≤ a ∧ a ≤ 18) → ¬ (31 ≤ a ∧ a ≤ 34) → a ≠ 68 → gI C3 a i = gI C0 a i := fun a i q1 q2 q3 => by
    rw [hC3, gI_sI, if_neg (by omega), gI_sI, if_neg (by omega), k2 a i q2, hC1, cpS_o (by omega)]
  have kQ3 : ∀ a i, a ≠ 17 → a ≠ 18 → gQ C3 a i = gQ C0 a i := fun a i q1 q2 => by
    have : gQ C3 a i = gQ C1 a i := by rw [hC3, hC2]; rfl
    rw [this, hC1, cpS_q (by omega)]
  have kJ3 : ∀ a i, gJ C3 a i = gJ C0 a i := fun a i => by rw [hC3, hC2, hC1]; rfl
  have hD1 : Dyn C0 C1 := by rw [hC1]; exact Dyn.cp (by omega)
  have hD3 : Dyn C0 C3 := by
    rw [hC3, hC2]; unfold hcS
    exact Dyn.sI (by decide) (Dyn.sI (by decide) (Dyn.sI (by decide) (Dyn.sF (by decide) (Dyn.sF (by decide) (Dyn.sF (by decide) hD1)))))
  have S3 : StRel PM QL C3 5 (gI S 74) := S0.fr hG hD3 (fun i => k3 _ _ (by omega) (by omega) (by omega)) (fun i => k3 _ _ (by omega) (by omega) (by omega)) (fun i => k3 _ _ (by omega) (by omega) (by omega)) (fun i => k3 _ _ (by omega) (by omega) (by omega)) (fun i => k3 _ _ (by omega) (by omega) (by omega)) (fun i => kQ3 _ _ (by omega) (by omega)) (fun i => kQ3 _ _ (by omega) (by omega)) (fun _ => rfl)
  have X3 : FxC C3 := hI.fxc.keep2 (fun a i _ => (kJ3 a i).trans (kJ0 a i)) (fun i => (kQ3 58 i (by omega) (by omega)).trans (kQ0 58 i))
  have S12 : StRel PM QL C1 12 (gI S 74) := by rw [hC1]; exact S0.cp good2 st_12 (fun _ _ _ => rfl)
  have R12 : RefOK C1 12 := by rw [hC1]; exact R0.cp
  have k31 : ∀ a i, 12 ≤ a → a ≤ 18 → gI C3 a i = gI C1 a i := fun a i q1 q2 => by rw [hC3, gI_sI, if_neg (by omega), gI_sI, if_neg (by omega), k2 a i (by omega)]
  have kQ31 : ∀ a i, gQ C3 a i = gQ C1 a i := fun a i => by rw [hC3, hC2]; rfl
  have hD31 : Dyn C1 C3 := by
    rw [hC3, hC2]; unfold hcS
    exact Dyn.sI (by decide) (Dyn.sI (by decide) (Dyn.sI (by decide) (Dyn.sF (by decide) (Dyn.sF (by decide) (Dyn.sF (by decide) Dyn.rf)))))
  obtain ⟨C4, F, w1, w2, w3, w4, w5⟩ := x146 (X := X) (d := 40) (by omega) (S := C3) (g := gI S 74) (asks := p.2) (done := 0) (latest := -1) S3 X3 hp (by rw [hC3, gI_sI, if_neg (by omega), gI_sI, if_pos ⟨rfl, rfl⟩]; rfl) (by rw [hC3, gI_sI, if_pos ⟨rfl, rfl⟩]; rfl)
  have hD4 : Dyn C0 C4 := hD3.tr w2.1
  have k4 : ∀ a i, ¬ (12 ≤ a ∧ a ≤ 18) → ¬ (31 ≤ a ∧ a ≤ 34) → ¬ (58 ≤ a ∧ a ≤ 65) → a ≠ 68 → gI C4 a i = gI C0 a i := fun a i q1 q2 q3 q4 => by rw [w2.2.1 a i q4 q3, k3 a i q1 q2 q4]
  have kQ4 : ∀ a i, a ≠ 17 → a ≠ 18 → a ≠ 58 → gQ C4 a i = gQ C0 a i := fun a i q1 q2 q3 => by rw [w2.2.2.2 a i q3, kQ3 a i q1 q2]
  have hL4 : LH PM QL C4 T0 := hL0.fr hG hD4 (fun a i q => k4 a i (by omega) (by omega) (by omega) (by omega)) (fun a i q => kQ4 a i (by omega) (by omega) (by omega)) (fun _ _ _ => rfl) rfl
  have hO4 : OR C4 T0 0 (-1) p.2 := ⟨hL4, w3, ⟨F, by rw [hg0]; exact w4, by rw [hg0]; exact w5⟩, by omega, by omega⟩
  have e52 : ∀ a i, 52 ≤ a → a ≤ 55 → gI C4 a i = gI S' a i := fun a i q1 q2 => by rw [k4 a i (by omega) (by omega) (by omega) (by omega), hC0, gI_sI, if_neg (by omega)]
  have eIC : IC C4 = IC S' := IC_fr (fun i => e52 54 i (by omega) (by omega)) (e52 52 1 (by omega) (by omega))
  have e55 : gI C4 55 = gI S' 55 := funext fun i => e52 55 i (by omega) (by omega)
  have hK4 : CK C4 cls p.2 := ⟨by rw [e52 52 1 (by omega) (by omega)]; exact h52, by rw [e52 53 3 (by omega) (by omega)]; exact h3, by rw [eIC, e55, e52 53 3 (by omega) (by omega)]; exact hT, hA, hO, by rw [e52 53 4 (by omega) (by omega)]; exact h4, by rw [e52 53 2 (by omega) (by omega)]; exact hl, hl2.2, hp⟩
  have e19 : gI C4 4 19 = -1 := by
    rw [k4 4 19 (by omega) (by omega) (by omega) (by omega), hC0, gI_sI, if_neg (by omega), hC.2.1 4 19 (by omega), gI_sI, if_neg (by omega), gI_sI, if_pos ⟨rfl, rfl⟩]; rfl
  obtain ⟨S6, y3, y4, y5, u1, u2, u3⟩ := clauses (X := X) (d := d) (by omega) cls.length 0 C4 T0 0 (-1) none none (by omega) hK4 hO4 (by omega) e19
  refine ⟨C4, S6, y3, y4, y5, ?_, u2, k4, fun a i q1 q2 => by rw [w2.2.2.1 a i q1 q2, kJ3, kJ0], fun a i q1 q2 q3 => by rw [kQ4 a i q1 q2 q3, kQ0], hD0.tr hD4, ⟨?_, ?_, ?_, fun i q1 q2 => ?_⟩, u3⟩
  · have c63' := fun {cm cp : Nat} {L : zL} {st : List Value} => c63 (X := X) (d := d) (by omega) (cm := cm) (cp := cp) (L := L) (st := st) (S := C0) (s := 12) (o := 5) st_12 st_5 (by omega) R0
    rw [← hC1] at c63'
    have c20' := fun {cm cp : Nat} {L : zL} {st : List Value} => c20a (X := X) (d := d) (by omega) (cm := cm) (cp := cp) (L := L) (st := st) (S := C1)
    rw [← hC2] at c20'
    have ev1 := fun {cm cp : Nat} {L : zL} {st : List Value} => evV (X := X) (d := d) (by omega) w1 (cm := cm) (cp := cp) (L := L) (st := st)
    have e534 : gI C3 53 4 = p.2 := by rw [k3 53 4 (by omega) (by omega) (by omega), hC0, gI_sI, if_neg (by omega)]; exact h4
    have e534' : gI (sI (sI C2 68 1 0) 68 2 (-1)) 53 4 = p.2 := by rw [← hC3]; exact e534
    have a1 : z_ev X d (106, 59, [some (.ref 4), vI 1, none, none, none, none], [], mk C0) = z_ev X d (106, 113, L106 ((0 : Nat) : Int) none none, [], mk C4) := by
      rw [show (((0 : Nat) : Int)) = 0 from rfl]
      rw [hC3] at ev1
      rcases hp with z | z <;> rw [z] at ev1 e534' <;> simp (disch := first | omega | assumption | exact b01_rng _ | exact st_5 | exact st_12 | exact st_19 | (simp only [isSt_sI, isSt_sJ, isSt_sF, isSt_sG, isSt_sA]; assumption)) only [↓B106_59, ↓B106_70, ↓B106_81, ↓B106_111, ↓a_68, ↓n_68, ↓o_19, ↓o_27, ↓o_31, ↓o_37, ↓o_4, ↓o_5, ↓o_52, ↓o_53, ↓r_37_5, ↓r_4_0, ↓r_4_1, ↓r_4_12, ↓r_4_19, ↓r_4_4, ↓r_4_5, ↓r_4_6, ↓r_4_7, ↓r_4_9, ↓r_52_0, ↓r_53_2, ↓r_53_4, ↓s_68, ↓w_35_1, ↓w_4_17, ↓w_4_19, ↓o_12, ↓o_31, ↓o_4, ↓s_68, ↓r_53_4, ↓r_52_0, c63', c20', e534', ev1, i_lit, i_add, i_sub, i_mul, i_neg, i_lt, i_le, i_eq, i32_gI, i64_gJ, i32_id, i32_to, i64_to, sI_i32, sJ_i64, b01_t, b01_f, i32_b01, b01_0, ↓a_s0, ↓n_s0, ↓a_s1, ↓n_s1, Int.add_zero, t_lt, f_lt, t_le, f_le, t_eq, f_eq, true_and, and_true, false_and, and_false, and_self, ↓reduceIte, z_bool_of, or_true, true_or, or_false, false_or, Int.neg_neg, not_true_eq_false, not_false_eq_true, lg_lt, lg_le, lg_gt, lg_ge, lg_eq, j_lit, j_add, j_sub, j_mul, j_neg, j_eq, i64_id, ij, ji, z_rt, Nat.reduceEqDiff, Nat.reduceAdd, Int.reduceAdd, Int.reduceSub, Int.reduceMul, Int.reduceNeg, Int.reduceLT, Int.reduceLE, Int.reduceEq]
    rw [a1, u1]
  · exact S12.fr hG (hD31.tr w2.1) (fun i => (w2.2.1 _ _ (by omega) (by omega)).trans (k31 _ _ (by omega) (by omega))) (fun i => (w2.2.1 _ _ (by omega) (by omega)).trans (k31 _ _ (by omega) (by omega))) (fun i => (w2.2.1 _ _ (by omega) (by omega)).trans (k31 _ _ (by omega) (by omega))) (fun i => (w2.2.1 _ _ (by omega) (by omega)).trans (k31 _ _ (by omega) (by omega))) (fun i => (w2.2.1 _ _ (by omega) (by omega)).trans (k31 _ _ (by omega) (by omega))) (fun i => (w2.2.2.2 _ _ (by omega)).trans (kQ31 _ _)) (fun i => (w2.2.2.2 _ _ (by omega)).trans (kQ31 _ _)) (fun _ => rfl)
  · exact R12.fr (hD31.tr w2.1) (fun i => (w2.2.2.2 _ _ (by omega)).trans (kQ31 _ _)) (fun i => (w2.2.2.2 _ _ (by omega)).trans (kQ31 _ _))
  · rw [w2.2.1 31 3 (by omega) (by omega), hC3, gI_sI, if_neg (by omega), gI_sI, if_neg (by omega), hC2]
    unfold hcS
    rw [gI_sI, if_pos ⟨rfl, rfl⟩, i32_gI, hC1, cpS_o (by omega), k0 27 3 (by omega) (by omega) (by omega)]
  · have e : ∀ a, a = 28 ∨ a = 29 ∨ a = 30 → gI C1 a i = gI S a i := fun a q => by rw [hC1, cpS_o (by omega), k0 a i (by omega) (by omega) (by omega)]
    rw [w2.2.1 32 i (by omega) (by omega), w2.2.1 33 i (by omega) (by omega), w2.2.1 34 i (by omega) (by omega), hC3, gI_sI, if_neg (by omega), gI_sI, if_neg (by omega), gI_sI, if_neg (by omega), gI_sI, if_neg (by omega), gI_sI, if_neg (by omega), gI_sI, if_neg (by omega), hC2]
    unfold hcS
    refine ⟨?_, ?_, ?_⟩
    · rw [gI_sI, if_neg (by omega), gI_sF, if_neg (by omega), gI_sF, if_neg (by omega), gI_sF, if_pos ⟨rfl, q1, q2⟩, i32_gI]; exact e 28 (by omega)
    · rw [gI_sI, if_neg (by omega), gI_sF, if_neg (by omega), gI_sF, if_pos ⟨rfl, q1, q2⟩, i32_gI]; exact e 29 (by omega)
    · rw [gI_sI, if_neg (by omega), gI_sF, if_pos ⟨rfl, q1, q2⟩, i32_gI]; exact e 30 (by omega)
/-- the reference, its text being read: to the clauses -/
theorem orders_ref (hd : 20 ≤ d) {S Z : zS} (hg : gI Z 74 = gI S 74) (h77 : ∀ i, gI Z 77 i = gI S 77 i) (h78 : ∀ i, gI Z 78 i = gI S 78 i) (h8 : gI Z 72 8 = gI S 72 8) (h20 : gI Z 72 20 = 0) (hb : 0 ≤ gI S 72 8 ∧ gI S 72 8 ≤ 16) : ∃ Z4 : zS, z_ev X d (264, 64, L264, [], mk Z) = z_ev X d (264, 140, L264b (gI S 72 8) 0 none, [], mk Z4) ∧ ORS (sF S 77 1071 1134 (fun j => gI S 74 (5 + (j - 1071)))) Z4 0 (-1) ∧ Dyn Z Z4 ∧ (∀ a i, ¬ (77 ≤ a ∧ a ≤ 80) → ¬ (a = 72 ∧ (i = 65 ∨ i = 66)) → gI Z4 a i = gI Z a i) ∧ (∀ a i, gJ Z4 a i = gJ Z a i) ∧ (∀ a i, gQ Z4 a i = gQ Z a i) ∧ (∀ i, 5 ≤ i → i < 68 → gI Z4 77 (1071 + (i - 5)) = gI S 74 i) ∧ (∀ i, 0 ≤ i → i < 1008 → gI Z4 79 i = gI S 77 i) ∧ ∀ i, 0 ≤ i → i < 16 → gI Z4 80 i = gI S 78 i := by
  obtain ⟨Z1, hZ1⟩ : ∃ Z1 : zS, Z1 = sF Z 77 (63 * 17) (63 * 17 + 63) (fun j => gI Z 74 (5 + (j - 63 * 17))) := ⟨_, rfl⟩
  obtain ⟨Z2, hZ2⟩ : ∃ Z2 : zS, Z2 = sF Z1 79 0 1008 (gI Z1 77) := ⟨_, rfl⟩
  obtain ⟨Z3, hZ3⟩ : ∃ Z3 : zS, Z3 = sF Z2 80 0 16 (gI Z2 78) := ⟨_, rfl⟩
  obtain ⟨Z4, hZ4⟩ : ∃ Z4 : zS, Z4 = sI (sI Z3 72 65 0) 72 66 (-1) := ⟨_, rfl⟩
  have k3 : ∀ a i, ¬ (77 ≤ a ∧ a ≤ 80) → gI Z3 a i = gI Z a i := fun a i q => by
    rw [hZ3, gI_sF, if_neg (by omega), hZ2, gI_sF, if_neg (by omega), hZ1, gI_sF, if_neg (by omega)]
  have k77 : ∀ i, gI Z4 77 i = gI Z1 77 i := fun i => by rw [hZ4, gI_sI, if_neg (by omega), gI_sI, if_neg (by omega), hZ3, gI_sF, if_neg (by omega), hZ2, gI_sF, if_neg (by omega)]
  have h77a : ∀ i, gI Z1 77 i = gI (sF S 77 1071 1134 (fun j => gI S 74 (5 + (j - 1071)))) 77 i := fun i => by
    rw [hZ1, gI_sF, gI_sF]
    by_cases z : 1071 ≤ i ∧ i < 1134
    · rw [if_pos ⟨rfl, by omega, by omega⟩, if_pos ⟨rfl, z⟩]
      show i32 (gI Z 74 (5 + (i - 63 * 17))) = i32 (gI S 74 (5 + (i - 1071)))
      rw [hg]; rfl
    · rw [if_neg (by omega), if_neg (by omega)]; exact h77 i
  have k78 : ∀ i, gI Z4 78 i = gI S 78 i := fun i => by rw [hZ4, gI_sI, if_neg (by omega), gI_sI, if_neg (by omega), hZ3, gI_sF, if_neg (by omega), hZ2, gI_sF, if_neg (by omega), hZ1, gI_sF, if_neg (by omega)]; exact h78 i
  refine ⟨Z4, ?_, ⟨⟨fun a i q => ?_, ?_⟩, ?_, ?_, ?_⟩, ?_, fun a i q1 q2 => ?_, fun a i => by rw [hZ4, hZ3, hZ2, hZ1]; rfl, fun a i => by rw [hZ4, hZ3, hZ2, hZ1]; rfl, fun i q1 q2 => ?_, fun i q1 q2 => ?_, fun i q1 q2 => ?_⟩
  · have c156' := fun {cm cp : Nat} {L : zL} {st : List Value} => c156 (X := X) (d := d) (by omega) (cm := cm) (cp := cp) (L := L) (st := st) (S := Z) 17 (by omega)
    rw [← hZ1] at c156'
    have e8 : gI Z1 72 8 = gI S 72 8 := by rw [hZ1, gI_sF, if_neg (by omega)]; exact h8
    have e1 := l264a (X := X) (d := d) (had := gI S 72 8) (f := gI Z1 77) 1008 0 Z1 (by omega) (by omega) (fun _ => rfl)
    rw [← hZ2] at e1
    have e2 := l264b (X := X) (d := d) (had := gI S 72 8) (f := gI Z2 78) 16 0 Z2 (by omega) (by omega) (fun _ => rfl)
    rw [← hZ3] at e2
    have a1 : z_ev X d (264, 64, L264, [], mk Z) = z_ev X d (264, 77, [some (.ref 72), some (.int (Int32.ofInt (gI S 72 8))), some (.int (Int32.ofInt 0)), none], [], mk Z1) := by
      simp (disch := first | omega | assumption | exact b01_rng _ | exact st_5 | exact st_12 | exact st_19 | (simp only [isSt_sI, isSt_sJ, isSt_sF, isSt_sG, isSt_sA]; assumption)) only [↓B264_64, ↓B264_70, ↓a_112, ↓a_77, ↓a_78, ↓a_79, ↓a_80, ↓n_112, ↓n_77, ↓n_78, ↓n_79, ↓n_80, ↓o_72, ↓r_72_10, ↓r_72_19, ↓r_72_21, ↓r_72_6, ↓r_72_64, ↓r_72_65, ↓r_72_7, ↓r_72_8, ↓r_72_9, ↓s_112, ↓s_77, ↓s_78, ↓s_79, ↓s_80, ↓w_72_0, ↓w_72_65, ↓w_72_66, ↓w_72_67, ↓o_72, c156', e8, i_lit, i_add, i_sub, i_mul, i_neg, i_lt, i_le, i_eq, i32_gI, i64_gJ, i32_id, i32_to, i64_to, sI_i32, sJ_i64, b01_t, b01_f, i32_b01, b01_0, ↓a_s0, ↓n_s0, ↓a_s1, ↓n_s1, Int.add_zero, t_lt, f_lt, t_le, f_le, t_eq, f_eq, true_and, and_true, false_and, and_false, and_self, ↓reduceIte, z_bool_of, or_true, true_or, or_false, false_or, Int.neg_neg, not_true_eq_false, not_false_eq_true, lg_lt, lg_le, lg_gt, lg_ge, lg_eq, j_lit, j_add, j_sub, j_mul, j_neg, j_eq, i64_id, ij, ji, z_rt, Nat.reduceEqDiff, Nat.reduceAdd, Int.reduceAdd, Int.reduceSub, Int.reduceMul, Int.reduceNeg, Int.reduceLT, Int.reduceLE, Int.reduceEq]
    have a2 : z_ev X d (264, 102, [some (.ref 72), some (.int (Int32.ofInt (gI S 72 8))), some (.int (Int32.ofInt 1008)), none], [], mk Z2) = z_ev X d (264, 104, [some (.ref 72), some (.int (Int32.ofInt (gI S 72 8))), some (.int (Int32.ofInt 0)), none], [], mk Z2) := by
      simp (disch := first | omega | assumption | exact b01_rng _ | exact st_5 | exact st_12 | exact st_19 | (simp only [isSt_sI, isSt_sJ, isSt_sF, isSt_sG, isSt_sA]; assumption)) only [↓B264_102, i_lit, i_add, i_sub, i_mul, i_neg, i_lt, i_le, i_eq, i32_gI, i64_gJ, i32_id, i32_to, i64_to, sI_i32, sJ_i64, b01_t, b01_f, i32_b01, b01_0, ↓a_s0, ↓n_s0, ↓a_s1, ↓n_s1, Int.add_zero, t_lt, f_lt, t_le, f_le, t_eq, f_eq, true_and, and_true, false_and, and_false, and_self, ↓reduceIte, z_bool_of, or_true, true_or, or_false, false_or, Int.neg_neg, not_true_eq_false, not_false_eq_true, lg_lt, lg_le, lg_gt, lg_ge, lg_eq, j_lit, j_add, j_sub, j_mul, j_neg, j_eq, i64_id, ij, ji, z_rt, Nat.reduceEqDiff, Nat.reduceAdd, Int.reduceAdd, Int.reduceSub, Int.reduceMul, Int.reduceNeg, Int.reduceLT, Int.reduceLE, Int.reduceEq]
    rw [a1, e1, a2, e2, hZ4]
    simp (disch := first | omega | assumption | exact b01_rng _ | exact st_5 | exact st_12 | exact st_19 | (simp only [isSt_sI, isSt_sJ, isSt_sF, isSt_sG, isSt_sA]; assumption)) only [↓B264_128, ↓a_112, ↓a_77, ↓a_78, ↓a_79, ↓a_80, ↓n_112, ↓n_77, ↓n_78, ↓n_79, ↓n_80, ↓o_72, ↓r_72_10, ↓r_72_19, ↓r_72_21, ↓r_72_6, ↓r_72_64, ↓r_72_65, ↓r_72_7, ↓r_72_8, ↓r_72_9, ↓s_112, ↓s_77, ↓s_78, ↓s_79, ↓s_80, ↓w_72_0, ↓w_72_65, ↓w_72_66, ↓w_72_67, i_lit, i_add, i_sub, i_mul, i_neg, i_lt, i_le, i_eq, i32_gI, i64_gJ, i32_id, i32_to, i64_to, sI_i32, sJ_i64, b01_t, b01_f, i32_b01, b01_0, ↓a_s0, ↓n_s0, ↓a_s1, ↓n_s1, Int.add_zero, t_lt, f_lt, t_le, f_le, t_eq, f_eq, true_and, and_true, false_and, and_false, and_self, ↓reduceIte, z_bool_of, or_true, true_or, or_false, false_or, Int.neg_neg, not_true_eq_false, not_false_eq_true, lg_lt, lg_le, lg_gt, lg_ge, lg_eq, j_lit, j_add, j_sub, j_mul, j_neg, j_eq, i64_id, ij, ji, z_rt, Nat.reduceEqDiff, Nat.reduceAdd, Int.reduceAdd, Int.reduceSub, Int.reduceMul, Int.reduceNeg, Int.reduceLT, Int.reduceLE, Int.reduceEq]
  · rcases q with rfl | rfl | rfl
    · rw [hZ4, gI_sI, if_neg (by omega), gI_sI, if_neg (by omega), k3 74 i (by omega), hg, gI_sF, if_neg (by omega)]
    · rw [k77, h77a]
    · rw [k78, gI_sF, if_neg (by omega)]
  · rw [hZ4, gI_sI, if_neg (by omega), gI_sI, if_neg (by omega), k3 72 8 (by omega), h8, gI_sF, if_neg (by omega)]
  · rw [hZ4, gI_sI, if_neg (by omega), gI_sI, if_pos ⟨rfl, rfl⟩]; rfl
  · rw [hZ4, gI_sI, if_pos ⟨rfl, rfl⟩]; rfl
  · rw [hZ4, gI_sI, if_neg (by omega), gI_sI, if_neg (by omega), k3 72 20 (by omega)]; exact h20
  · rw [hZ4, hZ3, hZ2, hZ1]
    exact Dyn.sI (by decide) (Dyn.sI (by decide) (Dyn.sF (by decide) (Dyn.sF (by decide) (Dyn.sF (by decide) Dyn.rf))))
  · rw [hZ4, gI_sI, if_neg (by omega), gI_sI, if_neg (by omega), k3 a i q1]
  · rw [k77, h77a, gI_sF, if_pos ⟨rfl, by omega, by omega⟩]
    show i32 (gI S 74 (5 + (1071 + (i - 5) - 1071))) = _
    rw [i32_gI, show 5 + (1071 + (i - 5) - 1071) = i by omega]
  · rw [hZ4, gI_sI, if_neg (by omega), gI_sI, if_neg (by omega), hZ3, gI_sF, if_neg (by omega), hZ2, gI_sF, if_pos ⟨rfl, q1, q2⟩, i32_gI, h77a, gI_sF, if_neg (by omega)]
  · rw [hZ4, gI_sI, if_neg (by omega), gI_sI, if_neg (by omega), hZ3, gI_sF, if_pos ⟨rfl, q1, q2⟩, i32_gI, hZ2, gI_sF, if_neg (by omega), hZ1, gI_sF, if_neg (by omega)]
    exact h78 i
end
