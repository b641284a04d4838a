/-! image, back -/
theorem cpS_o {S : zS} {s o b : Nat} {i : Int} (h : b < s ∨ s + 6 < b) : gI (cpS S s o) b i = gI S b i := by
  unfold cpS
  rw [gI_sI, if_neg (by omega), gI_sI, if_neg (by omega), gI_sI, if_neg (by omega), gI_sI, if_neg (by omega), gI_sI, if_neg (by omega), gI_sR, gI_sR, gI_sF, if_neg (by omega), gI_sF, if_neg (by omega), gI_sF, if_neg (by omega), gI_sF, if_neg (by omega)]
theorem cpS_q {S : zS} {s o b : Nat} {i : Int} (h : b ≠ s + 5 ∧ b ≠ s + 6) : gQ (cpS S s o) b i = gQ S b i := by
  unfold cpS
  rw [gQ_sI, gQ_sI, gQ_sI, gQ_sI, gQ_sI, gQ_sR, if_neg (by omega), gQ_sR, if_neg (by omega)]
  rfl
theorem cpS_h {S : zS} {s o b : Nat} : gH (cpS S s o) b = gH S b := rfl
theorem cpS_j {S : zS} {s o b : Nat} {i : Int} : gJ (cpS S s o) b i = gJ S b i := rfl
theorem cpS_n {S : zS} {s o : Nat} : gN (cpS S s o) = gN S ∧ gW (cpS S s o) = gW S := ⟨rfl, rfl⟩
theorem cpS_f {S : zS} {s o : Nat} {j : Int} (h : 6 ≤ j ∧ j ≤ 10) : gI (cpS S s o) s j = gI S o j := by
  unfold cpS
  rcases (show j = 6 ∨ j = 7 ∨ j = 8 ∨ j = 9 ∨ j = 10 by omega) with rfl | rfl | rfl | rfl | rfl <;> simp (disch := first | omega | assumption | exact b01_rng _ | exact st_5 | exact st_12 | exact st_19 | (simp only [isSt_sI, isSt_sJ, isSt_sF, isSt_sG, isSt_sA]; assumption)) only [gI_sI, i_lit, i_add, i_sub, i_mul, i_neg, i_lt, i_le, i_eq, i32_gI, i64_gJ, i32_id, i32_to, i64_to, sI_i32, sJ_i64, b01_t, b01_f, i32_b01, b01_0, ↓a_s0, ↓n_s0, ↓a_s1, ↓n_s1, Int.add_zero, t_lt, f_lt, t_le, f_le, t_eq, f_eq, true_and, and_true, false_and, and_false, and_self, ↓reduceIte, z_bool_of, or_true, true_or, or_false, false_or, Int.neg_neg, not_true_eq_false, not_false_eq_true, lg_lt, lg_le, lg_gt, lg_ge, lg_eq, j_lit, j_add, j_sub, j_mul, j_neg, j_eq, i64_id, ij, ji, z_rt, Nat.reduceEqDiff, Nat.reduceAdd, Int.reduceAdd, Int.reduceSub, Int.reduceMul, Int.reduceNeg, Int.reduceLT, Int.reduceLE, Int.reduceEq]
theorem cpS_1 {S : zS} {s o : Nat} {j : Int} (h : 0 ≤ j ∧ j < 60) : gI (cpS S s o) (s + 1) j = gI S (o + 1) j := by
  unfold cpS
  rw [gI_sI, if_neg (by omega), gI_sI, if_neg (by omega), gI_sI, if_neg (by omega), gI_sI, if_neg (by omega), gI_sI, if_neg (by omega), gI_sR, gI_sR, gI_sF, if_neg (by omega), gI_sF, if_neg (by omega), gI_sF, if_neg (by omega), gI_sF, if_pos ⟨rfl, h.1, h.2⟩, i32_gI]
theorem cpS_2 {S : zS} {s o : Nat} {j : Int} (h : 0 ≤ j ∧ j < 3) : gI (cpS S s o) (s + 2) j = gI S (o + 2) j := by
  unfold cpS
  rw [gI_sI, if_neg (by omega), gI_sI, if_neg (by omega), gI_sI, if_neg (by omega), gI_sI, if_neg (by omega), gI_sI, if_neg (by omega), gI_sR, gI_sR, gI_sF, if_neg (by omega), gI_sF, if_neg (by omega), gI_sF, if_pos ⟨rfl, h.1, h.2⟩, i32_gI]
theorem cpS_3 {S : zS} {s o : Nat} {j : Int} (h : 0 ≤ j ∧ j < 6) : gI (cpS S s o) (s + 3) j = gI S (o + 3) j := by
  unfold cpS
  rw [gI_sI, if_neg (by omega), gI_sI, if_neg (by omega), gI_sI, if_neg (by omega), gI_sI, if_neg (by omega), gI_sI, if_neg (by omega), gI_sR, gI_sR, gI_sF, if_neg (by omega), gI_sF, if_pos ⟨rfl, h.1, h.2⟩, i32_gI]
theorem cpS_4 {S : zS} {s o : Nat} {j : Int} (h : 0 ≤ j ∧ j < 6) : gI (cpS S s o) (s + 4) j = gI S (o + 4) j := by
  unfold cpS
  rw [gI_sI, if_neg (by omega), gI_sI, if_neg (by omega), gI_sI, if_neg (by omega), gI_sI, if_neg (by omega), gI_sI, if_neg (by omega), gI_sR, gI_sR, gI_sF, if_pos ⟨rfl, h.1, h.2⟩, i32_gI]
theorem cpS_5 {S : zS} {s o : Nat} {j : Int} (h : 0 ≤ j ∧ j < 6) : gQ (cpS S s o) (s + 5) j = gQ S (o + 5) j := by
  unfold cpS
  rw [gQ_sI, gQ_sI, gQ_sI, gQ_sI, gQ_sI, gQ_sR, if_neg (by omega), gQ_sR, if_pos ⟨rfl, h.1, h.2⟩]
theorem cpS_6 {S : zS} {s o : Nat} {j : Int} (h : 0 ≤ j ∧ j < 6) : gQ (cpS S s o) (s + 6) j = gQ S (o + 6) j := by
  unfold cpS
  rw [gQ_sI, gQ_sI, gQ_sI, gQ_sI, gQ_sI, gQ_sR, if_pos ⟨rfl, h.1, h.2⟩]
/-- a metre, a law that stays, whatever state is copied into -/
theorem Good2.cpP {P Q : zP} (h : Good2 P Q) {S : zS} {a s o : Nat} {r : Int → Int} (hp : P S a r) (hs : isSt S s) : P (cpS S s o) a r := by
  have ha := (h.2.2.1 S a r hp).1
  have hne : ∀ j k : Nat, j < 4 → k < 7 → a + j ≠ s + k := by
    intro j k hj hk
    by_cases q : 114 ≤ s
    · exact h.offP hp hs q hj hk
    · rcases hs with q2 | ⟨w1, -⟩
      · omega
      · omega
  refine h.1 S _ a r hp (fun j hj => ⟨fun i => cpS_o ?_, fun i => cpS_q ⟨hne j 5 hj (by omega), hne j 6 hj (by omega)⟩, rfl⟩)
  have e0 := hne j 0 hj (by omega)
  have e1 := hne j 1 hj (by omega)
  have e2 := hne j 2 hj (by omega)
  have e3 := hne j 3 hj (by omega)
  have e4 := hne j 4 hj (by omega)
  have e5 := hne j 5 hj (by omega)
  have e6 := hne j 6 hj (by omega)
  omega
theorem Good2.cpQ {P Q : zP} (h : Good2 P Q) {S : zS} {a s o : Nat} {r : Int → Int} (hp : Q S a r) (hs : isSt S s) : Q (cpS S s o) a r := by
  have ha := (h.2.2.2 S a r hp).1
  have hne : ∀ j k : Nat, j < 3 → k < 7 → a + j ≠ s + k := by
    intro j k hj hk
    by_cases q : 114 ≤ s
    · exact h.offQ hp hs q hj hk
    · rcases hs with q2 | ⟨w1, -⟩
      · omega
      · omega
  refine h.2.1 S _ a r hp (fun j hj => ⟨fun i => cpS_o ?_, fun i => cpS_q ⟨hne j 5 hj (by omega), hne j 6 hj (by omega)⟩, rfl⟩)
  have e0 := hne j 0 hj (by omega)
  have e1 := hne j 1 hj (by omega)
  have e2 := hne j 2 hj (by omega)
  have e3 := hne j 3 hj (by omega)
  have e4 := hne j 4 hj (by omega)
  have e5 := hne j 5 hj (by omega)
  have e6 := hne j 6 hj (by omega)
  omega
/-- the copy is related as its source was -/
theorem StRel.cp {P Q : zP} (h2 : Good2 P Q) {S : zS} {s o : Nat} {g g' : Int → Int} (h : StRel P Q S o g) (hs : isSt S s) (hg : ∀ i, 0 ≤ i → i < 7892 → g' i = g i) : StRel P Q (cpS S s o) s g' := by
  obtain ⟨b1, b2, b3, b4, b5, b6, b7, b8, b9, b10⟩ := h
  have e0 := hg 0 (by omega) (by omega)
  have e1 := hg 1 (by omega) (by omega)
  have e2 := hg 2 (by omega) (by omega)
  have e3 := hg 3 (by omega) (by omega)
  have e4 := hg 4 (by omega) (by omega)
  refine ⟨?_, ?_, ?_, ?_, ?_, ?_, fun p q1 q2 => ?_, fun k q1 q2 => ?_, fun k q1 q2 => ?_, fun k q1 q2 => ?_⟩
  · rw [cpS_f (by omega), e0]; exact b1
  · rw [cpS_f (by omega), e1]; exact b2
  · rw [cpS_f (by omega), e2]; exact b3
  · rw [cpS_f (by omega), e3]; exact b4
  · rw [cpS_f (by omega), e3, e4]; exact b5
  · rw [cpS_2 (by omega), cpS_2 (by omega), cpS_2 (by omega), hg 5 (by omega) (by omega), hg 6 (by omega) (by omega), hg 7 (by omega) (by omega)]; exact b6
  · rw [cpS_1 (by omega), cpS_1 (by omega), cpS_1 (by omega), hg _ (by omega) (by omega), hg _ (by omega) (by omega), hg _ (by omega) (by omega)]; exact b7 p q1 q2
  · rw [e2] at q2
    rw [cpS_3 (by omega), cpS_4 (by omega), hg _ (by omega) (by omega), hg _ (by omega) (by omega)]; exact b8 k q1 q2
  · rw [e1] at q2
    obtain ⟨a, w1, w2⟩ := b9 k q1 q2
    refine ⟨a, by rw [cpS_5 (by omega)]; exact w1, ?_⟩
    rw [blk_eq (g := g) (b := 80 + 402 * k) (fun i _ _ => hg _ (by omega) (by omega))]
    exact h2.cpP w2 hs
  · rw [e3] at q2
    obtain ⟨a, w1, w2⟩ := b10 k q1 q2
    refine ⟨a, by rw [cpS_6 (by omega)]; exact w1, ?_⟩
    rw [blk_eq (g := g) (b := 2492 + 900 * k) (fun i _ _ => hg _ (by omega) (by omega))]
    exact h2.cpQ w2 hs
theorem RefOK.cp {S : zS} {s o : Nat} (h : RefOK S o) : RefOK (cpS S s o) s :=
  ⟨fun k a q1 q2 q3 => by rw [cpS_5 ⟨q1, q2⟩] at q3; exact h.1 k a q1 q2 q3, fun k a q1 q2 q3 => by rw [cpS_6 ⟨q1, q2⟩] at q3; exact h.2 k a q1 q2 q3⟩
