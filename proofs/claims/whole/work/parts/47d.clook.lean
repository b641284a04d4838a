/-! lookAt: its loops -/
abbrev L44 (s : Nat) (o : Option Nat) (p : Int) (x4 : Option Value) : zL := [some (.ref 58), some (.ref s), some (lv o), some (.int (Int32.ofInt p)), x4]
section
variable {X : zX} {d : Nat} {s : Nat} {o : Option Nat} {cls : List Cl} {g : Int → Int} {p : Int}
theorem judS_fr {S T : zS} {v : Int} (hF : FrSk 60 (sI S 61 2 v) T) : FrA S (judS T cls g p v) ∧ (∀ i, i ≠ 2 → gI (judS T cls g p v) 61 i = gI S 61 i) ∧ (∀ i, gI (judS T cls g p v) 58 i = gI S 58 i) := by
  refine ⟨((FrA.I (by omega)).tr hF.a).tr ((FrA.I (by omega)).tr (FrA.I (by omega))), fun i q => ?_, fun i => ?_⟩
  · unfold judS; rw [gI_sI, if_neg (by omega), gI_sI, if_neg (by omega), hF.2.1 61 i (by omega), gI_sI, if_neg (by omega)]
  · unfold judS; rw [gI_sI, if_neg (by omega), gI_sI, if_neg (by omega), hF.2.1 58 i (by omega), gI_sI, if_neg (by omega)]
theorem LkW.fr {S S' : zS} (h : LkW S g p) (he : ∀ i, i ≠ 2 → gI S' 61 i = gI S 61 i) : LkW S' g p := by
  unfold LkW
  rw [he 0 (by omega), he 1 (by omega), he 3 (by omega), he 4 (by omega), he 5 (by omega), he 6 (by omega), he 7 (by omega)]
  exact h
theorem v44 (hd : 2 < d) {S : zS} {v : Int} (hL : LawC S o cls) (hG : GB g) (hp : 0 ≤ p ∧ p < 20) (hv : 0 ≤ v ∧ v ≤ 2) (hW : LkW S g p) (hK : LkV S cls g p v) : ∃ S' : zS, z_ev X d (44, 136, L44 s o p (vI v), [], mk S) = z_ev X d (44, 136, L44 s o p (vI (v + 1)), [], mk S') ∧ FrA S S' ∧ LkW S' g p ∧ LkV S' cls g p (v + 1) ∧ ∀ i, gI S' 58 i = gI S 58 i := by
  have hw := hW.d hv hK.1
  obtain ⟨T, e1, e2⟩ := x45 (X := X) (d := 2) (by omega) (S := sI S 61 2 v) (hL.fr (fun a ha => (Dyn.sI (by decide) Dyn.rf : Dyn S (sI S 61 2 v)).1 a ha)) hw hG hp hv
  have ev := fun {cm cp : Nat} {L : zL} {st : List Value} => evV (X := X) (d := d) hd e1 (cm := cm) (cp := cp) (L := L) (st := st)
  obtain ⟨f1, f2, f3⟩ := judS_fr (cls := cls) (g := g) (p := p) e2
  refine ⟨judS T cls g p v, ?_, f1, hW.fr f2, hK.jud e2 hp hv hL.1, f3⟩
  cases o with
  | none =>
    rw [B44_136_nl2]
    simp (disch := first | omega | assumption | exact b01_rng _ | exact st_5 | exact st_12 | exact st_19 | (simp only [isSt_sI, isSt_sJ, isSt_sF, isSt_sG, isSt_sA]; assumption)) only [↓B44_142_nl2, ↓B44_158_nl2, ↓a_61, ↓a_62, ↓n_61, ↓n_62, ↓o_19, ↓o_5, ↓o_58, ↓r_19_6, ↓r_58_1, ↓r_58_2, ↓r_58_8, ↓r_58_9, ↓r_5_6, ↓s_61, ↓s_62, ↓w_58_8, ↓w_58_9, ↓o_58, i_lit, i_add, i_sub, i_mul, i_neg, i_lt, i_le, i_eq, i32_gI, i64_gJ, i32_id, i32_to, i64_to, sI_i32, sJ_i64, b01_t, b01_f, i32_b01, b01_0, ↓a_s0, ↓n_s0, ↓a_s1, ↓n_s1, Int.add_zero, t_lt, f_lt, t_le, f_le, t_eq, f_eq, true_and, and_true, false_and, and_false, and_self, ↓reduceIte, z_bool_of, or_true, true_or, or_false, false_or, Int.neg_neg, not_true_eq_false, not_false_eq_true, lg_lt, lg_le, lg_gt, lg_ge, lg_eq, j_lit, j_add, j_sub, j_mul, j_neg, j_eq, i64_id, ij, ji, z_rt, Nat.reduceEqDiff, Nat.reduceAdd, Int.reduceAdd, Int.reduceSub, Int.reduceMul, Int.reduceNeg, Int.reduceLT, Int.reduceLE, Int.reduceEq, ev]
  | some a =>
    rw [B44_136]
    simp (disch := first | omega | assumption | exact b01_rng _ | exact st_5 | exact st_12 | exact st_19 | (simp only [isSt_sI, isSt_sJ, isSt_sF, isSt_sG, isSt_sA]; assumption)) only [↓B44_142, ↓B44_158, ↓a_61, ↓a_62, ↓n_61, ↓n_62, ↓o_19, ↓o_5, ↓o_58, ↓r_19_6, ↓r_58_1, ↓r_58_2, ↓r_58_8, ↓r_58_9, ↓r_5_6, ↓s_61, ↓s_62, ↓w_58_8, ↓w_58_9, ↓o_58, i_lit, i_add, i_sub, i_mul, i_neg, i_lt, i_le, i_eq, i32_gI, i64_gJ, i32_id, i32_to, i64_to, sI_i32, sJ_i64, b01_t, b01_f, i32_b01, b01_0, ↓a_s0, ↓n_s0, ↓a_s1, ↓n_s1, Int.add_zero, t_lt, f_lt, t_le, f_le, t_eq, f_eq, true_and, and_true, false_and, and_false, and_self, ↓reduceIte, z_bool_of, or_true, true_or, or_false, false_or, Int.neg_neg, not_true_eq_false, not_false_eq_true, lg_lt, lg_le, lg_gt, lg_ge, lg_eq, j_lit, j_add, j_sub, j_mul, j_neg, j_eq, i64_id, ij, ji, z_rt, Nat.reduceEqDiff, Nat.reduceAdd, Int.reduceAdd, Int.reduceSub, Int.reduceMul, Int.reduceNeg, Int.reduceLT, Int.reduceLE, Int.reduceEq, ev]
def cutI (S : zS) (s : Nat) (p : Int) : Int32 := Int32.ofInt (gI S 58 9) ||| (Int32.ofInt (gI S (s + 1) (3 * p + 1)) <<< (Int32.ofInt (p + 1) &&& Int32.ofInt 31))
def lkS (S : zS) (s : Nat) (p : Int) : zS := sI (sI (sI (sI (sI S 58 9 (cutI S s p).toInt) 61 0 p) 61 1 (gI S (s + 1) (3 * p))) 61 3 (gI S (s + 1) (3 * p + 1))) 61 4 (gI S (s + 1) (3 * p + 2))
theorem CutR.step {S : zS} (hp : 0 ≤ p ∧ p < 20) (h : CutR S g p) (he : gI S (s + 1) (3 * p + 1) = g (28 + p)) (hb : g (28 + p) = 0 ∨ g (28 + p) = 1) {y : Int} (hy : y = (cutI S s p).toInt) : ∀ i : Nat, i < 32 → (bt y i = true ↔ i = 0 ∨ (1 ≤ i ∧ (i : Int) ≤ p + 1 ∧ g (28 + ((i : Int) - 1)) = 1)) := by
  intro i hi
  obtain ⟨pn, rfl⟩ : ∃ pn : Nat, p = pn := ⟨p.toNat, by omega⟩
  subst hy
  unfold cutI
  rw [bt_to, or_b, Bool.or_eq_true, he, show ((pn : Int) + 1) = ((pn + 1 : Nat) : Int) by omega, shl_b _ (by omega)]
  have := h i hi
  unfold bt at this
  rw [this]
  by_cases q : i = pn + 1
  · subst q
    rw [decide_eq_true (show pn + 1 < 32 by omega), decide_eq_false (show ¬ pn + 1 < pn + 1 by omega), Nat.sub_self, show 28 + (((pn + 1 : Nat) : Int) - 1) = 28 + (pn : Int) by omega]
    rcases hb with e | e
    · rw [e, show (Int32.ofInt 0).toBitVec.getLsbD 0 = false from rfl]
      constructor
      · rintro ((w | w) | w)
        · exact Or.inl w
        · omega
        · cases w
      · rintro (w | w)
        · omega
        · omega
    · rw [e, show (Int32.ofInt 1).toBitVec.getLsbD 0 = true from rfl]
      constructor
      · intro _; exact Or.inr ⟨by omega, by omega, rfl⟩
      · intro _; exact Or.inr rfl
  · have hz : ((decide (i < 32) && !decide (i < pn + 1)) && (Int32.ofInt (g (28 + (pn : Int)))).toBitVec.getLsbD (i - (pn + 1))) = false := by
      by_cases w : i < pn + 1
      · rw [decide_eq_true w]; rw [Bool.not_true, Bool.and_false, Bool.false_and]
      · have : (Int32.ofInt (g (28 + (pn : Int)))).toBitVec.getLsbD (i - (pn + 1)) = false := by
          rcases hb with e | e
          · rw [e, zero_b]
          · rw [e, show (Int32.ofInt 1).toBitVec = 1#32 from rfl, BitVec.getLsbD_one, decide_eq_false (show ¬ i - (pn + 1) = 0 by omega), Bool.and_false]
        rw [this, Bool.and_false]
    rw [hz]
    constructor
    · rintro (w | w)
      · rcases w with w | w
        · exact Or.inl w
        · exact Or.inr ⟨w.1, by omega, w.2.2⟩
      · cases w
    · rintro (w | w)
      · exact Or.inl (Or.inl w)
      · exact Or.inl (Or.inr ⟨w.1, by omega, w.2.2⟩)
theorem p44 (hd : 2 < d) {S : zS} (hs : isSt S s) (hp : 0 ≤ p ∧ p < 20) (h8 : gI S 58 8 = g 0) (hg : p < g 0 ∧ g 0 ≤ 20) {x4 : Option Value} : z_ev X d (44, 57, L44 s o p x4, [], mk S) = z_ev X d (44, 136, L44 s o p (vI 0), [], mk (lkS S s p)) := by
  have n1 : ¬ (s + 1 = 58) := by have := hs.off 1 (by omega); omega
  have n2 : ¬ (s + 1 = 61) := by have := hs.off 1 (by omega); omega
  unfold lkS cutI
  cases o with
  | none =>
    rw [B44_57_nl2]
    simp (disch := first | omega | assumption | exact b01_rng _ | exact st_5 | exact st_12 | exact st_19 | (simp only [isSt_sI, isSt_sJ, isSt_sF, isSt_sG, isSt_sA]; assumption)) only [↓B44_65_nl2, ↓B44_71_nl2, ↓B44_82_nl2, ↓B44_108_nl2, ↓B44_120_nl2, ↓B44_132_nl2, ↓a_61, ↓a_62, ↓n_61, ↓n_62, ↓o_19, ↓o_5, ↓o_58, ↓r_19_6, ↓r_58_1, ↓r_58_2, ↓r_58_8, ↓r_58_9, ↓r_5_6, ↓s_61, ↓s_62, ↓w_58_8, ↓w_58_9, ↓st_o, c67, i_lit, i_add, i_sub, i_mul, i_neg, i_lt, i_le, i_eq, i32_gI, i64_gJ, i32_id, i32_to, i64_to, sI_i32, sJ_i64, b01_t, b01_f, i32_b01, b01_0, ↓a_s0, ↓n_s0, ↓a_s1, ↓n_s1, Int.add_zero, t_lt, f_lt, t_le, f_le, t_eq, f_eq, true_and, and_true, false_and, and_false, and_self, ↓reduceIte, z_bool_of, or_true, true_or, or_false, false_or, Int.neg_neg, not_true_eq_false, not_false_eq_true, lg_lt, lg_le, lg_gt, lg_ge, lg_eq, j_lit, j_add, j_sub, j_mul, j_neg, j_eq, i64_id, ij, ji, z_rt, Nat.reduceEqDiff, Nat.reduceAdd, Int.reduceAdd, Int.reduceSub, Int.reduceMul, Int.reduceNeg, Int.reduceLT, Int.reduceLE, Int.reduceEq, gI_sI, gI_sJ, gI_sF, gI_sG, gI_sQ, gI_sA, gJ_sI, gJ_sJ, gJ_sF, gJ_sG, gJ_sQ, gJ_sA, gQ_sI, gQ_sJ, gQ_sF, gQ_sG, gQ_sQ, gQ_sA, gH_sI, gH_sJ, gH_sF, gH_sG, gH_sQ, gH_sA, gN_sI, gN_sJ, gN_sF, gN_sG, gN_sQ, gN_sA, gW_sI, gW_sJ, gW_sF, gW_sG, gW_sQ, gW_sA, h8, n1, n2, isSt_sI]
  | some a =>
    rw [B44_57]
    simp (disch := first | omega | assumption | exact b01_rng _ | exact st_5 | exact st_12 | exact st_19 | (simp only [isSt_sI, isSt_sJ, isSt_sF, isSt_sG, isSt_sA]; assumption)) only [↓B44_65, ↓B44_71, ↓B44_82, ↓B44_108, ↓B44_120, ↓B44_132, ↓a_61, ↓a_62, ↓n_61, ↓n_62, ↓o_19, ↓o_5, ↓o_58, ↓r_19_6, ↓r_58_1, ↓r_58_2, ↓r_58_8, ↓r_58_9, ↓r_5_6, ↓s_61, ↓s_62, ↓w_58_8, ↓w_58_9, ↓st_o, c67, i_lit, i_add, i_sub, i_mul, i_neg, i_lt, i_le, i_eq, i32_gI, i64_gJ, i32_id, i32_to, i64_to, sI_i32, sJ_i64, b01_t, b01_f, i32_b01, b01_0, ↓a_s0, ↓n_s0, ↓a_s1, ↓n_s1, Int.add_zero, t_lt, f_lt, t_le, f_le, t_eq, f_eq, true_and, and_true, false_and, and_false, and_self, ↓reduceIte, z_bool_of, or_true, true_or, or_false, false_or, Int.neg_neg, not_true_eq_false, not_false_eq_true, lg_lt, lg_le, lg_gt, lg_ge, lg_eq, j_lit, j_add, j_sub, j_mul, j_neg, j_eq, i64_id, ij, ji, z_rt, Nat.reduceEqDiff, Nat.reduceAdd, Int.reduceAdd, Int.reduceSub, Int.reduceMul, Int.reduceNeg, Int.reduceLT, Int.reduceLE, Int.reduceEq, gI_sI, gI_sJ, gI_sF, gI_sG, gI_sQ, gI_sA, gJ_sI, gJ_sJ, gJ_sF, gJ_sG, gJ_sQ, gJ_sA, gQ_sI, gQ_sJ, gQ_sF, gQ_sG, gQ_sQ, gQ_sA, gH_sI, gH_sJ, gH_sF, gH_sG, gH_sQ, gH_sA, gN_sI, gN_sJ, gN_sF, gN_sG, gN_sQ, gN_sA, gW_sI, gW_sJ, gW_sF, gW_sG, gW_sQ, gW_sA, h8, n1, n2, isSt_sI]
/-- the whole line -/
def LkR (S : zS) (cls : List Cl) (g : Int → Int) : Prop := gI S 58 8 = g 0 ∧ CutR S g (g 0) ∧ (∀ u : Int, 0 ≤ u → u ≤ 2 → ∀ i : Nat, i < 32 → (bt (gI S 62 u) i = true ↔ (i : Int) < g 0 ∧ CanR cls g i u)) ∧ (∀ q u : Int, 0 ≤ q → 0 ≤ u → u ≤ 2 → q < g 0 → gI S 63 (3 * q + u) = CstR cls g q u)
theorem l44 (hd : 2 < d) (hG : GB g) : ∀ (k : Nat) (p : Int) (S : zS) (x4 : Option Value), p + k = g 0 → 0 ≤ p → isSt S s → SLn S s g → LawC S o cls → gI S 61 5 = g 0 ∧ gI S 61 6 = g 5 ∧ gI S 61 7 = g 7 → LkV S cls g p 0 → CutR S g p → ∃ S' : zS, z_ev X d (44, 57, L44 s o p x4, [], mk S) = some (none, mk S') ∧ FrA S S' ∧ LkR S' cls g := by
  intro k
  induction k with
  | zero =>
    intro p S x4 hk h0 hs hl hL hw hK hC
    have e : p = g 0 := by omega
    have h8 := hK.1
    have hg := hG.1
    refine ⟨S, ?_, FrA.rf, h8, by rw [← e]; exact hC, fun u u1 u2 i hi => ?_, fun q u q1 u1 u2 hq => hK.2.2 q u q1 u1 u2 (Or.inl (by omega))⟩
    · cases o with
      | none =>
        rw [B44_57_nl2]
        simp (disch := first | omega | assumption | exact b01_rng _ | exact st_5 | exact st_12 | exact st_19 | (simp only [isSt_sI, isSt_sJ, isSt_sF, isSt_sG, isSt_sA]; assumption)) only [↓B44_170_nl2, ↓a_61, ↓a_62, ↓n_61, ↓n_62, ↓o_19, ↓o_5, ↓o_58, ↓r_19_6, ↓r_58_1, ↓r_58_2, ↓r_58_8, ↓r_58_9, ↓r_5_6, ↓s_61, ↓s_62, ↓w_58_8, ↓w_58_9, i_lit, i_add, i_sub, i_mul, i_neg, i_lt, i_le, i_eq, i32_gI, i64_gJ, i32_id, i32_to, i64_to, sI_i32, sJ_i64, b01_t, b01_f, i32_b01, b01_0, ↓a_s0, ↓n_s0, ↓a_s1, ↓n_s1, Int.add_zero, t_lt, f_lt, t_le, f_le, t_eq, f_eq, true_and, and_true, false_and, and_false, and_self, ↓reduceIte, z_bool_of, or_true, true_or, or_false, false_or, Int.neg_neg, not_true_eq_false, not_false_eq_true, lg_lt, lg_le, lg_gt, lg_ge, lg_eq, j_lit, j_add, j_sub, j_mul, j_neg, j_eq, i64_id, ij, ji, z_rt, Nat.reduceEqDiff, Nat.reduceAdd, Int.reduceAdd, Int.reduceSub, Int.reduceMul, Int.reduceNeg, Int.reduceLT, Int.reduceLE, Int.reduceEq, h8]
      | some a =>
        rw [B44_57]
        simp (disch := first | omega | assumption | exact b01_rng _ | exact st_5 | exact st_12 | exact st_19 | (simp only [isSt_sI, isSt_sJ, isSt_sF, isSt_sG, isSt_sA]; assumption)) only [↓B44_170, ↓a_61, ↓a_62, ↓n_61, ↓n_62, ↓o_19, ↓o_5, ↓o_58, ↓r_19_6, ↓r_58_1, ↓r_58_2, ↓r_58_8, ↓r_58_9, ↓r_5_6, ↓s_61, ↓s_62, ↓w_58_8, ↓w_58_9, i_lit, i_add, i_sub, i_mul, i_neg, i_lt, i_le, i_eq, i32_gI, i64_gJ, i32_id, i32_to, i64_to, sI_i32, sJ_i64, b01_t, b01_f, i32_b01, b01_0, ↓a_s0, ↓n_s0, ↓a_s1, ↓n_s1, Int.add_zero, t_lt, f_lt, t_le, f_le, t_eq, f_eq, true_and, and_true, false_and, and_false, and_self, ↓reduceIte, z_bool_of, or_true, true_or, or_false, false_or, Int.neg_neg, not_true_eq_false, not_false_eq_true, lg_lt, lg_le, lg_gt, lg_ge, lg_eq, j_lit, j_add, j_sub, j_mul, j_neg, j_eq, i64_id, ij, ji, z_rt, Nat.reduceEqDiff, Nat.reduceAdd, Int.reduceAdd, Int.reduceSub, Int.reduceMul, Int.reduceNeg, Int.reduceLT, Int.reduceLE, Int.reduceEq, h8]
    · rw [hK.2.1 u u1 u2 i hi, e]
      constructor
      · rintro ⟨w1 | w1, w2⟩
        · exact ⟨w1, w2⟩
        · omega
      · rintro ⟨w1, w2⟩; exact ⟨Or.inl w1, w2⟩
  | succ k ih =>
    intro p S x4 hk h0 hs hl hL hw hK hC
    have hg := hG.1
    have hp : 0 ≤ p ∧ p < 20 := by omega
    obtain ⟨w0, w1, w2⟩ := hl.2.2.2 p hp.1 hp.2
    have hg4 := hG.2.2.2 p hp.1 hp.2
    have n0 := hs.off 0 (by omega)
    rw [p44 hd hs hp hK.1 (by omega)]
    have f0 : FrA S (lkS S s p) := ((((FrA.I (by omega)).tr (FrA.I (by omega))).tr (FrA.I (by omega))).tr (FrA.I (by omega))).tr (FrA.I (by omega))
    have eo : ∀ a i, a ≠ 58 → a ≠ 61 → gI (lkS S s p) a i = gI S a i := fun a i q1 q2 => by
      unfold lkS; (repeat (first | rw [gI_sI, if_neg (by omega)] | rw [gI_sF, if_neg (by omega)] | rw [gI_sJ] | rw [gI_sG] | rw [gI_sQ]))
    have hW0 : LkW (lkS S s p) g p := by
      unfold LkW lkS
      rw [w0, w1, w2]
      simp (disch := first | omega | assumption | exact b01_rng _ | exact st_5 | exact st_12 | exact st_19 | (simp only [isSt_sI, isSt_sJ, isSt_sF, isSt_sG, isSt_sA]; assumption)) only [gI_sI, i_lit, i_add, i_sub, i_mul, i_neg, i_lt, i_le, i_eq, i32_gI, i64_gJ, i32_id, i32_to, i64_to, sI_i32, sJ_i64, b01_t, b01_f, i32_b01, b01_0, ↓a_s0, ↓n_s0, ↓a_s1, ↓n_s1, Int.add_zero, t_lt, f_lt, t_le, f_le, t_eq, f_eq, true_and, and_true, false_and, and_false, and_self, ↓reduceIte, z_bool_of, or_true, true_or, or_false, false_or, Int.neg_neg, not_true_eq_false, not_false_eq_true, lg_lt, lg_le, lg_gt, lg_ge, lg_eq, j_lit, j_add, j_sub, j_mul, j_neg, j_eq, i64_id, ij, ji, z_rt, Nat.reduceEqDiff, Nat.reduceAdd, Int.reduceAdd, Int.reduceSub, Int.reduceMul, Int.reduceNeg, Int.reduceLT, Int.reduceLE, Int.reduceEq, hw.1, hw.2.1, hw.2.2]
    have h58 : gI (lkS S s p) 58 8 = g 0 := by
      unfold lkS; (repeat (first | rw [gI_sI, if_neg (by omega)] | rw [gI_sF, if_neg (by omega)] | rw [gI_sJ] | rw [gI_sG] | rw [gI_sQ])); exact hK.1
    have hK0 : LkV (lkS S s p) cls g p 0 := ⟨h58, fun u u1 u2 i hi => by rw [eo 62 u (by omega) (by omega)]; exact hK.2.1 u u1 u2 i hi, fun q u q1 u1 u2 hq => by rw [eo 63 _ (by omega) (by omega)]; exact hK.2.2 q u q1 u1 u2 hq⟩
    have hC0 : CutR (lkS S s p) g (p + 1) := by
      have e9 : gI (lkS S s p) 58 9 = (cutI S s p).toInt := by
        unfold lkS
        rw [gI_sI, if_neg (by omega), gI_sI, if_neg (by omega), gI_sI, if_neg (by omega), gI_sI, if_neg (by omega), gI_sI, if_pos ⟨rfl, rfl⟩, i32_in]
      intro i hi
      rw [e9]
      exact CutR.step hp hC w1 (by omega) rfl i hi
    have hL0 := hL.fr (T := lkS S s p) (fun a ha => f0.1.1 a ha)
    obtain ⟨S1, a1, a2, a3, a4, a5⟩ := v44 (X := X) (s := s) hd hL0 hG hp (v := 0) (by omega) hW0 hK0
    obtain ⟨S2, b1, b2, b3, b4, b5⟩ := v44 (X := X) (s := s) hd (hL0.fr (fun a ha => a2.1.1 a ha)) hG hp (v := 1) (by omega) a3 a4
    obtain ⟨S3, c1, c2, c3, c4, c5⟩ := v44 (X := X) (s := s) hd ((hL0.fr (fun a ha => a2.1.1 a ha)).fr (fun a ha => b2.1.1 a ha)) hG hp (v := 2) (by omega) b3 b4
    have fA := (f0.tr a2).tr (b2.tr c2)
    have hK3 : LkV S3 cls g (p + 1) 0 := by
      refine ⟨c4.1, fun u u1 u2 i hi => ?_, fun q u q1 u1 u2 hq => c4.2.2 q u q1 u1 u2 (by omega)⟩
      rw [c4.2.1 u u1 u2 i hi]
      constructor
      · rintro ⟨w1 | w1, w2⟩
        · exact ⟨Or.inl (by omega), w2⟩
        · exact ⟨Or.inl (by omega), w2⟩
      · rintro ⟨w1 | w1, w2⟩
        · refine ⟨?_, w2⟩
          by_cases e : (i : Int) = p
          · exact Or.inr ⟨e, by omega⟩
          · exact Or.inl (by omega)
        · omega
    have hC3 : CutR S3 g (p + 1) := by
      intro i hi
      rw [c5 9, b5 9, a5 9]
      exact hC0 i hi
    obtain ⟨S', r1, r2, r3⟩ := ih (p + 1) S3 (vI 3) (by omega) (by omega) (hs.a fA.1) (hl.a hs fA) (hL.fr (fun a ha => fA.1.1 a ha)) ⟨c3.2.2.2.2.1, c3.2.2.2.2.2.1, c3.2.2.2.2.2.2⟩ hK3 hC3
    refine ⟨S', ?_, fA.tr r2, r3⟩
    rw [show (0 : Int) + 1 = 1 from rfl] at a1
    rw [show (1 : Int) + 1 = 2 from rfl] at b1
    rw [show (2 : Int) + 1 = 3 from rfl] at c1
    rw [a1, b1, c1, ← r1]
    cases o with
    | none =>
      rw [B44_136_nl2]
      simp (disch := first | omega | assumption | exact b01_rng _ | exact st_5 | exact st_12 | exact st_19 | (simp only [isSt_sI, isSt_sJ, isSt_sF, isSt_sG, isSt_sA]; assumption)) only [↓B44_164_nl2, i_lit, i_add, i_sub, i_mul, i_neg, i_lt, i_le, i_eq, i32_gI, i64_gJ, i32_id, i32_to, i64_to, sI_i32, sJ_i64, b01_t, b01_f, i32_b01, b01_0, ↓a_s0, ↓n_s0, ↓a_s1, ↓n_s1, Int.add_zero, t_lt, f_lt, t_le, f_le, t_eq, f_eq, true_and, and_true, false_and, and_false, and_self, ↓reduceIte, z_bool_of, or_true, true_or, or_false, false_or, Int.neg_neg, not_true_eq_false, not_false_eq_true, lg_lt, lg_le, lg_gt, lg_ge, lg_eq, j_lit, j_add, j_sub, j_mul, j_neg, j_eq, i64_id, ij, ji, z_rt, Nat.reduceEqDiff, Nat.reduceAdd, Int.reduceAdd, Int.reduceSub, Int.reduceMul, Int.reduceNeg, Int.reduceLT, Int.reduceLE, Int.reduceEq]
    | some a =>
      rw [B44_136]
      simp (disch := first | omega | assumption | exact b01_rng _ | exact st_5 | exact st_12 | exact st_19 | (simp only [isSt_sI, isSt_sJ, isSt_sF, isSt_sG, isSt_sA]; assumption)) only [↓B44_164, i_lit, i_add, i_sub, i_mul, i_neg, i_lt, i_le, i_eq, i32_gI, i64_gJ, i32_id, i32_to, i64_to, sI_i32, sJ_i64, b01_t, b01_f, i32_b01, b01_0, ↓a_s0, ↓n_s0, ↓a_s1, ↓n_s1, Int.add_zero, t_lt, f_lt, t_le, f_le, t_eq, f_eq, true_and, and_true, false_and, and_false, and_self, ↓reduceIte, z_bool_of, or_true, true_or, or_false, false_or, Int.neg_neg, not_true_eq_false, not_false_eq_true, lg_lt, lg_le, lg_gt, lg_ge, lg_eq, j_lit, j_add, j_sub, j_mul, j_neg, j_eq, i64_id, ij, ji, z_rt, Nat.reduceEqDiff, Nat.reduceAdd, Int.reduceAdd, Int.reduceSub, Int.reduceMul, Int.reduceNeg, Int.reduceLT, Int.reduceLE, Int.reduceEq]
theorem x44 (hd : 2 < d) (hG : GB g) {S : zS} (hs : isSt S s) (hl : SLn S s g) (hL : LawC S o cls) : ∃ S' : zS, z_ev X d (z_entry 44 [.ref 58, .ref s, lv o] (mk S)) = some (none, mk S') ∧ FrA S S' ∧ LkR S' cls g := by
  have hg := hG.1
  obtain ⟨l0, l1, l2, l3⟩ := hl
  have n0 := hs.off 0 (by omega)
  have n1 := hs.off 1 (by omega)
  have n2 := hs.off 2 (by omega)
  have m0 : ¬ (s = 58) := by omega
  have m2 : ¬ (s + 2 = 58) := by omega
  have m3 : ¬ (s + 2 = 61) := by omega
  have m4 : ¬ (s + 2 = 62) := by omega
  obtain ⟨S1, hS1⟩ : ∃ S1 : zS, S1 = sI (sI (sI (sI (sF (sI S 58 8 (g 0)) 62 0 3 (fun _ => 0)) 58 9 1) 61 5 (g 0)) 61 6 (g 5)) 61 7 (g 7) := ⟨_, rfl⟩
  have f0 : FrA S S1 := by
    rw [hS1]
    exact (((((FrA.I (by omega)).tr (FrA.F (by omega))).tr (FrA.I (by omega))).tr (FrA.I (by omega))).tr (FrA.I (by omega))).tr (FrA.I (by omega))
  have h62 : ∀ S : zS, zdes S 62 = some (.inr (0, 3)) := fun S => rfl
  have hent : z_ev X d (z_entry 44 [.ref 58, .ref s, lv o] (mk S)) = z_ev X d (44, 57, L44 s o 0 none, [], mk S1) := by
    rw [hS1]
    cases o with
    | none =>
      show z_ev X d (44, 0, [some (.ref 58), some (.ref s), some .null, none, none], [], mk S) = _
      simp (disch := first | omega | assumption | exact b01_rng _ | exact st_5 | exact st_12 | exact st_19 | (simp only [isSt_sI, isSt_sJ, isSt_sF, isSt_sG, isSt_sA]; assumption)) only [↓B44_0_nl2, ↓B44_16_nl2, ↓B44_42_nl2, ↓B44_54_nl2, ↓a_61, ↓a_62, ↓n_61, ↓n_62, ↓o_19, ↓o_5, ↓o_58, ↓r_19_6, ↓r_58_1, ↓r_58_2, ↓r_58_8, ↓r_58_9, ↓r_5_6, ↓s_61, ↓s_62, ↓w_58_8, ↓w_58_9, ↓st_o, ↓st_r6, c70, c277 (X := X) (d := d) (by omega) (c := 62) (n := 3) (by omega) h62 (by omega) (v := 0) (by omega), i_lit, i_add, i_sub, i_mul, i_neg, i_lt, i_le, i_eq, i32_gI, i64_gJ, i32_id, i32_to, i64_to, sI_i32, sJ_i64, b01_t, b01_f, i32_b01, b01_0, ↓a_s0, ↓n_s0, ↓a_s1, ↓n_s1, Int.add_zero, t_lt, f_lt, t_le, f_le, t_eq, f_eq, true_and, and_true, false_and, and_false, and_self, ↓reduceIte, z_bool_of, or_true, true_or, or_false, false_or, Int.neg_neg, not_true_eq_false, not_false_eq_true, lg_lt, lg_le, lg_gt, lg_ge, lg_eq, j_lit, j_add, j_sub, j_mul, j_neg, j_eq, i64_id, ij, ji, z_rt, Nat.reduceEqDiff, Nat.reduceAdd, Int.reduceAdd, Int.reduceSub, Int.reduceMul, Int.reduceNeg, Int.reduceLT, Int.reduceLE, Int.reduceEq, gI_sI, gI_sJ, gI_sF, gI_sG, gI_sQ, gI_sA, gJ_sI, gJ_sJ, gJ_sF, gJ_sG, gJ_sQ, gJ_sA, gQ_sI, gQ_sJ, gQ_sF, gQ_sG, gQ_sQ, gQ_sA, gH_sI, gH_sJ, gH_sF, gH_sG, gH_sQ, gH_sA, gN_sI, gN_sJ, gN_sF, gN_sG, gN_sQ, gN_sA, gW_sI, gW_sJ, gW_sF, gW_sG, gW_sQ, gW_sA, m0, m2, m3, m4, isSt_sI, isSt_sF, l0, l1, l2]
      rfl
    | some a =>
      show z_ev X d (44, 0, [some (.ref 58), some (.ref s), some (.ref a), none, none], [], mk S) = _
      simp (disch := first | omega | assumption | exact b01_rng _ | exact st_5 | exact st_12 | exact st_19 | (simp only [isSt_sI, isSt_sJ, isSt_sF, isSt_sG, isSt_sA]; assumption)) only [↓B44_0, ↓B44_16, ↓B44_42, ↓B44_54, ↓a_61, ↓a_62, ↓n_61, ↓n_62, ↓o_19, ↓o_5, ↓o_58, ↓r_19_6, ↓r_58_1, ↓r_58_2, ↓r_58_8, ↓r_58_9, ↓r_5_6, ↓s_61, ↓s_62, ↓w_58_8, ↓w_58_9, ↓st_o, ↓st_r6, c70, c277 (X := X) (d := d) (by omega) (c := 62) (n := 3) (by omega) h62 (by omega) (v := 0) (by omega), i_lit, i_add, i_sub, i_mul, i_neg, i_lt, i_le, i_eq, i32_gI, i64_gJ, i32_id, i32_to, i64_to, sI_i32, sJ_i64, b01_t, b01_f, i32_b01, b01_0, ↓a_s0, ↓n_s0, ↓a_s1, ↓n_s1, Int.add_zero, t_lt, f_lt, t_le, f_le, t_eq, f_eq, true_and, and_true, false_and, and_false, and_self, ↓reduceIte, z_bool_of, or_true, true_or, or_false, false_or, Int.neg_neg, not_true_eq_false, not_false_eq_true, lg_lt, lg_le, lg_gt, lg_ge, lg_eq, j_lit, j_add, j_sub, j_mul, j_neg, j_eq, i64_id, ij, ji, z_rt, Nat.reduceEqDiff, Nat.reduceAdd, Int.reduceAdd, Int.reduceSub, Int.reduceMul, Int.reduceNeg, Int.reduceLT, Int.reduceLE, Int.reduceEq, gI_sI, gI_sJ, gI_sF, gI_sG, gI_sQ, gI_sA, gJ_sI, gJ_sJ, gJ_sF, gJ_sG, gJ_sQ, gJ_sA, gQ_sI, gQ_sJ, gQ_sF, gQ_sG, gQ_sQ, gQ_sA, gH_sI, gH_sJ, gH_sF, gH_sG, gH_sQ, gH_sA, gN_sI, gN_sJ, gN_sF, gN_sG, gN_sQ, gN_sA, gW_sI, gW_sJ, gW_sF, gW_sG, gW_sQ, gW_sA, m0, m2, m3, m4, isSt_sI, isSt_sF, l0, l1, l2]
      rfl
  rw [hent]
  have hg5 := hG.2.1
  have hg7 := hG.2.2.1
  have hK : LkV S1 cls g 0 0 := by
    refine ⟨by rw [hS1]; simp (disch := first | omega | assumption | exact b01_rng _ | exact st_5 | exact st_12 | exact st_19 | (simp only [isSt_sI, isSt_sJ, isSt_sF, isSt_sG, isSt_sA]; assumption)) only [gI_sI, gI_sF, i_lit, i_add, i_sub, i_mul, i_neg, i_lt, i_le, i_eq, i32_gI, i64_gJ, i32_id, i32_to, i64_to, sI_i32, sJ_i64, b01_t, b01_f, i32_b01, b01_0, ↓a_s0, ↓n_s0, ↓a_s1, ↓n_s1, Int.add_zero, t_lt, f_lt, t_le, f_le, t_eq, f_eq, true_and, and_true, false_and, and_false, and_self, ↓reduceIte, z_bool_of, or_true, true_or, or_false, false_or, Int.neg_neg, not_true_eq_false, not_false_eq_true, lg_lt, lg_le, lg_gt, lg_ge, lg_eq, j_lit, j_add, j_sub, j_mul, j_neg, j_eq, i64_id, ij, ji, z_rt, Nat.reduceEqDiff, Nat.reduceAdd, Int.reduceAdd, Int.reduceSub, Int.reduceMul, Int.reduceNeg, Int.reduceLT, Int.reduceLE, Int.reduceEq], fun u u1 u2 i hi => ?_, fun q u q1 u1 u2 hq => by omega⟩
    rw [hS1, gI_sI, if_neg (by omega), gI_sI, if_neg (by omega), gI_sI, if_neg (by omega), gI_sI, if_neg (by omega), gI_sF, if_pos ⟨rfl, by omega, by omega⟩]
    constructor
    · intro h; rw [bt_i32] at h; unfold bt at h; rw [zero_b] at h; cases h
    · rintro ⟨w | w, -⟩ <;> omega
  have hC : CutR S1 g 0 := by
    intro i hi
    rw [hS1, gI_sI, if_neg (by omega), gI_sI, if_neg (by omega), gI_sI, if_neg (by omega), gI_sI, if_pos ⟨rfl, rfl⟩, bt_i32]
    unfold bt
    rw [show (Int32.ofInt 1).toBitVec = 1#32 from rfl, BitVec.getLsbD_one]
    constructor
    · intro h
      rw [Bool.and_eq_true, decide_eq_true_eq, decide_eq_true_eq] at h
      exact Or.inl h.2
    · rintro (h | h)
      · subst h; rfl
      · omega
  obtain ⟨S', r1, r2, r3⟩ := l44 (X := X) (s := s) (o := o) (cls := cls) hd hG (g 0).toNat 0 S1 none (by omega) (by omega) (hs.a f0.1) (SLn.a ⟨l0, l1, l2, l3⟩ hs f0) (hL.fr (fun a ha => f0.1.1 a ha)) (by rw [hS1]; simp (disch := first | omega | assumption | exact b01_rng _ | exact st_5 | exact st_12 | exact st_19 | (simp only [isSt_sI, isSt_sJ, isSt_sF, isSt_sG, isSt_sA]; assumption)) only [gI_sI, gI_sF, i_lit, i_add, i_sub, i_mul, i_neg, i_lt, i_le, i_eq, i32_gI, i64_gJ, i32_id, i32_to, i64_to, sI_i32, sJ_i64, b01_t, b01_f, i32_b01, b01_0, ↓a_s0, ↓n_s0, ↓a_s1, ↓n_s1, Int.add_zero, t_lt, f_lt, t_le, f_le, t_eq, f_eq, true_and, and_true, false_and, and_false, and_self, ↓reduceIte, z_bool_of, or_true, true_or, or_false, false_or, Int.neg_neg, not_true_eq_false, not_false_eq_true, lg_lt, lg_le, lg_gt, lg_ge, lg_eq, j_lit, j_add, j_sub, j_mul, j_neg, j_eq, i64_id, ij, ji, z_rt, Nat.reduceEqDiff, Nat.reduceAdd, Int.reduceAdd, Int.reduceSub, Int.reduceMul, Int.reduceNeg, Int.reduceLT, Int.reduceLE, Int.reduceEq]) hK hC
  exact ⟨S', r1, f0.tr r2, r3⟩
end
