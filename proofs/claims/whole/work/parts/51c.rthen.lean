/-! the reference reads: one syllable on -/
def goI (x v : Int) : Int := if x = 2 then (if v < 2 then 1 else 0) else if x = 1 then (if v = 0 then 1 else 0) else if x = 0 ∧ v = 1 then 1 else 0
theorem goI_iff {x v : Int} (hv : 0 ≤ v) : (goI x v = 1 ∧ gos x v) ∨ (goI x v = 0 ∧ ¬ gos x v) := by
  unfold goI gos
  split
  · split <;> omega
  split
  · split <;> omega
  split <;> omega
theorem e230 {X : zX} {d : Nat} (hd : 0 ≤ d) {S : zS} (x v : Int) (hx : 0 ≤ x ∧ x ≤ 3) (hv : 0 ≤ v ∧ v ≤ 2) : z_ev X d (z_entry 230 [.int (Int32.ofInt x), .int (Int32.ofInt v)] (mk S)) = some (some (.int (Int32.ofInt (goI x v))), mk S) := by
  show z_ev X d (230, 0, [some (.int (Int32.ofInt x)), some (.int (Int32.ofInt v))], [], mk S) = _
  unfold goI
  rcases (show x = 0 ∨ x = 1 ∨ x = 2 ∨ x = 3 by omega) with rfl | rfl | rfl | rfl <;> rcases (show v = 0 ∨ v = 1 ∨ v = 2 by omega) with rfl | rfl | rfl <;> simp (disch := first | omega | assumption | exact b01_rng _ | exact st_5 | exact st_12 | exact st_19 | (simp only [isSt_sI, isSt_sJ, isSt_sF, isSt_sG, isSt_sA]; assumption)) only [↓B230_0, ↓B230_5, ↓B230_10, ↓B230_14, ↓B230_18, ↓B230_23, ↓B230_27, ↓B230_31, ↓B230_35, ↓B230_39, ↓B230_44, ↓B230_48, ↓B230_49, i_lit, i_add, i_sub, i_mul, i_neg, i_lt, i_le, i_eq, i32_gI, i64_gJ, i32_id, i32_to, i64_to, sI_i32, sJ_i64, b01_t, b01_f, i32_b01, b01_0, ↓a_s0, ↓n_s0, ↓a_s1, ↓n_s1, Int.add_zero, t_lt, f_lt, t_le, f_le, t_eq, f_eq, true_and, and_true, false_and, and_false, and_self, ↓reduceIte, z_bool_of, or_true, true_or, or_false, false_or, Int.neg_neg, not_true_eq_false, not_false_eq_true, lg_lt, lg_le, lg_gt, lg_ge, lg_eq, j_lit, j_add, j_sub, j_mul, j_neg, j_eq, i64_id, ij, ji, z_rt, Nat.reduceEqDiff, Nat.reduceAdd, Int.reduceAdd, Int.reduceSub, Int.reduceMul, Int.reduceNeg, Int.reduceLT, Int.reduceLE, Int.reduceEq]
theorem c230 {X : zX} {d : Nat} (hd : 0 < d) {S : zS} (x v : Int) (hx : 0 ≤ x ∧ x ≤ 3) (hv : 0 ≤ v ∧ v ≤ 2) {cm cp : Nat} {L : zL} {st : List Value} : z_evc X d 230 [.int (Int32.ofInt x), .int (Int32.ofInt v)] (cm, cp, L, st, mk S) = z_ev X d (cm, cp, L, .int (Int32.ofInt (goI x v)) :: st, mk S) := z_evc_of (r := (some (.int (Int32.ofInt (goI x v))), mk S)) (ck := (cm, cp, L, st, mk S)) hd (e230 (X := X) (Nat.le_refl _) x v hx hv)
abbrev L231 (s v w any o : Int) (x6 x7 : Option Value) : zL := [some (.ref 72), some (.int (Int32.ofInt s)), some (.int (Int32.ofInt v)), some (.int (Int32.ofInt w)), some (.int (Int32.ofInt any)), some (.int (Int32.ofInt o)), x6, x7]
section
variable {X : zX} {d : Nat} {E : Ln} {f : Int → Int → Int} {M : Int}
/-- whether one comes from below t -/
def Cm (S : zS) (n v o t : Int) : Prop := ∃ k, k < t ∧ Sb S 105 n k ∧ (UA S n).1 k o ∧ gos ((UA S n).2.2 o) v
theorem l231i (hd : 0 < d) {S : zS} {n s v w any o : Int} (hn2 : 1 ≤ n ∧ n ≤ 200) (hL : Laid S E f n) (hB : B0 S 105 n) (hv : 0 ≤ v ∧ v < 2) (ho : 0 ≤ o ∧ o ≤ n) : ∀ (c : Nat) (t so : Int), t + c = o → 0 ≤ t → ((so = 1 ∧ Cm S n v o t) ∨ (so = 0 ∧ ¬ Cm S n v o t)) → ∃ so' t' : Int, z_ev X d (231, 40, L231 s v w any o (vI so) (vI t), [], mk S) = z_ev X d (231, 111, L231 s v w any o (vI so') (vI t'), [], mk S) ∧ ((so' = 1 ∧ Cm S n v o o) ∨ (so' = 0 ∧ ¬ Cm S n v o o)) := by
  obtain ⟨l1, l2, l3, l4, l5, l6⟩ := hL
  intro c
  induction c with
  | zero =>
    intro t so hc ht h
    have : t = o := by omega
    subst this
    refine ⟨so, t, ?_, h⟩
    rw [B231_40]
    simp (disch := first | omega | assumption | exact b01_rng _ | exact st_5 | exact st_12 | exact st_19 | (simp only [isSt_sI, isSt_sJ, isSt_sF, isSt_sG, isSt_sA]; assumption)) only [i_lit, i_add, i_sub, i_mul, i_neg, i_lt, i_le, i_eq, i32_gI, i64_gJ, i32_id, i32_to, i64_to, sI_i32, sJ_i64, b01_t, b01_f, i32_b01, b01_0, ↓a_s0, ↓n_s0, ↓a_s1, ↓n_s1, Int.add_zero, t_lt, f_lt, t_le, f_le, t_eq, f_eq, true_and, and_true, false_and, and_false, and_self, ↓reduceIte, z_bool_of, or_true, true_or, or_false, false_or, Int.neg_neg, not_true_eq_false, not_false_eq_true, lg_lt, lg_le, lg_gt, lg_ge, lg_eq, j_lit, j_add, j_sub, j_mul, j_neg, j_eq, i64_id, ij, ji, z_rt, Nat.reduceEqDiff, Nat.reduceAdd, Int.reduceAdd, Int.reduceSub, Int.reduceMul, Int.reduceNeg, Int.reduceLT, Int.reduceLE, Int.reduceEq]
  | succ c ih =>
    intro t so hc ht h
    rcases h with ⟨rfl, h⟩ | ⟨rfl, h⟩
    · refine ⟨1, t, ?_, Or.inl ⟨rfl, ?_⟩⟩
      · rw [B231_40]
        simp (disch := first | omega | assumption | exact b01_rng _ | exact st_5 | exact st_12 | exact st_19 | (simp only [isSt_sI, isSt_sJ, isSt_sF, isSt_sG, isSt_sA]; assumption)) only [↓B231_47, ↓B231_52, i_lit, i_add, i_sub, i_mul, i_neg, i_lt, i_le, i_eq, i32_gI, i64_gJ, i32_id, i32_to, i64_to, sI_i32, sJ_i64, b01_t, b01_f, i32_b01, b01_0, ↓a_s0, ↓n_s0, ↓a_s1, ↓n_s1, Int.add_zero, t_lt, f_lt, t_le, f_le, t_eq, f_eq, true_and, and_true, false_and, and_false, and_self, ↓reduceIte, z_bool_of, or_true, true_or, or_false, false_or, Int.neg_neg, not_true_eq_false, not_false_eq_true, lg_lt, lg_le, lg_gt, lg_ge, lg_eq, j_lit, j_add, j_sub, j_mul, j_neg, j_eq, i64_id, ij, ji, z_rt, Nat.reduceEqDiff, Nat.reduceAdd, Int.reduceAdd, Int.reduceSub, Int.reduceMul, Int.reduceNeg, Int.reduceLT, Int.reduceLE, Int.reduceEq]
      · obtain ⟨k, k1, k2⟩ := h
        exact ⟨k, by omega, k2⟩
    · have hB1 := hB t ht (by omega)
      have ff := l4 t o ht (by omega) ho.2
      obtain ⟨b1, b2, b3, b4⟩ := l3 o (by omega) ho.2
      have hg := goI_iff (x := gI S 99 o) hv.1
      have dl : Cm S n v o (t + 1) ↔ (gI S 105 t = 1 ∧ gI S 100 (201 * t + o) = 1 ∧ gos (gI S 99 o) v) := by
        constructor
        · rintro ⟨k, k1, k2, k3, k4⟩
          by_cases e : k = t
          · subst e; exact ⟨k2.2, k3.2, k4⟩
          · exact absurd ⟨k, by omega, k2, k3, k4⟩ h
        · rintro ⟨k2, k3, k4⟩
          exact ⟨t, by omega, ⟨⟨ht, by omega⟩, k2⟩, ⟨⟨ht, by omega, ho.2⟩, k3⟩, k4⟩
      have next : ∀ so' : Int, ((so' = 1 ∧ Cm S n v o (t + 1)) ∨ (so' = 0 ∧ ¬ Cm S n v o (t + 1))) → z_ev X d (231, 40, L231 s v w any o (vI 0) (vI t), [], mk S) = z_ev X d (231, 40, L231 s v w any o (vI so') (vI (t + 1)), [], mk S) → ∃ so2 t' : Int, z_ev X d (231, 40, L231 s v w any o (vI 0) (vI t), [], mk S) = z_ev X d (231, 111, L231 s v w any o (vI so2) (vI t'), [], mk S) ∧ ((so2 = 1 ∧ Cm S n v o o) ∨ (so2 = 0 ∧ ¬ Cm S n v o o)) := fun so' h1 h2 => by
        obtain ⟨so2, t', w1, w2⟩ := ih (t + 1) so' (by omega) (by omega) h1
        exact ⟨so2, t', by rw [h2]; exact w1, w2⟩
      by_cases q1 : gI S 105 t = 1
      · by_cases q2 : gI S 100 (201 * t + o) = 1
        · rcases hg with ⟨g1, g2⟩ | ⟨g1, g2⟩
          · refine next 1 (Or.inl ⟨rfl, dl.mpr ⟨q1, q2, g2⟩⟩) ?_
            rw [B231_40]
            simp (disch := first | omega | assumption | exact b01_rng _ | exact st_5 | exact st_12 | exact st_19 | (simp only [isSt_sI, isSt_sJ, isSt_sF, isSt_sG, isSt_sA]; assumption)) only [↓B231_47, ↓B231_52, ↓B231_57, ↓B231_67, ↓B231_84, ↓B231_95, ↓B231_98, ↓B231_103, ↓a_100, ↓a_103, ↓a_104, ↓a_105, ↓a_106, ↓a_99, ↓n_100, ↓n_103, ↓n_104, ↓n_105, ↓n_106, ↓n_99, ↓r_72_50, ↓r_72_51, ↓r_72_52, ↓r_72_55, ↓r_72_56, ↓r_72_57, ↓r_72_58, ↓s_100, ↓s_103, ↓s_104, ↓s_105, ↓s_106, ↓s_99, c230, i_lit, i_add, i_sub, i_mul, i_neg, i_lt, i_le, i_eq, i32_gI, i64_gJ, i32_id, i32_to, i64_to, sI_i32, sJ_i64, b01_t, b01_f, i32_b01, b01_0, ↓a_s0, ↓n_s0, ↓a_s1, ↓n_s1, Int.add_zero, t_lt, f_lt, t_le, f_le, t_eq, f_eq, true_and, and_true, false_and, and_false, and_self, ↓reduceIte, z_bool_of, or_true, true_or, or_false, false_or, Int.neg_neg, not_true_eq_false, not_false_eq_true, lg_lt, lg_le, lg_gt, lg_ge, lg_eq, j_lit, j_add, j_sub, j_mul, j_neg, j_eq, i64_id, ij, ji, z_rt, Nat.reduceEqDiff, Nat.reduceAdd, Int.reduceAdd, Int.reduceSub, Int.reduceMul, Int.reduceNeg, Int.reduceLT, Int.reduceLE, Int.reduceEq, q1, q2, g1]
          · refine next 0 (Or.inr ⟨rfl, fun z => g2 (dl.mp z).2.2⟩) ?_
            rw [B231_40]
            simp (disch := first | omega | assumption | exact b01_rng _ | exact st_5 | exact st_12 | exact st_19 | (simp only [isSt_sI, isSt_sJ, isSt_sF, isSt_sG, isSt_sA]; assumption)) only [↓B231_47, ↓B231_52, ↓B231_57, ↓B231_67, ↓B231_84, ↓B231_95, ↓B231_102, ↓B231_103, ↓a_100, ↓a_103, ↓a_104, ↓a_105, ↓a_106, ↓a_99, ↓n_100, ↓n_103, ↓n_104, ↓n_105, ↓n_106, ↓n_99, ↓r_72_50, ↓r_72_51, ↓r_72_52, ↓r_72_55, ↓r_72_56, ↓r_72_57, ↓r_72_58, ↓s_100, ↓s_103, ↓s_104, ↓s_105, ↓s_106, ↓s_99, c230, i_lit, i_add, i_sub, i_mul, i_neg, i_lt, i_le, i_eq, i32_gI, i64_gJ, i32_id, i32_to, i64_to, sI_i32, sJ_i64, b01_t, b01_f, i32_b01, b01_0, ↓a_s0, ↓n_s0, ↓a_s1, ↓n_s1, Int.add_zero, t_lt, f_lt, t_le, f_le, t_eq, f_eq, true_and, and_true, false_and, and_false, and_self, ↓reduceIte, z_bool_of, or_true, true_or, or_false, false_or, Int.neg_neg, not_true_eq_false, not_false_eq_true, lg_lt, lg_le, lg_gt, lg_ge, lg_eq, j_lit, j_add, j_sub, j_mul, j_neg, j_eq, i64_id, ij, ji, z_rt, Nat.reduceEqDiff, Nat.reduceAdd, Int.reduceAdd, Int.reduceSub, Int.reduceMul, Int.reduceNeg, Int.reduceLT, Int.reduceLE, Int.reduceEq, q1, q2, g1]
        · have q0 : gI S 100 (201 * t + o) = 0 := by omega
          refine next 0 (Or.inr ⟨rfl, fun z => q2 (dl.mp z).2.1⟩) ?_
          rw [B231_40]
          simp (disch := first | omega | assumption | exact b01_rng _ | exact st_5 | exact st_12 | exact st_19 | (simp only [isSt_sI, isSt_sJ, isSt_sF, isSt_sG, isSt_sA]; assumption)) only [↓B231_47, ↓B231_52, ↓B231_57, ↓B231_67, ↓B231_102, ↓B231_103, ↓a_100, ↓a_103, ↓a_104, ↓a_105, ↓a_106, ↓a_99, ↓n_100, ↓n_103, ↓n_104, ↓n_105, ↓n_106, ↓n_99, ↓r_72_50, ↓r_72_51, ↓r_72_52, ↓r_72_55, ↓r_72_56, ↓r_72_57, ↓r_72_58, ↓s_100, ↓s_103, ↓s_104, ↓s_105, ↓s_106, ↓s_99, i_lit, i_add, i_sub, i_mul, i_neg, i_lt, i_le, i_eq, i32_gI, i64_gJ, i32_id, i32_to, i64_to, sI_i32, sJ_i64, b01_t, b01_f, i32_b01, b01_0, ↓a_s0, ↓n_s0, ↓a_s1, ↓n_s1, Int.add_zero, t_lt, f_lt, t_le, f_le, t_eq, f_eq, true_and, and_true, false_and, and_false, and_self, ↓reduceIte, z_bool_of, or_true, true_or, or_false, false_or, Int.neg_neg, not_true_eq_false, not_false_eq_true, lg_lt, lg_le, lg_gt, lg_ge, lg_eq, j_lit, j_add, j_sub, j_mul, j_neg, j_eq, i64_id, ij, ji, z_rt, Nat.reduceEqDiff, Nat.reduceAdd, Int.reduceAdd, Int.reduceSub, Int.reduceMul, Int.reduceNeg, Int.reduceLT, Int.reduceLE, Int.reduceEq, q1, q0]
      · have q0 : gI S 105 t = 0 := by omega
        refine next 0 (Or.inr ⟨rfl, fun z => q1 (dl.mp z).1⟩) ?_
        rw [B231_40]
        simp (disch := first | omega | assumption | exact b01_rng _ | exact st_5 | exact st_12 | exact st_19 | (simp only [isSt_sI, isSt_sJ, isSt_sF, isSt_sG, isSt_sA]; assumption)) only [↓B231_47, ↓B231_52, ↓B231_57, ↓B231_102, ↓B231_103, ↓a_100, ↓a_103, ↓a_104, ↓a_105, ↓a_106, ↓a_99, ↓n_100, ↓n_103, ↓n_104, ↓n_105, ↓n_106, ↓n_99, ↓r_72_50, ↓r_72_51, ↓r_72_52, ↓r_72_55, ↓r_72_56, ↓r_72_57, ↓r_72_58, ↓s_100, ↓s_103, ↓s_104, ↓s_105, ↓s_106, ↓s_99, i_lit, i_add, i_sub, i_mul, i_neg, i_lt, i_le, i_eq, i32_gI, i64_gJ, i32_id, i32_to, i64_to, sI_i32, sJ_i64, b01_t, b01_f, i32_b01, b01_0, ↓a_s0, ↓n_s0, ↓a_s1, ↓n_s1, Int.add_zero, t_lt, f_lt, t_le, f_le, t_eq, f_eq, true_and, and_true, false_and, and_false, and_self, ↓reduceIte, z_bool_of, or_true, true_or, or_false, false_or, Int.neg_neg, not_true_eq_false, not_false_eq_true, lg_lt, lg_le, lg_gt, lg_ge, lg_eq, j_lit, j_add, j_sub, j_mul, j_neg, j_eq, i64_id, ij, ji, z_rt, Nat.reduceEqDiff, Nat.reduceAdd, Int.reduceAdd, Int.reduceSub, Int.reduceMul, Int.reduceNeg, Int.reduceLT, Int.reduceLE, Int.reduceEq, q0]
abbrev ThS (E : Ln) (f : Int → Int → Int) (S : zS) (n s v w o : Int) : Prop := Thn E f (UA S n) n (lfS S) (Sb S 105 n) s v w o
/-- so many are laid -/
def TnS (E : Ln) (f : Int → Int → Int) (S0 S : zS) (n s v w any o : Int) : Prop := FrRb S0 S ∧ (∀ b i, b ≠ 106 → gI S b i = gI S0 b i) ∧ (∀ k, 0 ≤ k → k < o → (gI S 106 k = 1 ∧ ThS E f S0 n s v w k) ∨ (gI S 106 k = 0 ∧ ¬ ThS E f S0 n s v w k)) ∧ ((any = 1 ∧ ∃ k, k < o ∧ ThS E f S0 n s v w k) ∨ (any = 0 ∧ ∀ k, k < o → ¬ ThS E f S0 n s v w k))
theorem TnS.st {S0 S : zS} {n s v w any o val : Int} (ho : 0 ≤ o ∧ o ≤ n) (h : TnS E f S0 S n s v w any o) (hv : (val = 1 ∧ ThS E f S0 n s v w o) ∨ (val = 0 ∧ ¬ ThS E f S0 n s v w o)) : TnS E f S0 (sI S 106 o val) n s v w (if any = 1 ∨ val = 1 then 1 else 0) (o + 1) := by
  obtain ⟨h1, h2, h3, h4⟩ := h
  refine ⟨h1.tr (FrRb.I (by omega)), fun b i q => by rw [gI_sI, if_neg (fun z => q z.1)]; exact h2 b i q, fun k q1 q2 => ?_, ?_⟩
  · rw [gI_sI]
    by_cases e : k = o
    · subst e
      rw [if_pos ⟨rfl, rfl⟩]
      rcases hv with ⟨rfl, q⟩ | ⟨rfl, q⟩
      · exact Or.inl ⟨rfl, q⟩
      · exact Or.inr ⟨rfl, q⟩
    · rw [if_neg (fun z => e z.2)]
      exact h3 k q1 (by omega)
  · rcases h4 with ⟨rfl, k, k1, k2⟩ | ⟨rfl, k2⟩
    · rw [if_pos (Or.inl rfl)]
      exact Or.inl ⟨rfl, k, by omega, k2⟩
    · rcases hv with ⟨rfl, q⟩ | ⟨rfl, q⟩
      · rw [if_pos (Or.inr rfl)]
        exact Or.inl ⟨rfl, o, by omega, q⟩
      · rw [if_neg (by omega)]
        refine Or.inr ⟨rfl, fun k hk => ?_⟩
        by_cases e : k = o
        · subst e; exact q
        · exact k2 k (by omega)
theorem t231 (hd : 0 < d) (hB : PrB E f M 100000000) (hn : 0 ≤ E.1 ∧ E.1 ≤ 20) {S0 S : zS} {n s v w any o : Int} (hn2 : 1 ≤ n ∧ n ≤ 200) (hL : Laid S0 E f n) (hR : LfR S0 E f n (-1) n) (h5 : B0 S0 105 n) (hs : 0 ≤ s ∧ s < E.1) (hv : 0 ≤ v ∧ v ≤ 2) (hw : 0 ≤ w ∧ w ≤ 100000000) (ho : 0 ≤ o ∧ o ≤ n) (hT : TnS E f S0 S n s v w any o) {x6 x7 : Option Value} : ∃ (S' : zS) (any' : Int) (y6 y7 : Option Value), z_ev X d (231, 6, L231 s v w any o x6 x7, [], mk S) = z_ev X d (231, 6, L231 s v w any' (o + 1) y6 y7, [], mk S') ∧ TnS E f S0 S' n s v w any' (o + 1) := by
  obtain ⟨t1, t2, t3, t4⟩ := id hT
  have hLS := hL.rb t1
  obtain ⟨l1, l2, l3, l4, l5, l6⟩ := id hLS
  have hua := t1.ua (n := n)
  have h5S : B0 S 105 n := fun k q1 q2 => by rw [t2 105 k (by omega)]; exact h5 k q1 q2
  have hCm : Cm S n v o o ↔ ∃ k, Sb S0 105 n k ∧ (UA S0 n).1 k o ∧ gos ((UA S0 n).2.2 o) v := by
    unfold Cm Sb
    rw [hua]
    constructor
    · rintro ⟨k, -, k2, k3, k4⟩
      rw [t2 105 k (by omega)] at k2
      exact ⟨k, k2, k3, k4⟩
    · rintro ⟨k, k2, k3, k4⟩
      exact ⟨k, (UA_o k3).2.1, by rw [t2 105 k (by omega)]; exact k2, k3, k4⟩
  -- what comes there
  obtain ⟨so, t', e1, e2⟩ : ∃ so t' : Int, z_ev X d (231, 6, L231 s v w any o x6 x7, [], mk S) = z_ev X d (231, 111, L231 s v w any o (vI so) (vI t'), [], mk S) ∧ ((so = 1 ∧ ((v = 2 ∧ Sb S0 105 n o) ∨ (v ≠ 2 ∧ ∃ k, Sb S0 105 n k ∧ (UA S0 n).1 k o ∧ gos ((UA S0 n).2.2 o) v))) ∨ (so = 0 ∧ ¬ ((v = 2 ∧ Sb S0 105 n o) ∨ (v ≠ 2 ∧ ∃ k, Sb S0 105 n k ∧ (UA S0 n).1 k o ∧ gos ((UA S0 n).2.2 o) v)))) := by
    by_cases q : v = 2
    · subst q
      rcases h5S o ho.1 ho.2 with w0 | w1
      · refine ⟨0, 0, ?_, Or.inr ⟨rfl, ?_⟩⟩
        · rw [B231_6]
          by_cases z : o = 0
          · subst z
            simp (disch := first | omega | assumption | exact b01_rng _ | exact st_5 | exact st_12 | exact st_19 | (simp only [isSt_sI, isSt_sJ, isSt_sF, isSt_sG, isSt_sA]; assumption)) only [↓B231_15, ↓B231_20, ↓B231_34, ↓B231_35, ↓B231_40, ↓a_100, ↓a_103, ↓a_104, ↓a_105, ↓a_106, ↓a_99, ↓n_100, ↓n_103, ↓n_104, ↓n_105, ↓n_106, ↓n_99, ↓r_72_50, ↓r_72_51, ↓r_72_52, ↓r_72_55, ↓r_72_56, ↓r_72_57, ↓r_72_58, ↓s_100, ↓s_103, ↓s_104, ↓s_105, ↓s_106, ↓s_99, i_lit, i_add, i_sub, i_mul, i_neg, i_lt, i_le, i_eq, i32_gI, i64_gJ, i32_id, i32_to, i64_to, sI_i32, sJ_i64, b01_t, b01_f, i32_b01, b01_0, ↓a_s0, ↓n_s0, ↓a_s1, ↓n_s1, Int.add_zero, t_lt, f_lt, t_le, f_le, t_eq, f_eq, true_and, and_true, false_and, and_false, and_self, ↓reduceIte, z_bool_of, or_true, true_or, or_false, false_or, Int.neg_neg, not_true_eq_false, not_false_eq_true, lg_lt, lg_le, lg_gt, lg_ge, lg_eq, j_lit, j_add, j_sub, j_mul, j_neg, j_eq, i64_id, ij, ji, z_rt, Nat.reduceEqDiff, Nat.reduceAdd, Int.reduceAdd, Int.reduceSub, Int.reduceMul, Int.reduceNeg, Int.reduceLT, Int.reduceLE, Int.reduceEq, l2, w0]
          · simp (disch := first | omega | assumption | exact b01_rng _ | exact st_5 | exact st_12 | exact st_19 | (simp only [isSt_sI, isSt_sJ, isSt_sF, isSt_sG, isSt_sA]; assumption)) only [↓B231_15, ↓B231_20, ↓B231_34, ↓B231_35, ↓B231_40, ↓B231_47, ↓a_100, ↓a_103, ↓a_104, ↓a_105, ↓a_106, ↓a_99, ↓n_100, ↓n_103, ↓n_104, ↓n_105, ↓n_106, ↓n_99, ↓r_72_50, ↓r_72_51, ↓r_72_52, ↓r_72_55, ↓r_72_56, ↓r_72_57, ↓r_72_58, ↓s_100, ↓s_103, ↓s_104, ↓s_105, ↓s_106, ↓s_99, i_lit, i_add, i_sub, i_mul, i_neg, i_lt, i_le, i_eq, i32_gI, i64_gJ, i32_id, i32_to, i64_to, sI_i32, sJ_i64, b01_t, b01_f, i32_b01, b01_0, ↓a_s0, ↓n_s0, ↓a_s1, ↓n_s1, Int.add_zero, t_lt, f_lt, t_le, f_le, t_eq, f_eq, true_and, and_true, false_and, and_false, and_self, ↓reduceIte, z_bool_of, or_true, true_or, or_false, false_or, Int.neg_neg, not_true_eq_false, not_false_eq_true, lg_lt, lg_le, lg_gt, lg_ge, lg_eq, j_lit, j_add, j_sub, j_mul, j_neg, j_eq, i64_id, ij, ji, z_rt, Nat.reduceEqDiff, Nat.reduceAdd, Int.reduceAdd, Int.reduceSub, Int.reduceMul, Int.reduceNeg, Int.reduceLT, Int.reduceLE, Int.reduceEq, l2, w0]
        · rintro (⟨-, z⟩ | ⟨z, -⟩)
          · have := z.2
            rw [← t2 105 o (by omega)] at this; omega
          · exact z rfl
      · refine ⟨1, 0, ?_, Or.inl ⟨rfl, Or.inl ⟨rfl, ho, by rw [← t2 105 o (by omega)]; exact w1⟩⟩⟩
        rw [B231_6]
        by_cases z : o = 0
        · subst z
          simp (disch := first | omega | assumption | exact b01_rng _ | exact st_5 | exact st_12 | exact st_19 | (simp only [isSt_sI, isSt_sJ, isSt_sF, isSt_sG, isSt_sA]; assumption)) only [↓B231_15, ↓B231_20, ↓B231_30, ↓B231_35, ↓B231_40, ↓a_100, ↓a_103, ↓a_104, ↓a_105, ↓a_106, ↓a_99, ↓n_100, ↓n_103, ↓n_104, ↓n_105, ↓n_106, ↓n_99, ↓r_72_50, ↓r_72_51, ↓r_72_52, ↓r_72_55, ↓r_72_56, ↓r_72_57, ↓r_72_58, ↓s_100, ↓s_103, ↓s_104, ↓s_105, ↓s_106, ↓s_99, i_lit, i_add, i_sub, i_mul, i_neg, i_lt, i_le, i_eq, i32_gI, i64_gJ, i32_id, i32_to, i64_to, sI_i32, sJ_i64, b01_t, b01_f, i32_b01, b01_0, ↓a_s0, ↓n_s0, ↓a_s1, ↓n_s1, Int.add_zero, t_lt, f_lt, t_le, f_le, t_eq, f_eq, true_and, and_true, false_and, and_false, and_self, ↓reduceIte, z_bool_of, or_true, true_or, or_false, false_or, Int.neg_neg, not_true_eq_false, not_false_eq_true, lg_lt, lg_le, lg_gt, lg_ge, lg_eq, j_lit, j_add, j_sub, j_mul, j_neg, j_eq, i64_id, ij, ji, z_rt, Nat.reduceEqDiff, Nat.reduceAdd, Int.reduceAdd, Int.reduceSub, Int.reduceMul, Int.reduceNeg, Int.reduceLT, Int.reduceLE, Int.reduceEq, l2, w1]
        · simp (disch := first | omega | assumption | exact b01_rng _ | exact st_5 | exact st_12 | exact st_19 | (simp only [isSt_sI, isSt_sJ, isSt_sF, isSt_sG, isSt_sA]; assumption)) only [↓B231_15, ↓B231_20, ↓B231_30, ↓B231_35, ↓B231_40, ↓B231_47, ↓a_100, ↓a_103, ↓a_104, ↓a_105, ↓a_106, ↓a_99, ↓n_100, ↓n_103, ↓n_104, ↓n_105, ↓n_106, ↓n_99, ↓r_72_50, ↓r_72_51, ↓r_72_52, ↓r_72_55, ↓r_72_56, ↓r_72_57, ↓r_72_58, ↓s_100, ↓s_103, ↓s_104, ↓s_105, ↓s_106, ↓s_99, i_lit, i_add, i_sub, i_mul, i_neg, i_lt, i_le, i_eq, i32_gI, i64_gJ, i32_id, i32_to, i64_to, sI_i32, sJ_i64, b01_t, b01_f, i32_b01, b01_0, ↓a_s0, ↓n_s0, ↓a_s1, ↓n_s1, Int.add_zero, t_lt, f_lt, t_le, f_le, t_eq, f_eq, true_and, and_true, false_and, and_false, and_self, ↓reduceIte, z_bool_of, or_true, true_or, or_false, false_or, Int.neg_neg, not_true_eq_false, not_false_eq_true, lg_lt, lg_le, lg_gt, lg_ge, lg_eq, j_lit, j_add, j_sub, j_mul, j_neg, j_eq, i64_id, ij, ji, z_rt, Nat.reduceEqDiff, Nat.reduceAdd, Int.reduceAdd, Int.reduceSub, Int.reduceMul, Int.reduceNeg, Int.reduceLT, Int.reduceLE, Int.reduceEq, l2, w1]
    · obtain ⟨so, t', w1, w2⟩ := l231i (X := X) (d := d) (s := s) (w := w) (any := any) hd hn2 hLS h5S (v := v) (by omega) ho o.toNat 0 0 (by omega) (by omega) (Or.inr ⟨rfl, fun ⟨k, k1, k2, _⟩ => by have := k2.1; omega⟩)
      rw [hCm] at w2
      refine ⟨so, t', ?_, ?_⟩
      · rw [← w1, B231_6]
        simp (disch := first | omega | assumption | exact b01_rng _ | exact st_5 | exact st_12 | exact st_19 | (simp only [isSt_sI, isSt_sJ, isSt_sF, isSt_sG, isSt_sA]; assumption)) only [↓B231_15, ↓B231_34, ↓B231_35, ↓a_100, ↓a_103, ↓a_104, ↓a_105, ↓a_106, ↓a_99, ↓n_100, ↓n_103, ↓n_104, ↓n_105, ↓n_106, ↓n_99, ↓r_72_50, ↓r_72_51, ↓r_72_52, ↓r_72_55, ↓r_72_56, ↓r_72_57, ↓r_72_58, ↓s_100, ↓s_103, ↓s_104, ↓s_105, ↓s_106, ↓s_99, i_lit, i_add, i_sub, i_mul, i_neg, i_lt, i_le, i_eq, i32_gI, i64_gJ, i32_id, i32_to, i64_to, sI_i32, sJ_i64, b01_t, b01_f, i32_b01, b01_0, ↓a_s0, ↓n_s0, ↓a_s1, ↓n_s1, Int.add_zero, t_lt, f_lt, t_le, f_le, t_eq, f_eq, true_and, and_true, false_and, and_false, and_self, ↓reduceIte, z_bool_of, or_true, true_or, or_false, false_or, Int.neg_neg, not_true_eq_false, not_false_eq_true, lg_lt, lg_le, lg_gt, lg_ge, lg_eq, j_lit, j_add, j_sub, j_mul, j_neg, j_eq, i64_id, ij, ji, z_rt, Nat.reduceEqDiff, Nat.reduceAdd, Int.reduceAdd, Int.reduceSub, Int.reduceMul, Int.reduceNeg, Int.reduceLT, Int.reduceLE, Int.reduceEq, l2, q]
      · rcases w2 with ⟨z1, z2⟩ | ⟨z1, z2⟩
        · exact Or.inl ⟨z1, Or.inr ⟨q, z2⟩⟩
        · refine Or.inr ⟨z1, ?_⟩
          rintro (⟨z, -⟩ | ⟨-, z⟩)
          · exact q z
          · exact z2 z
  -- what is stored
  have hcan := (hL.2.2.2.2.1).can hB (p := s) (v := v) hs hv
  have hpr := hL.2.2.2.2.1 s v hs.1 hs.2 hv.1 hv.2
  have hbd := hR.bd (s := s + 1) (t := o) ⟨by omega, by omega⟩ ho
  have e103 : gI S 103 (3 * s + v) = gI S0 103 (3 * s + v) := t2 103 _ (by omega)
  have e104 : gI S 104 (201 * (s + 1) + o) = lfS S0 (s + 1) o := t2 104 _ (by omega)
  have hbd' : 0 ≤ gI S 104 (201 * (s + 1) + o) ∧ gI S 104 (201 * (s + 1) + o) ≤ 100000000 := by rw [e104]; exact hbd
  have hb103 := hpr.1.1
  have hb103' := hpr.2
  rw [← e103] at hcan hb103 hb103'
  obtain ⟨val, e3, e4⟩ : ∃ val : Int, z_ev X d (231, 111, L231 s v w any o (vI so) (vI t'), [], mk S) = z_ev X d (231, 173, L231 s v w any o (vI so) (vI t'), [.int (Int32.ofInt val), .int (Int32.ofInt o), .ref 106], mk S) ∧ ((val = 1 ∧ ThS E f S0 n s v w o) ∨ (val = 0 ∧ ¬ ThS E f S0 n s v w o)) := by
    rcases e2 with ⟨rfl, z2⟩ | ⟨rfl, z2⟩
    · by_cases c1 : gI S 103 (3 * s + v) < 100000000
      · have hev := hcan.mp c1
        have hf := hpr.1.2.1 ⟨hs.2, hev⟩
        rw [← e103] at hf
        by_cases c2 : gI S 103 (3 * s + v) + gI S 104 (201 * (s + 1) + o) = w
        · refine ⟨1, ?_, Or.inl ⟨rfl, ho, z2, hev, by rw [hf, ← e104]; exact c2⟩⟩
          rw [B231_111]
          simp (disch := first | omega | assumption | exact b01_rng _ | exact st_5 | exact st_12 | exact st_19 | (simp only [isSt_sI, isSt_sJ, isSt_sF, isSt_sG, isSt_sA]; assumption)) only [↓B231_122, ↓B231_138, ↓B231_168, ↓a_100, ↓a_103, ↓a_104, ↓a_105, ↓a_106, ↓a_99, ↓n_100, ↓n_103, ↓n_104, ↓n_105, ↓n_106, ↓n_99, ↓r_72_50, ↓r_72_51, ↓r_72_52, ↓r_72_55, ↓r_72_56, ↓r_72_57, ↓r_72_58, ↓s_100, ↓s_103, ↓s_104, ↓s_105, ↓s_106, ↓s_99, i_lit, i_add, i_sub, i_mul, i_neg, i_lt, i_le, i_eq, i32_gI, i64_gJ, i32_id, i32_to, i64_to, sI_i32, sJ_i64, b01_t, b01_f, i32_b01, b01_0, ↓a_s0, ↓n_s0, ↓a_s1, ↓n_s1, Int.add_zero, t_lt, f_lt, t_le, f_le, t_eq, f_eq, true_and, and_true, false_and, and_false, and_self, ↓reduceIte, z_bool_of, or_true, true_or, or_false, false_or, Int.neg_neg, not_true_eq_false, not_false_eq_true, lg_lt, lg_le, lg_gt, lg_ge, lg_eq, j_lit, j_add, j_sub, j_mul, j_neg, j_eq, i64_id, ij, ji, z_rt, Nat.reduceEqDiff, Nat.reduceAdd, Int.reduceAdd, Int.reduceSub, Int.reduceMul, Int.reduceNeg, Int.reduceLT, Int.reduceLE, Int.reduceEq, c2]
        · refine ⟨0, ?_, Or.inr ⟨rfl, fun z => c2 (by rw [← hf, e104]; exact z.2.2.2)⟩⟩
          rw [B231_111]
          simp (disch := first | omega | assumption | exact b01_rng _ | exact st_5 | exact st_12 | exact st_19 | (simp only [isSt_sI, isSt_sJ, isSt_sF, isSt_sG, isSt_sA]; assumption)) only [↓B231_122, ↓B231_138, ↓B231_172, ↓a_100, ↓a_103, ↓a_104, ↓a_105, ↓a_106, ↓a_99, ↓n_100, ↓n_103, ↓n_104, ↓n_105, ↓n_106, ↓n_99, ↓r_72_50, ↓r_72_51, ↓r_72_52, ↓r_72_55, ↓r_72_56, ↓r_72_57, ↓r_72_58, ↓s_100, ↓s_103, ↓s_104, ↓s_105, ↓s_106, ↓s_99, i_lit, i_add, i_sub, i_mul, i_neg, i_lt, i_le, i_eq, i32_gI, i64_gJ, i32_id, i32_to, i64_to, sI_i32, sJ_i64, b01_t, b01_f, i32_b01, b01_0, ↓a_s0, ↓n_s0, ↓a_s1, ↓n_s1, Int.add_zero, t_lt, f_lt, t_le, f_le, t_eq, f_eq, true_and, and_true, false_and, and_false, and_self, ↓reduceIte, z_bool_of, or_true, true_or, or_false, false_or, Int.neg_neg, not_true_eq_false, not_false_eq_true, lg_lt, lg_le, lg_gt, lg_ge, lg_eq, j_lit, j_add, j_sub, j_mul, j_neg, j_eq, i64_id, ij, ji, z_rt, Nat.reduceEqDiff, Nat.reduceAdd, Int.reduceAdd, Int.reduceSub, Int.reduceMul, Int.reduceNeg, Int.reduceLT, Int.reduceLE, Int.reduceEq, c2]
      · refine ⟨0, ?_, Or.inr ⟨rfl, fun z => c1 (hcan.mpr z.2.2.1)⟩⟩
        rw [B231_111]
        simp (disch := first | omega | assumption | exact b01_rng _ | exact st_5 | exact st_12 | exact st_19 | (simp only [isSt_sI, isSt_sJ, isSt_sF, isSt_sG, isSt_sA]; assumption)) only [↓B231_122, ↓B231_172, ↓a_100, ↓a_103, ↓a_104, ↓a_105, ↓a_106, ↓a_99, ↓n_100, ↓n_103, ↓n_104, ↓n_105, ↓n_106, ↓n_99, ↓r_72_50, ↓r_72_51, ↓r_72_52, ↓r_72_55, ↓r_72_56, ↓r_72_57, ↓r_72_58, ↓s_100, ↓s_103, ↓s_104, ↓s_105, ↓s_106, ↓s_99, i_lit, i_add, i_sub, i_mul, i_neg, i_lt, i_le, i_eq, i32_gI, i64_gJ, i32_id, i32_to, i64_to, sI_i32, sJ_i64, b01_t, b01_f, i32_b01, b01_0, ↓a_s0, ↓n_s0, ↓a_s1, ↓n_s1, Int.add_zero, t_lt, f_lt, t_le, f_le, t_eq, f_eq, true_and, and_true, false_and, and_false, and_self, ↓reduceIte, z_bool_of, or_true, true_or, or_false, false_or, Int.neg_neg, not_true_eq_false, not_false_eq_true, lg_lt, lg_le, lg_gt, lg_ge, lg_eq, j_lit, j_add, j_sub, j_mul, j_neg, j_eq, i64_id, ij, ji, z_rt, Nat.reduceEqDiff, Nat.reduceAdd, Int.reduceAdd, Int.reduceSub, Int.reduceMul, Int.reduceNeg, Int.reduceLT, Int.reduceLE, Int.reduceEq]
    · refine ⟨0, ?_, Or.inr ⟨rfl, fun z => z2 z.2.1⟩⟩
      rw [B231_111]
      simp (disch := first | omega | assumption | exact b01_rng _ | exact st_5 | exact st_12 | exact st_19 | (simp only [isSt_sI, isSt_sJ, isSt_sF, isSt_sG, isSt_sA]; assumption)) only [↓B231_172, ↓a_100, ↓a_103, ↓a_104, ↓a_105, ↓a_106, ↓a_99, ↓n_100, ↓n_103, ↓n_104, ↓n_105, ↓n_106, ↓n_99, ↓r_72_50, ↓r_72_51, ↓r_72_52, ↓r_72_55, ↓r_72_56, ↓r_72_57, ↓r_72_58, ↓s_100, ↓s_103, ↓s_104, ↓s_105, ↓s_106, ↓s_99, i_lit, i_add, i_sub, i_mul, i_neg, i_lt, i_le, i_eq, i32_gI, i64_gJ, i32_id, i32_to, i64_to, sI_i32, sJ_i64, b01_t, b01_f, i32_b01, b01_0, ↓a_s0, ↓n_s0, ↓a_s1, ↓n_s1, Int.add_zero, t_lt, f_lt, t_le, f_le, t_eq, f_eq, true_and, and_true, false_and, and_false, and_self, ↓reduceIte, z_bool_of, or_true, true_or, or_false, false_or, Int.neg_neg, not_true_eq_false, not_false_eq_true, lg_lt, lg_le, lg_gt, lg_ge, lg_eq, j_lit, j_add, j_sub, j_mul, j_neg, j_eq, i64_id, ij, ji, z_rt, Nat.reduceEqDiff, Nat.reduceAdd, Int.reduceAdd, Int.reduceSub, Int.reduceMul, Int.reduceNeg, Int.reduceLT, Int.reduceLE, Int.reduceEq]
  refine ⟨sI S 106 o val, if any = 1 ∨ val = 1 then 1 else 0, vI so, vI t', ?_, hT.st ho e4⟩
  rw [e1, e3]
  have hvv : val = 0 ∨ val = 1 := by rcases e4 with ⟨z, -⟩ | ⟨z, -⟩ <;> omega
  have haa : any = 0 ∨ any = 1 := by rcases t4 with ⟨z, -⟩ | ⟨z, -⟩ <;> omega
  have g6 : gI (sI S 106 o val) 106 o = val := by rw [gI_sI, if_pos ⟨rfl, rfl⟩, i32_id (by omega) (by omega)]
  rcases haa with rfl | rfl
  · rcases hvv with rfl | rfl
    · simp (disch := first | omega | assumption | exact b01_rng _ | exact st_5 | exact st_12 | exact st_19 | (simp only [isSt_sI, isSt_sJ, isSt_sF, isSt_sG, isSt_sA]; assumption)) only [↓B231_173, ↓B231_179, ↓B231_193, ↓B231_194, ↓a_100, ↓a_103, ↓a_104, ↓a_105, ↓a_106, ↓a_99, ↓n_100, ↓n_103, ↓n_104, ↓n_105, ↓n_106, ↓n_99, ↓r_72_50, ↓r_72_51, ↓r_72_52, ↓r_72_55, ↓r_72_56, ↓r_72_57, ↓r_72_58, ↓s_100, ↓s_103, ↓s_104, ↓s_105, ↓s_106, ↓s_99, i_lit, i_add, i_sub, i_mul, i_neg, i_lt, i_le, i_eq, i32_gI, i64_gJ, i32_id, i32_to, i64_to, sI_i32, sJ_i64, b01_t, b01_f, i32_b01, b01_0, ↓a_s0, ↓n_s0, ↓a_s1, ↓n_s1, Int.add_zero, t_lt, f_lt, t_le, f_le, t_eq, f_eq, true_and, and_true, false_and, and_false, and_self, ↓reduceIte, z_bool_of, or_true, true_or, or_false, false_or, Int.neg_neg, not_true_eq_false, not_false_eq_true, lg_lt, lg_le, lg_gt, lg_ge, lg_eq, j_lit, j_add, j_sub, j_mul, j_neg, j_eq, i64_id, ij, ji, z_rt, Nat.reduceEqDiff, Nat.reduceAdd, Int.reduceAdd, Int.reduceSub, Int.reduceMul, Int.reduceNeg, Int.reduceLT, Int.reduceLE, Int.reduceEq, g6]
    · simp (disch := first | omega | assumption | exact b01_rng _ | exact st_5 | exact st_12 | exact st_19 | (simp only [isSt_sI, isSt_sJ, isSt_sF, isSt_sG, isSt_sA]; assumption)) only [↓B231_173, ↓B231_179, ↓B231_189, ↓B231_194, ↓a_100, ↓a_103, ↓a_104, ↓a_105, ↓a_106, ↓a_99, ↓n_100, ↓n_103, ↓n_104, ↓n_105, ↓n_106, ↓n_99, ↓r_72_50, ↓r_72_51, ↓r_72_52, ↓r_72_55, ↓r_72_56, ↓r_72_57, ↓r_72_58, ↓s_100, ↓s_103, ↓s_104, ↓s_105, ↓s_106, ↓s_99, i_lit, i_add, i_sub, i_mul, i_neg, i_lt, i_le, i_eq, i32_gI, i64_gJ, i32_id, i32_to, i64_to, sI_i32, sJ_i64, b01_t, b01_f, i32_b01, b01_0, ↓a_s0, ↓n_s0, ↓a_s1, ↓n_s1, Int.add_zero, t_lt, f_lt, t_le, f_le, t_eq, f_eq, true_and, and_true, false_and, and_false, and_self, ↓reduceIte, z_bool_of, or_true, true_or, or_false, false_or, Int.neg_neg, not_true_eq_false, not_false_eq_true, lg_lt, lg_le, lg_gt, lg_ge, lg_eq, j_lit, j_add, j_sub, j_mul, j_neg, j_eq, i64_id, ij, ji, z_rt, Nat.reduceEqDiff, Nat.reduceAdd, Int.reduceAdd, Int.reduceSub, Int.reduceMul, Int.reduceNeg, Int.reduceLT, Int.reduceLE, Int.reduceEq, g6]
  · rcases hvv with rfl | rfl
    · simp (disch := first | omega | assumption | exact b01_rng _ | exact st_5 | exact st_12 | exact st_19 | (simp only [isSt_sI, isSt_sJ, isSt_sF, isSt_sG, isSt_sA]; assumption)) only [↓B231_173, ↓B231_189, ↓B231_194, ↓a_100, ↓a_103, ↓a_104, ↓a_105, ↓a_106, ↓a_99, ↓n_100, ↓n_103, ↓n_104, ↓n_105, ↓n_106, ↓n_99, ↓r_72_50, ↓r_72_51, ↓r_72_52, ↓r_72_55, ↓r_72_56, ↓r_72_57, ↓r_72_58, ↓s_100, ↓s_103, ↓s_104, ↓s_105, ↓s_106, ↓s_99, i_lit, i_add, i_sub, i_mul, i_neg, i_lt, i_le, i_eq, i32_gI, i64_gJ, i32_id, i32_to, i64_to, sI_i32, sJ_i64, b01_t, b01_f, i32_b01, b01_0, ↓a_s0, ↓n_s0, ↓a_s1, ↓n_s1, Int.add_zero, t_lt, f_lt, t_le, f_le, t_eq, f_eq, true_and, and_true, false_and, and_false, and_self, ↓reduceIte, z_bool_of, or_true, true_or, or_false, false_or, Int.neg_neg, not_true_eq_false, not_false_eq_true, lg_lt, lg_le, lg_gt, lg_ge, lg_eq, j_lit, j_add, j_sub, j_mul, j_neg, j_eq, i64_id, ij, ji, z_rt, Nat.reduceEqDiff, Nat.reduceAdd, Int.reduceAdd, Int.reduceSub, Int.reduceMul, Int.reduceNeg, Int.reduceLT, Int.reduceLE, Int.reduceEq]
    · simp (disch := first | omega | assumption | exact b01_rng _ | exact st_5 | exact st_12 | exact st_19 | (simp only [isSt_sI, isSt_sJ, isSt_sF, isSt_sG, isSt_sA]; assumption)) only [↓B231_173, ↓B231_189, ↓B231_194, ↓a_100, ↓a_103, ↓a_104, ↓a_105, ↓a_106, ↓a_99, ↓n_100, ↓n_103, ↓n_104, ↓n_105, ↓n_106, ↓n_99, ↓r_72_50, ↓r_72_51, ↓r_72_52, ↓r_72_55, ↓r_72_56, ↓r_72_57, ↓r_72_58, ↓s_100, ↓s_103, ↓s_104, ↓s_105, ↓s_106, ↓s_99, i_lit, i_add, i_sub, i_mul, i_neg, i_lt, i_le, i_eq, i32_gI, i64_gJ, i32_id, i32_to, i64_to, sI_i32, sJ_i64, b01_t, b01_f, i32_b01, b01_0, ↓a_s0, ↓n_s0, ↓a_s1, ↓n_s1, Int.add_zero, t_lt, f_lt, t_le, f_le, t_eq, f_eq, true_and, and_true, false_and, and_false, and_self, ↓reduceIte, z_bool_of, or_true, true_or, or_false, false_or, Int.neg_neg, not_true_eq_false, not_false_eq_true, lg_lt, lg_le, lg_gt, lg_ge, lg_eq, j_lit, j_add, j_sub, j_mul, j_neg, j_eq, i64_id, ij, ji, z_rt, Nat.reduceEqDiff, Nat.reduceAdd, Int.reduceAdd, Int.reduceSub, Int.reduceMul, Int.reduceNeg, Int.reduceLT, Int.reduceLE, Int.reduceEq]
theorem l231 (hd : 0 < d) (hB : PrB E f M 100000000) (hn : 0 ≤ E.1 ∧ E.1 ≤ 20) {S0 : zS} {n s v w : Int} (hn2 : 1 ≤ n ∧ n ≤ 200) (hL : Laid S0 E f n) (hR : LfR S0 E f n (-1) n) (h5 : B0 S0 105 n) (hs : 0 ≤ s ∧ s < E.1) (hv : 0 ≤ v ∧ v ≤ 2) (hw : 0 ≤ w ∧ w ≤ 100000000) : ∀ (c : Nat) (o any : Int) (S : zS) (x6 x7 : Option Value), o + c = n + 1 → 0 ≤ o → TnS E f S0 S n s v w any o → ∃ (S' : zS) (any' : Int), z_ev X d (231, 6, L231 s v w any o x6 x7, [], mk S) = some (vI any', mk S') ∧ TnS E f S0 S' n s v w any' (n + 1) := by
  intro c
  induction c with
  | zero =>
    intro o any S x6 x7 hc ho hT
    have : o = n + 1 := by omega
    subst this
    have h51 : gI S 72 51 = n := by rw [hT.2.1 72 51 (by omega)]; exact hL.2.1
    have haa : any = 0 ∨ any = 1 := by rcases hT.2.2.2 with ⟨z, -⟩ | ⟨z, -⟩ <;> omega
    refine ⟨S, any, ?_, hT⟩
    rw [B231_6]
    rcases haa with rfl | rfl <;> simp (disch := first | omega | assumption | exact b01_rng _ | exact st_5 | exact st_12 | exact st_19 | (simp only [isSt_sI, isSt_sJ, isSt_sF, isSt_sG, isSt_sA]; assumption)) only [↓B231_202, ↓a_100, ↓a_103, ↓a_104, ↓a_105, ↓a_106, ↓a_99, ↓n_100, ↓n_103, ↓n_104, ↓n_105, ↓n_106, ↓n_99, ↓r_72_50, ↓r_72_51, ↓r_72_52, ↓r_72_55, ↓r_72_56, ↓r_72_57, ↓r_72_58, ↓s_100, ↓s_103, ↓s_104, ↓s_105, ↓s_106, ↓s_99, i_lit, i_add, i_sub, i_mul, i_neg, i_lt, i_le, i_eq, i32_gI, i64_gJ, i32_id, i32_to, i64_to, sI_i32, sJ_i64, b01_t, b01_f, i32_b01, b01_0, ↓a_s0, ↓n_s0, ↓a_s1, ↓n_s1, Int.add_zero, t_lt, f_lt, t_le, f_le, t_eq, f_eq, true_and, and_true, false_and, and_false, and_self, ↓reduceIte, z_bool_of, or_true, true_or, or_false, false_or, Int.neg_neg, not_true_eq_false, not_false_eq_true, lg_lt, lg_le, lg_gt, lg_ge, lg_eq, j_lit, j_add, j_sub, j_mul, j_neg, j_eq, i64_id, ij, ji, z_rt, Nat.reduceEqDiff, Nat.reduceAdd, Int.reduceAdd, Int.reduceSub, Int.reduceMul, Int.reduceNeg, Int.reduceLT, Int.reduceLE, Int.reduceEq, h51]
  | succ c ih =>
    intro o any S x6 x7 hc ho hT
    obtain ⟨S1, any1, y6, y7, e1, e2⟩ := t231 (X := X) (d := d) hd hB hn hn2 hL hR h5 hs hv hw ⟨ho, by omega⟩ hT (x6 := x6) (x7 := x7)
    obtain ⟨S', any', w1, w2⟩ := ih (o + 1) any1 S1 y6 y7 (by omega) (by omega) e2
    exact ⟨S', any', by rw [e1]; exact w1, w2⟩
/-- where one is behind a syllable read as v -/
theorem x231 (hd : 0 < d) (hB : PrB E f M 100000000) (hn : 0 ≤ E.1 ∧ E.1 ≤ 20) {S : zS} {n s v w : Int} (hn2 : 1 ≤ n ∧ n ≤ 200) (hL : Laid S E f n) (hR : LfR S E f n (-1) n) (h5 : B0 S 105 n) (hs : 0 ≤ s ∧ s < E.1) (hv : 0 ≤ v ∧ v ≤ 2) (hw : 0 ≤ w ∧ w ≤ 100000000) : ∃ (S' : zS) (r : Int), z_ev X d (z_entry 231 [.ref 72, .int (Int32.ofInt s), .int (Int32.ofInt v), .int (Int32.ofInt w)] (mk S)) = some (vI r, mk S') ∧ FrRb S S' ∧ (∀ b i, b ≠ 106 → gI S' b i = gI S b i) ∧ (∀ k, 0 ≤ k → k ≤ n → (gI S' 106 k = 1 ∧ ThS E f S n s v w k) ∨ (gI S' 106 k = 0 ∧ ¬ ThS E f S n s v w k)) ∧ ((r = 1 ∧ ∃ k, ThS E f S n s v w k) ∨ (r = 0 ∧ ∀ k, ¬ ThS E f S n s v w k)) := by
  obtain ⟨S', r, w1, t1, t2, t3, t4⟩ := l231 (X := X) (d := d) hd hB hn hn2 hL hR h5 hs hv hw (n + 1).toNat 0 0 S none none (by omega) (by omega) ⟨FrRb.rf, fun _ _ _ => rfl, fun k q1 q2 => by omega, Or.inr ⟨rfl, fun k hk z => by have := z.1; omega⟩⟩
  refine ⟨S', r, ?_, t1, t2, fun k q1 q2 => t3 k q1 (by omega), ?_⟩
  · rw [← w1]
    show z_ev X d (231, 0, [some (.ref 72), some (.int (Int32.ofInt s)), some (.int (Int32.ofInt v)), some (.int (Int32.ofInt w)), none, none, none, none], [], mk S) = _
    simp (disch := first | omega | assumption | exact b01_rng _ | exact st_5 | exact st_12 | exact st_19 | (simp only [isSt_sI, isSt_sJ, isSt_sF, isSt_sG, isSt_sA]; assumption)) only [↓B231_0, i_lit, i_add, i_sub, i_mul, i_neg, i_lt, i_le, i_eq, i32_gI, i64_gJ, i32_id, i32_to, i64_to, sI_i32, sJ_i64, b01_t, b01_f, i32_b01, b01_0, ↓a_s0, ↓n_s0, ↓a_s1, ↓n_s1, Int.add_zero, t_lt, f_lt, t_le, f_le, t_eq, f_eq, true_and, and_true, false_and, and_false, and_self, ↓reduceIte, z_bool_of, or_true, true_or, or_false, false_or, Int.neg_neg, not_true_eq_false, not_false_eq_true, lg_lt, lg_le, lg_gt, lg_ge, lg_eq, j_lit, j_add, j_sub, j_mul, j_neg, j_eq, i64_id, ij, ji, z_rt, Nat.reduceEqDiff, Nat.reduceAdd, Int.reduceAdd, Int.reduceSub, Int.reduceMul, Int.reduceNeg, Int.reduceLT, Int.reduceLE, Int.reduceEq]
  · rcases t4 with ⟨z, k, -, k2⟩ | ⟨z, k2⟩
    · exact Or.inl ⟨z, k, k2⟩
    · exact Or.inr ⟨z, fun k hk => k2 k (by have := hk.1; omega) hk⟩
end
