/-! the reference reads: cuts that can be passed -/
def FrRb (S S' : zS) : Prop := Dyn S S' ∧ (∀ a i, ¬ (105 ≤ a ∧ a ≤ 107) → gI S' a i = gI S a i) ∧ (∀ a i, gJ S' a i = gJ S a i) ∧ (∀ a i, gQ S' a i = gQ S a i)
theorem FrRb.rf {S : zS} : FrRb S S := ⟨Dyn.rf, fun _ _ _ => rfl, fun _ _ => rfl, fun _ _ => rfl⟩
theorem FrRb.tr {A B C : zS} (h1 : FrRb A B) (h2 : FrRb B C) : FrRb A C := ⟨h1.1.tr h2.1, fun a i q => (h2.2.1 a i q).trans (h1.2.1 a i q), fun a i => (h2.2.2.1 a i).trans (h1.2.2.1 a i), fun a i => (h2.2.2.2 a i).trans (h1.2.2.2 a i)⟩
theorem FrRb.I {S : zS} {a : Nat} {i x : Int} (h : 105 ≤ a ∧ a ≤ 107) : FrRb S (sI S a i x) := ⟨Dyn.sI (by omega) Dyn.rf, fun b j q => by rw [gI_sI, if_neg (by omega)], fun _ _ => rfl, fun _ _ => rfl⟩
theorem FrRb.F {S : zS} {a : Nat} {lo hi : Int} {g : Int → Int} (h : 105 ≤ a ∧ a ≤ 107) : FrRb S (sF S a lo hi g) := ⟨Dyn.sF (by omega) Dyn.rf, fun b j q => by rw [gI_sF, if_neg (by omega)], fun _ _ => rfl, fun _ _ => rfl⟩
theorem FrRb.q {S S' : zS} (h : FrRb S S') : FrQm S S' := ⟨h.1, fun a i q r s => h.2.1 a i (by omega), fun a i _ _ => h.2.2.1 a i, h.2.2.2⟩
theorem FrRb.ua {S S' : zS} {n : Int} (hF : FrRb S S') : UA S' n = UA S n := UA_cg (fun i => hF.2.1 99 i (by omega)) (fun i => hF.2.1 100 i (by omega)) (fun i => hF.2.1 102 i (by omega))
theorem Laid.rb {S S' : zS} {E : Ln} {f : Int → Int → Int} {n : Int} (h : Laid S E f n) (hF : FrRb S S') : Laid S' E f n := by
  obtain ⟨h1, h2, h3, h4, h5, h6⟩ := h
  have k : ∀ b, ¬ (105 ≤ b ∧ b ≤ 107) → ∀ i, gI S' b i = gI S b i := fun b q i => hF.2.1 b i q
  exact ⟨by rw [k 74 (by omega)]; exact h1, by rw [k 72 (by omega)]; exact h2, fun i q1 q2 => by rw [k 101 (by omega), k 102 (by omega), k 99 (by omega)]; exact h3 i q1 q2, fun s o q1 q2 q3 => by rw [k 100 (by omega)]; exact h4 s o q1 q2 q3, fun p v q1 q2 q3 q4 => by rw [k 103 (by omega)]; exact h5 p v q1 q2 q3 q4, fun s q1 q2 => by rw [k 74 (by omega)]; exact h6 s q1 q2⟩
abbrev lfS (S : zS) (s t : Int) : Int := gI S 104 (201 * s + t)
abbrev Sb (S : zS) (c : Nat) (n k : Int) : Prop := (0 ≤ k ∧ k ≤ n) ∧ gI S c k = 1
def B0 (S : zS) (c : Nat) (n : Int) : Prop := ∀ k : Int, 0 ≤ k → k ≤ n → gI S c k = 0 ∨ gI S c k = 1
theorem LfR.lfp {S : zS} {E : Ln} {f : Int → Int → Int} {n : Int} (h : LfR S E f n (-1) n) : LfP E f 100000000 (UA S n) n (lfS S) := fun s t q1 q2 q3 q4 => (h s t q3 q4 q2 (Or.inl (by omega))).2
theorem LfR.bd {S : zS} {E : Ln} {f : Int → Int → Int} {n : Int} (h : LfR S E f n (-1) n) {s t : Int} (q1 : 0 ≤ s ∧ s ≤ E.1) (q2 : 0 ≤ t ∧ t ≤ n) : 0 ≤ lfS S s t ∧ lfS S s t ≤ 100000000 := (h s t q2.1 q2.2 q1.2 (Or.inl (by omega))).1
theorem UA_o {S : zS} {n k o : Int} (h : (UA S n).1 k o) : 0 ≤ k ∧ k < o ∧ o ≤ n := h.1
def PcS (E : Ln) (S0 S : zS) (n s w : Int) (P : Int → Prop) (t o : Int) : Prop := FrRb S0 S ∧ B0 S 105 n ∧ (∀ k, P k → Sb S 105 n k) ∧ (∀ k, Sb S 105 n k → lfS S0 s k = w ∧ ∀ us, Rd E (gL (UA S0 n) k) s us → ∃ j, P j ∧ Rd E (gL (UA S0 n) j) s us) ∧ (∀ k q, (k < t ∨ (k = t ∧ q < o)) → Sb S 105 n k → (UA S0 n).1 k q → (UA S0 n).2.2 q = 3 → E.2.1 s → lfS S0 s q = w → Sb S 105 n q) ∧ ∀ b i, b ≠ 105 → gI S b i = gI S0 b i
abbrev L229 (s w t : Int) (x4 : Option Value) : zL := [some (.ref 72), some (.int (Int32.ofInt s)), some (.int (Int32.ofInt w)), some (.int (Int32.ofInt t)), x4]
section
variable {X : zX} {d : Nat} {E : Ln} {f : Int → Int → Int}
theorem PcS.up {S0 S : zS} {n s w t o : Int} {P : Int → Prop} (ht : 0 ≤ t) (ho : t < o ∧ o ≤ n) (hn : n ≤ 200) (h1 : gI S 105 t = 1) (hP : PcS E S0 S n s w P t o) (hU : (UA S0 n).1 t o) (h3 : (UA S0 n).2.2 o = 3) (hc : E.2.1 s) (hl : lfS S0 s o = w) : PcS E S0 (sI S 105 o 1) n s w P t (o + 1) := by
  obtain ⟨p1, p2, p3, p4, p5, p6⟩ := hP
  have g : ∀ k, gI (sI S 105 o 1) 105 k = if k = o then 1 else gI S 105 k := fun k => by
    rw [gI_sI]
    by_cases q : k = o
    · rw [if_pos ⟨rfl, q⟩, if_pos q]; rfl
    · rw [if_neg (fun z => q z.2), if_neg q]
  have up : ∀ k, Sb S 105 n k → Sb (sI S 105 o 1) 105 n k := fun k hk => ⟨hk.1, by rw [g]; split; rfl; exact hk.2⟩
  have dn : ∀ k, Sb (sI S 105 o 1) 105 n k → k = o ∨ Sb S 105 n k := fun k hk => by
    have := hk.2
    rw [g] at this
    by_cases q : k = o
    · exact Or.inl q
    · rw [if_neg q] at this; exact Or.inr ⟨hk.1, this⟩
  have ho' : Sb (sI S 105 o 1) 105 n o := ⟨⟨by omega, ho.2⟩, by rw [g, if_pos rfl]⟩
  refine ⟨p1.tr (FrRb.I (by omega)), fun k q1 q2 => ?_, fun k hk => up k (p3 k hk), fun k hk => ?_, fun k q hkq hk a1 a2 a3 a4 => ?_, fun b i q => by rw [gI_sI, if_neg (fun z => q z.1)]; exact p6 b i q⟩
  · rw [g]; split
    · exact Or.inr rfl
    · exact p2 k q1 q2
  · rcases dn k hk with rfl | hk
    · refine ⟨hl, fun us hu => ?_⟩
      exact (p4 t ⟨⟨ht, by omega⟩, h1⟩).2 us (Rd_gk.mpr (Or.inr (Or.inl ⟨k, hU, Or.inl ⟨h3, hc, hu⟩⟩)))
    · exact p4 k hk
  · rcases dn k hk with rfl | hk
    · omega
    · by_cases e : q = o
      · rw [e]; exact ho'
      · exact up q (p5 k q (by omega) hk a1 a2 a3 a4)
theorem PcS.no {S0 S : zS} {n s w t o : Int} {P : Int → Prop} (hP : PcS E S0 S n s w P t o) (hno : ¬ ((UA S0 n).1 t o ∧ (UA S0 n).2.2 o = 3 ∧ E.2.1 s ∧ lfS S0 s o = w)) : PcS E S0 S n s w P t (o + 1) := by
  obtain ⟨p1, p2, p3, p4, p5, p6⟩ := hP
  refine ⟨p1, p2, p3, p4, fun k q hkq hk a1 a2 a3 a4 => ?_, p6⟩
  by_cases e : k = t ∧ q = o
  · rw [e.1, e.2] at a1; rw [e.2] at a2 a4
    exact absurd ⟨a1, a2, a3, a4⟩ hno
  · exact p5 k q (by omega) hk a1 a2 a3 a4
theorem PcS.nx {S0 S : zS} {n s w t o : Int} {P : Int → Prop} (ho : n < o ∨ gI S 105 t ≠ 1) (hP : PcS E S0 S n s w P t o) : PcS E S0 S n s w P (t + 1) (t + 2) := by
  obtain ⟨p1, p2, p3, p4, p5, p6⟩ := hP
  refine ⟨p1, p2, p3, p4, fun k q hkq hk a1 a2 a3 a4 => ?_, p6⟩
  have u := UA_o a1
  by_cases e : k = t
  · subst e
    rcases ho with ho | ho
    · exact p5 k q (by omega) hk a1 a2 a3 a4
    · exact absurd hk.2 ho
  · exact p5 k q (by omega) hk a1 a2 a3 a4
theorem t229 (hd : 0 < d) (hn : 0 ≤ E.1 ∧ E.1 ≤ 20) {S0 S : zS} {n s w t o : Int} {P : Int → Prop} (hn2 : 1 ≤ n ∧ n ≤ 200) (hL : Laid S0 E f n) (hs : 0 ≤ s ∧ s ≤ E.1) (hw : 0 ≤ w ∧ w ≤ 100000000) (ht : 0 ≤ t) (ho : t < o ∧ o ≤ n) (h1 : gI S 105 t = 1) (hP : PcS E S0 S n s w P t o) : ∃ S' : zS, z_ev X d (229, 15, L229 s w t (vI o), [], mk S) = z_ev X d (229, 15, L229 s w t (vI (o + 1)), [], mk S') ∧ gI S' 105 t = 1 ∧ PcS E S0 S' n s w P t (o + 1) := by
  obtain ⟨l1, l2, l3, l4, l5, l6⟩ := hL
  have k : ∀ b i, b ≠ 105 → gI S b i = gI S0 b i := hP.2.2.2.2.2
  have h51 : gI S 72 51 = n := by rw [k 72 51 (by omega)]; exact l2
  have ff := l4 t o ht ho.1 ho.2
  rw [← k 100 _ (by omega)] at ff
  have b3 := (l3 o (by omega) ho.2).2.2
  rw [← k 99 _ (by omega)] at b3
  have hc := l6 s hs.1 hs.2
  rw [← k 74 _ (by omega)] at hc
  have rl := gI_rng S 104 (201 * s + o)
  have eU : (UA S0 n).1 t o ↔ gI S 100 (201 * t + o) = 1 := by
    rw [k 100 _ (by omega)]
    exact ⟨fun z => z.2, fun z => ⟨⟨ht, ho.1, ho.2⟩, z⟩⟩
  have e3 : (UA S0 n).2.2 o = gI S 99 o := by rw [k 99 _ (by omega)]; rfl
  have el : lfS S0 s o = gI S 104 (201 * s + o) := by rw [k 104 _ (by omega)]
  by_cases q : gI S 100 (201 * t + o) = 1
  · by_cases w3 : gI S 99 o = 3
    · by_cases u : s = 0 ∨ gI S 74 (28 + (s - 1)) = 1
      · have hb1 : b01 (s = 0 ∨ gI S 74 (28 + (s - 1)) = 1) = 1 := if_pos u
        by_cases e : gI S 104 (201 * s + o) = w
        · refine ⟨sI S 105 o 1, ?_, ?_, PcS.up ht ho hn2.2 h1 hP (eU.mpr q) (by rw [e3]; exact w3) (hc.mpr u) (by rw [el]; exact e)⟩
          · rw [B229_15]
            simp (disch := first | omega | assumption | exact b01_rng _ | exact st_5 | exact st_12 | exact st_19 | (simp only [isSt_sI, isSt_sJ, isSt_sF, isSt_sG, isSt_sA]; assumption)) only [↓B229_24, ↓B229_33, ↓B229_49, ↓B229_60, ↓B229_65, ↓B229_68, ↓B229_85, ↓B229_93, ↓a_100, ↓a_104, ↓a_105, ↓a_99, ↓n_100, ↓n_104, ↓n_105, ↓n_99, ↓o_72, ↓r_72_50, ↓r_72_51, ↓r_72_52, ↓r_72_56, ↓r_72_57, ↓s_100, ↓s_104, ↓s_105, ↓s_99, ↓o_72, c225, i_lit, i_add, i_sub, i_mul, i_neg, i_lt, i_le, i_eq, i32_gI, i64_gJ, i32_id, i32_to, i64_to, sI_i32, sJ_i64, b01_t, b01_f, i32_b01, b01_0, ↓a_s0, ↓n_s0, ↓a_s1, ↓n_s1, Int.add_zero, t_lt, f_lt, t_le, f_le, t_eq, f_eq, true_and, and_true, false_and, and_false, and_self, ↓reduceIte, z_bool_of, or_true, true_or, or_false, false_or, Int.neg_neg, not_true_eq_false, not_false_eq_true, lg_lt, lg_le, lg_gt, lg_ge, lg_eq, j_lit, j_add, j_sub, j_mul, j_neg, j_eq, i64_id, ij, ji, z_rt, Nat.reduceEqDiff, Nat.reduceAdd, Int.reduceAdd, Int.reduceSub, Int.reduceMul, Int.reduceNeg, Int.reduceLT, Int.reduceLE, Int.reduceEq, h51, h1, q, w3, hb1, e]
          · rw [gI_sI, if_neg (by omega)]; exact h1
        · refine ⟨S, ?_, h1, hP.no (fun z => e (by rw [← el]; exact z.2.2.2))⟩
          rw [B229_15]
          simp (disch := first | omega | assumption | exact b01_rng _ | exact st_5 | exact st_12 | exact st_19 | (simp only [isSt_sI, isSt_sJ, isSt_sF, isSt_sG, isSt_sA]; assumption)) only [↓B229_24, ↓B229_33, ↓B229_49, ↓B229_60, ↓B229_65, ↓B229_68, ↓B229_93, ↓a_100, ↓a_104, ↓a_105, ↓a_99, ↓n_100, ↓n_104, ↓n_105, ↓n_99, ↓o_72, ↓r_72_50, ↓r_72_51, ↓r_72_52, ↓r_72_56, ↓r_72_57, ↓s_100, ↓s_104, ↓s_105, ↓s_99, ↓o_72, c225, i_lit, i_add, i_sub, i_mul, i_neg, i_lt, i_le, i_eq, i32_gI, i64_gJ, i32_id, i32_to, i64_to, sI_i32, sJ_i64, b01_t, b01_f, i32_b01, b01_0, ↓a_s0, ↓n_s0, ↓a_s1, ↓n_s1, Int.add_zero, t_lt, f_lt, t_le, f_le, t_eq, f_eq, true_and, and_true, false_and, and_false, and_self, ↓reduceIte, z_bool_of, or_true, true_or, or_false, false_or, Int.neg_neg, not_true_eq_false, not_false_eq_true, lg_lt, lg_le, lg_gt, lg_ge, lg_eq, j_lit, j_add, j_sub, j_mul, j_neg, j_eq, i64_id, ij, ji, z_rt, Nat.reduceEqDiff, Nat.reduceAdd, Int.reduceAdd, Int.reduceSub, Int.reduceMul, Int.reduceNeg, Int.reduceLT, Int.reduceLE, Int.reduceEq, h51, h1, q, w3, hb1, e]
      · have hb1 : b01 (s = 0 ∨ gI S 74 (28 + (s - 1)) = 1) = 0 := if_neg u
        refine ⟨S, ?_, h1, hP.no (fun z => u (hc.mp z.2.2.1))⟩
        rw [B229_15]
        simp (disch := first | omega | assumption | exact b01_rng _ | exact st_5 | exact st_12 | exact st_19 | (simp only [isSt_sI, isSt_sJ, isSt_sF, isSt_sG, isSt_sA]; assumption)) only [↓B229_24, ↓B229_33, ↓B229_49, ↓B229_60, ↓B229_65, ↓B229_93, ↓a_100, ↓a_104, ↓a_105, ↓a_99, ↓n_100, ↓n_104, ↓n_105, ↓n_99, ↓o_72, ↓r_72_50, ↓r_72_51, ↓r_72_52, ↓r_72_56, ↓r_72_57, ↓s_100, ↓s_104, ↓s_105, ↓s_99, ↓o_72, c225, i_lit, i_add, i_sub, i_mul, i_neg, i_lt, i_le, i_eq, i32_gI, i64_gJ, i32_id, i32_to, i64_to, sI_i32, sJ_i64, b01_t, b01_f, i32_b01, b01_0, ↓a_s0, ↓n_s0, ↓a_s1, ↓n_s1, Int.add_zero, t_lt, f_lt, t_le, f_le, t_eq, f_eq, true_and, and_true, false_and, and_false, and_self, ↓reduceIte, z_bool_of, or_true, true_or, or_false, false_or, Int.neg_neg, not_true_eq_false, not_false_eq_true, lg_lt, lg_le, lg_gt, lg_ge, lg_eq, j_lit, j_add, j_sub, j_mul, j_neg, j_eq, i64_id, ij, ji, z_rt, Nat.reduceEqDiff, Nat.reduceAdd, Int.reduceAdd, Int.reduceSub, Int.reduceMul, Int.reduceNeg, Int.reduceLT, Int.reduceLE, Int.reduceEq, h51, h1, q, w3, hb1]
    · refine ⟨S, ?_, h1, hP.no (fun z => w3 (by rw [← e3]; exact z.2.1))⟩
      rw [B229_15]
      simp (disch := first | omega | assumption | exact b01_rng _ | exact st_5 | exact st_12 | exact st_19 | (simp only [isSt_sI, isSt_sJ, isSt_sF, isSt_sG, isSt_sA]; assumption)) only [↓B229_24, ↓B229_33, ↓B229_49, ↓B229_93, ↓a_100, ↓a_104, ↓a_105, ↓a_99, ↓n_100, ↓n_104, ↓n_105, ↓n_99, ↓o_72, ↓r_72_50, ↓r_72_51, ↓r_72_52, ↓r_72_56, ↓r_72_57, ↓s_100, ↓s_104, ↓s_105, ↓s_99, i_lit, i_add, i_sub, i_mul, i_neg, i_lt, i_le, i_eq, i32_gI, i64_gJ, i32_id, i32_to, i64_to, sI_i32, sJ_i64, b01_t, b01_f, i32_b01, b01_0, ↓a_s0, ↓n_s0, ↓a_s1, ↓n_s1, Int.add_zero, t_lt, f_lt, t_le, f_le, t_eq, f_eq, true_and, and_true, false_and, and_false, and_self, ↓reduceIte, z_bool_of, or_true, true_or, or_false, false_or, Int.neg_neg, not_true_eq_false, not_false_eq_true, lg_lt, lg_le, lg_gt, lg_ge, lg_eq, j_lit, j_add, j_sub, j_mul, j_neg, j_eq, i64_id, ij, ji, z_rt, Nat.reduceEqDiff, Nat.reduceAdd, Int.reduceAdd, Int.reduceSub, Int.reduceMul, Int.reduceNeg, Int.reduceLT, Int.reduceLE, Int.reduceEq, h51, h1, q, w3]
  · have q0 : gI S 100 (201 * t + o) = 0 := by omega
    refine ⟨S, ?_, h1, hP.no (fun z => q (eU.mp z.1))⟩
    rw [B229_15]
    simp (disch := first | omega | assumption | exact b01_rng _ | exact st_5 | exact st_12 | exact st_19 | (simp only [isSt_sI, isSt_sJ, isSt_sF, isSt_sG, isSt_sA]; assumption)) only [↓B229_24, ↓B229_33, ↓B229_93, ↓a_100, ↓a_104, ↓a_105, ↓a_99, ↓n_100, ↓n_104, ↓n_105, ↓n_99, ↓o_72, ↓r_72_50, ↓r_72_51, ↓r_72_52, ↓r_72_56, ↓r_72_57, ↓s_100, ↓s_104, ↓s_105, ↓s_99, i_lit, i_add, i_sub, i_mul, i_neg, i_lt, i_le, i_eq, i32_gI, i64_gJ, i32_id, i32_to, i64_to, sI_i32, sJ_i64, b01_t, b01_f, i32_b01, b01_0, ↓a_s0, ↓n_s0, ↓a_s1, ↓n_s1, Int.add_zero, t_lt, f_lt, t_le, f_le, t_eq, f_eq, true_and, and_true, false_and, and_false, and_self, ↓reduceIte, z_bool_of, or_true, true_or, or_false, false_or, Int.neg_neg, not_true_eq_false, not_false_eq_true, lg_lt, lg_le, lg_gt, lg_ge, lg_eq, j_lit, j_add, j_sub, j_mul, j_neg, j_eq, i64_id, ij, ji, z_rt, Nat.reduceEqDiff, Nat.reduceAdd, Int.reduceAdd, Int.reduceSub, Int.reduceMul, Int.reduceNeg, Int.reduceLT, Int.reduceLE, Int.reduceEq, h51, h1, q0]
theorem l229i (hd : 0 < d) (hn : 0 ≤ E.1 ∧ E.1 ≤ 20) {S0 : zS} {n s w t : Int} {P : Int → Prop} (hn2 : 1 ≤ n ∧ n ≤ 200) (hL : Laid S0 E f n) (hs : 0 ≤ s ∧ s ≤ E.1) (hw : 0 ≤ w ∧ w ≤ 100000000) (ht : 0 ≤ t) : ∀ (c : Nat) (o : Int) (S : zS), o + c = n + 1 → t < o → gI S 105 t = 1 → PcS E S0 S n s w P t o → ∃ S' : zS, z_ev X d (229, 15, L229 s w t (vI o), [], mk S) = z_ev X d (229, 2, L229 s w (t + 1) (vI (n + 1)), [], mk S') ∧ PcS E S0 S' n s w P (t + 1) (t + 2) := by
  intro c
  induction c with
  | zero =>
    intro o S hc ho h1 hP
    have : o = n + 1 := by omega
    subst this
    have h51 : gI S 72 51 = n := by rw [hP.2.2.2.2.2 72 51 (by omega)]; exact hL.2.1
    refine ⟨S, ?_, hP.nx (Or.inl (by omega))⟩
    rw [B229_15]
    simp (disch := first | omega | assumption | exact b01_rng _ | exact st_5 | exact st_12 | exact st_19 | (simp only [isSt_sI, isSt_sJ, isSt_sF, isSt_sG, isSt_sA]; assumption)) only [↓B229_99, ↓a_100, ↓a_104, ↓a_105, ↓a_99, ↓n_100, ↓n_104, ↓n_105, ↓n_99, ↓o_72, ↓r_72_50, ↓r_72_51, ↓r_72_52, ↓r_72_56, ↓r_72_57, ↓s_100, ↓s_104, ↓s_105, ↓s_99, i_lit, i_add, i_sub, i_mul, i_neg, i_lt, i_le, i_eq, i32_gI, i64_gJ, i32_id, i32_to, i64_to, sI_i32, sJ_i64, b01_t, b01_f, i32_b01, b01_0, ↓a_s0, ↓n_s0, ↓a_s1, ↓n_s1, Int.add_zero, t_lt, f_lt, t_le, f_le, t_eq, f_eq, true_and, and_true, false_and, and_false, and_self, ↓reduceIte, z_bool_of, or_true, true_or, or_false, false_or, Int.neg_neg, not_true_eq_false, not_false_eq_true, lg_lt, lg_le, lg_gt, lg_ge, lg_eq, j_lit, j_add, j_sub, j_mul, j_neg, j_eq, i64_id, ij, ji, z_rt, Nat.reduceEqDiff, Nat.reduceAdd, Int.reduceAdd, Int.reduceSub, Int.reduceMul, Int.reduceNeg, Int.reduceLT, Int.reduceLE, Int.reduceEq, h51]
  | succ c ih =>
    intro o S hc ho h1 hP
    obtain ⟨S1, e1, e2, e3⟩ := t229 (X := X) (d := d) hd hn hn2 hL hs hw ht ⟨ho, by omega⟩ h1 hP
    obtain ⟨S', w1, w2⟩ := ih (o + 1) S1 (by omega) (by omega) e2 e3
    exact ⟨S', by rw [e1]; exact w1, w2⟩
theorem l229 (hd : 0 < d) (hn : 0 ≤ E.1 ∧ E.1 ≤ 20) {S0 : zS} {n s w : Int} {P : Int → Prop} (hn2 : 1 ≤ n ∧ n ≤ 200) (hL : Laid S0 E f n) (hs : 0 ≤ s ∧ s ≤ E.1) (hw : 0 ≤ w ∧ w ≤ 100000000) : ∀ (c : Nat) (t : Int) (S : zS) (x4 : Option Value), t + c = n + 1 → 0 ≤ t → PcS E S0 S n s w P t (t + 1) → ∃ S' : zS, z_ev X d (229, 2, L229 s w t x4, [], mk S) = some (none, mk S') ∧ PcS E S0 S' n s w P (n + 1) (n + 2) := by
  intro c
  induction c with
  | zero =>
    intro t S x4 hc ht hP
    have : t = n + 1 := by omega
    subst this
    have h51 : gI S 72 51 = n := by rw [hP.2.2.2.2.2 72 51 (by omega)]; exact hL.2.1
    refine ⟨S, ?_, by rw [show n + 1 + 1 = n + 2 by omega] at hP; exact hP⟩
    rw [B229_2]
    simp (disch := first | omega | assumption | exact b01_rng _ | exact st_5 | exact st_12 | exact st_19 | (simp only [isSt_sI, isSt_sJ, isSt_sF, isSt_sG, isSt_sA]; assumption)) only [↓B229_105, ↓a_100, ↓a_104, ↓a_105, ↓a_99, ↓n_100, ↓n_104, ↓n_105, ↓n_99, ↓o_72, ↓r_72_50, ↓r_72_51, ↓r_72_52, ↓r_72_56, ↓r_72_57, ↓s_100, ↓s_104, ↓s_105, ↓s_99, i_lit, i_add, i_sub, i_mul, i_neg, i_lt, i_le, i_eq, i32_gI, i64_gJ, i32_id, i32_to, i64_to, sI_i32, sJ_i64, b01_t, b01_f, i32_b01, b01_0, ↓a_s0, ↓n_s0, ↓a_s1, ↓n_s1, Int.add_zero, t_lt, f_lt, t_le, f_le, t_eq, f_eq, true_and, and_true, false_and, and_false, and_self, ↓reduceIte, z_bool_of, or_true, true_or, or_false, false_or, Int.neg_neg, not_true_eq_false, not_false_eq_true, lg_lt, lg_le, lg_gt, lg_ge, lg_eq, j_lit, j_add, j_sub, j_mul, j_neg, j_eq, i64_id, ij, ji, z_rt, Nat.reduceEqDiff, Nat.reduceAdd, Int.reduceAdd, Int.reduceSub, Int.reduceMul, Int.reduceNeg, Int.reduceLT, Int.reduceLE, Int.reduceEq, h51]
  | succ c ih =>
    intro t S x4 hc ht hP
    have h51 : gI S 72 51 = n := by rw [hP.2.2.2.2.2 72 51 (by omega)]; exact hL.2.1
    have ent : z_ev X d (229, 2, L229 s w t x4, [], mk S) = z_ev X d (229, 15, L229 s w t (vI (t + 1)), [], mk S) := by
      rw [B229_2]
      simp (disch := first | omega | assumption | exact b01_rng _ | exact st_5 | exact st_12 | exact st_19 | (simp only [isSt_sI, isSt_sJ, isSt_sF, isSt_sG, isSt_sA]; assumption)) only [↓B229_10, ↓a_100, ↓a_104, ↓a_105, ↓a_99, ↓n_100, ↓n_104, ↓n_105, ↓n_99, ↓o_72, ↓r_72_50, ↓r_72_51, ↓r_72_52, ↓r_72_56, ↓r_72_57, ↓s_100, ↓s_104, ↓s_105, ↓s_99, i_lit, i_add, i_sub, i_mul, i_neg, i_lt, i_le, i_eq, i32_gI, i64_gJ, i32_id, i32_to, i64_to, sI_i32, sJ_i64, b01_t, b01_f, i32_b01, b01_0, ↓a_s0, ↓n_s0, ↓a_s1, ↓n_s1, Int.add_zero, t_lt, f_lt, t_le, f_le, t_eq, f_eq, true_and, and_true, false_and, and_false, and_self, ↓reduceIte, z_bool_of, or_true, true_or, or_false, false_or, Int.neg_neg, not_true_eq_false, not_false_eq_true, lg_lt, lg_le, lg_gt, lg_ge, lg_eq, j_lit, j_add, j_sub, j_mul, j_neg, j_eq, i64_id, ij, ji, z_rt, Nat.reduceEqDiff, Nat.reduceAdd, Int.reduceAdd, Int.reduceSub, Int.reduceMul, Int.reduceNeg, Int.reduceLT, Int.reduceLE, Int.reduceEq, h51]
    rw [ent]
    by_cases h1 : gI S 105 t = 1
    · obtain ⟨S1, e1, e2⟩ := l229i (X := X) (d := d) hd hn hn2 hL hs hw ht (n - t).toNat (t + 1) S (by omega) (by omega) h1 hP
      obtain ⟨S', w1, w2⟩ := ih (t + 1) S1 (vI (n + 1)) (by omega) (by omega) (by rw [show t + 1 + 1 = t + 2 by omega]; exact e2)
      exact ⟨S', by rw [e1]; exact w1, w2⟩
    · have h0 : gI S 105 t = 0 := by have := hP.2.1 t ht (by omega); omega
      obtain ⟨S', w1, w2⟩ := ih (t + 1) S (vI (t + 1)) (by omega) (by omega) (by rw [show t + 1 + 1 = t + 2 by omega]; exact hP.nx (Or.inr h1))
      refine ⟨S', ?_, w2⟩
      rw [← w1, B229_15]
      by_cases q : t + 1 ≤ n
      · simp (disch := first | omega | assumption | exact b01_rng _ | exact st_5 | exact st_12 | exact st_19 | (simp only [isSt_sI, isSt_sJ, isSt_sF, isSt_sG, isSt_sA]; assumption)) only [↓B229_24, ↓B229_99, ↓a_100, ↓a_104, ↓a_105, ↓a_99, ↓n_100, ↓n_104, ↓n_105, ↓n_99, ↓o_72, ↓r_72_50, ↓r_72_51, ↓r_72_52, ↓r_72_56, ↓r_72_57, ↓s_100, ↓s_104, ↓s_105, ↓s_99, i_lit, i_add, i_sub, i_mul, i_neg, i_lt, i_le, i_eq, i32_gI, i64_gJ, i32_id, i32_to, i64_to, sI_i32, sJ_i64, b01_t, b01_f, i32_b01, b01_0, ↓a_s0, ↓n_s0, ↓a_s1, ↓n_s1, Int.add_zero, t_lt, f_lt, t_le, f_le, t_eq, f_eq, true_and, and_true, false_and, and_false, and_self, ↓reduceIte, z_bool_of, or_true, true_or, or_false, false_or, Int.neg_neg, not_true_eq_false, not_false_eq_true, lg_lt, lg_le, lg_gt, lg_ge, lg_eq, j_lit, j_add, j_sub, j_mul, j_neg, j_eq, i64_id, ij, ji, z_rt, Nat.reduceEqDiff, Nat.reduceAdd, Int.reduceAdd, Int.reduceSub, Int.reduceMul, Int.reduceNeg, Int.reduceLT, Int.reduceLE, Int.reduceEq, h51, h0]
      · simp (disch := first | omega | assumption | exact b01_rng _ | exact st_5 | exact st_12 | exact st_19 | (simp only [isSt_sI, isSt_sJ, isSt_sF, isSt_sG, isSt_sA]; assumption)) only [↓B229_99, ↓a_100, ↓a_104, ↓a_105, ↓a_99, ↓n_100, ↓n_104, ↓n_105, ↓n_99, ↓o_72, ↓r_72_50, ↓r_72_51, ↓r_72_52, ↓r_72_56, ↓r_72_57, ↓s_100, ↓s_104, ↓s_105, ↓s_99, i_lit, i_add, i_sub, i_mul, i_neg, i_lt, i_le, i_eq, i32_gI, i64_gJ, i32_id, i32_to, i64_to, sI_i32, sJ_i64, b01_t, b01_f, i32_b01, b01_0, ↓a_s0, ↓n_s0, ↓a_s1, ↓n_s1, Int.add_zero, t_lt, f_lt, t_le, f_le, t_eq, f_eq, true_and, and_true, false_and, and_false, and_self, ↓reduceIte, z_bool_of, or_true, true_or, or_false, false_or, Int.neg_neg, not_true_eq_false, not_false_eq_true, lg_lt, lg_le, lg_gt, lg_ge, lg_eq, j_lit, j_add, j_sub, j_mul, j_neg, j_eq, i64_id, ij, ji, z_rt, Nat.reduceEqDiff, Nat.reduceAdd, Int.reduceAdd, Int.reduceSub, Int.reduceMul, Int.reduceNeg, Int.reduceLT, Int.reduceLE, Int.reduceEq, h51]
/-- cuts are passed -/
theorem x229 (hd : 0 < d) (hn : 0 ≤ E.1 ∧ E.1 ≤ 20) {S : zS} {n s w : Int} (hn2 : 1 ≤ n ∧ n ≤ 200) (hL : Laid S E f n) (hR : LfR S E f n (-1) n) (hs : 0 ≤ s ∧ s ≤ E.1) (hw : 0 ≤ w ∧ w ≤ 100000000) (hB : B0 S 105 n) (hP : ∀ k, Sb S 105 n k → lfS S s k = w) : ∃ S' : zS, z_ev X d (z_entry 229 [.ref 72, .int (Int32.ofInt s), .int (Int32.ofInt w)] (mk S)) = some (none, mk S') ∧ FrRb S S' ∧ B0 S' 105 n ∧ (∀ b i, b ≠ 105 → gI S' b i = gI S b i) ∧ Clz E f (UA S n) n (lfS S) (Sb S 105 n) (Sb S' 105 n) s w := by
  obtain ⟨S', w1, p1, p2, p3, p4, p5, p6⟩ := l229 (X := X) (d := d) (P := Sb S 105 n) hd hn hn2 hL hs hw (n + 1).toNat 0 S none (by omega) (by omega) ⟨FrRb.rf, hB, fun _ h => h, fun k hk => ⟨hP k hk, fun us hu => ⟨k, hk, hu⟩⟩, fun k q h1 hk h2 => by have := UA_o h2; omega, fun _ _ _ => rfl⟩
  refine ⟨S', ?_, p1, p2, p6, p3, fun k hk => ⟨hk.1, p4 k hk⟩, fun k o hk u1 u2 u3 u4 => p5 k o (Or.inl (by have := hk.1; omega)) hk u1 u2 u3 u4⟩
  rw [← w1]
  show z_ev X d (229, 0, [some (.ref 72), some (.int (Int32.ofInt s)), some (.int (Int32.ofInt w)), none, none], [], mk S) = _
  simp (disch := first | omega | assumption | exact b01_rng _ | exact st_5 | exact st_12 | exact st_19 | (simp only [isSt_sI, isSt_sJ, isSt_sF, isSt_sG, isSt_sA]; assumption)) only [↓B229_0, i_lit, i_add, i_sub, i_mul, i_neg, i_lt, i_le, i_eq, i32_gI, i64_gJ, i32_id, i32_to, i64_to, sI_i32, sJ_i64, b01_t, b01_f, i32_b01, b01_0, ↓a_s0, ↓n_s0, ↓a_s1, ↓n_s1, Int.add_zero, t_lt, f_lt, t_le, f_le, t_eq, f_eq, true_and, and_true, false_and, and_false, and_self, ↓reduceIte, z_bool_of, or_true, true_or, or_false, false_or, Int.neg_neg, not_true_eq_false, not_false_eq_true, lg_lt, lg_le, lg_gt, lg_ge, lg_eq, j_lit, j_add, j_sub, j_mul, j_neg, j_eq, i64_id, ij, ji, z_rt, Nat.reduceEqDiff, Nat.reduceAdd, Int.reduceAdd, Int.reduceSub, Int.reduceMul, Int.reduceNeg, Int.reduceLT, Int.reduceLE, Int.reduceEq]
end
