/-! the reference: layLeft -/
theorem UA_cg {S S' : zS} {n : Int} (h1 : ∀ i, gI S' 99 i = gI S 99 i) (h2 : ∀ i, gI S' 100 i = gI S 100 i) (h3 : ∀ i, gI S' 102 i = gI S 102 i) : UA S' n = UA S n := by
  unfold UA
  simp only [h1, h2, h3]
def FrLf (S S' : zS) : Prop := Dyn S S' ∧ (∀ a i, a ≠ 104 → gI S' a i = gI S a i) ∧ (∀ a i, gJ S' a i = gJ S a i) ∧ (∀ a i, gQ S' a i = gQ S a i)
theorem FrLf.rf {S : zS} : FrLf S S := ⟨Dyn.rf, fun _ _ _ => rfl, fun _ _ => rfl, fun _ _ => rfl⟩
theorem FrLf.tr {A B C : zS} (h1 : FrLf A B) (h2 : FrLf B C) : FrLf A C := ⟨h1.1.tr h2.1, fun a i q => (h2.2.1 a i q).trans (h1.2.1 a i q), fun a i => (h2.2.2.1 a i).trans (h1.2.2.1 a i), fun a i => (h2.2.2.2 a i).trans (h1.2.2.2 a i)⟩
theorem FrLf.I {S : zS} {i x : Int} : FrLf S (sI S 104 i x) := ⟨Dyn.sI (by decide) Dyn.rf, fun b j q => by rw [gI_sI, if_neg (by omega)], fun _ _ => rfl, fun _ _ => rfl⟩
/-- what is asked of a store that is laid -/
def Laid (S : zS) (E : Ln) (f : Int → Int → Int) (n : Int) : Prop := gI S 74 0 = E.1 ∧ gI S 72 51 = n ∧ B01 S n ∧ FolB S n ∧ PrS S E f ∧ CuR S E
theorem Laid.fr {S S' : zS} {E : Ln} {f : Int → Int → Int} {n : Int} (h : Laid S E f n) (hF : FrLf S S') : Laid S' E f n := by
  obtain ⟨h1, h2, h3, h4, h5, h6⟩ := h
  have k : ∀ b, b ≠ 104 → ∀ i, gI S' b i = gI S b i := fun b q i => hF.2.1 b i q
  exact ⟨by rw [k 74 (by omega)]; exact h1, by rw [k 72 (by omega)]; exact h2, fun i q1 q2 => by rw [k 101 (by omega), k 102 (by omega), k 99 (by omega)]; exact h3 i q1 q2, fun s o q1 q2 q3 => by rw [k 100 (by omega)]; exact h4 s o q1 q2 q3, fun p v q1 q2 q3 q4 => by rw [k 103 (by omega)]; exact h5 p v q1 q2 q3 q4, fun s q1 q2 => by rw [k 74 (by omega)]; exact h6 s q1 q2⟩
theorem FrLf.ua {S S' : zS} {n : Int} (hF : FrLf S S') : UA S' n = UA S n := UA_cg (fun i => hF.2.1 99 i (by omega)) (fun i => hF.2.1 100 i (by omega)) (fun i => hF.2.1 102 i (by omega))
section
variable {X : zX} {d : Nat} {E : Ln} {f : Int → Int → Int} {M : Int}
theorem LfR.step {S : zS} {n s t v : Int} (hs : 0 ≤ s ∧ s ≤ 20) (ht : 0 ≤ t ∧ t ≤ n) (hn : n ≤ 200) (h : LfR S E f n s t) (hv : 0 ≤ v ∧ v ≤ 100000000) (hM : Mn 100000000 (Rd E (gL (UA S n) t) s) (ct f s) v) : LfR (sI S 104 (201 * s + t) v) E f n s (t - 1) := by
  intro s' t' q1 q2 q3 q4
  have hu : UA (sI S 104 (201 * s + t) v) n = UA S n := FrLf.ua (S := S) FrLf.I
  rw [hu, gI_sI]
  by_cases w : s' = s ∧ t' = t
  · obtain ⟨rfl, rfl⟩ := w
    rw [if_pos ⟨rfl, rfl⟩, i32_id (by omega) (by omega)]
    exact ⟨hv, hM⟩
  · rw [if_neg (by omega)]
    exact h s' t' q1 q2 q3 (by omega)
theorem l227i (hd : 1 < d) (hB : PrB E f M 100000000) (hn : 0 ≤ E.1 ∧ E.1 ≤ 20) {n s : Int} (hn2 : 1 ≤ n ∧ n ≤ 200) (hs : 0 ≤ s ∧ s ≤ E.1) : ∀ (c : Nat) (S : zS), (c : Int) ≤ n + 1 → Laid S E f n → LfR S E f n s ((c : Int) - 1) → ∃ S' : zS, z_ev X d (227, 16, [some (.ref 72), some (.int (Int32.ofInt s)), some (.int (Int32.ofInt ((c : Int) - 1)))], [], mk S) = z_ev X d (227, 44, [some (.ref 72), some (.int (Int32.ofInt s)), some (.int (Int32.ofInt (-1)))], [], mk S') ∧ FrLf S S' ∧ LfR S' E f n s (-1) := by
  intro c
  induction c with
  | zero =>
    intro S hc hL hR
    refine ⟨S, ?_, FrLf.rf, hR⟩
    rw [show ((0 : Nat) : Int) - 1 = -1 from rfl, B227_16]
    simp (disch := first | omega | assumption | exact b01_rng _ | exact st_5 | exact st_12 | exact st_19 | (simp only [isSt_sI, isSt_sJ, isSt_sF, isSt_sG, isSt_sA]; assumption)) only [i_lit, i_add, i_sub, i_mul, i_neg, i_lt, i_le, i_eq, i32_gI, i64_gJ, i32_id, i32_to, i64_to, sI_i32, sJ_i64, b01_t, b01_f, i32_b01, b01_0, ↓a_s0, ↓n_s0, ↓a_s1, ↓n_s1, Int.add_zero, t_lt, f_lt, t_le, f_le, t_eq, f_eq, true_and, and_true, false_and, and_false, and_self, ↓reduceIte, z_bool_of, or_true, true_or, or_false, false_or, Int.neg_neg, not_true_eq_false, not_false_eq_true, lg_lt, lg_le, lg_gt, lg_ge, lg_eq, j_lit, j_add, j_sub, j_mul, j_neg, j_eq, i64_id, ij, ji, z_rt, Nat.reduceEqDiff, Nat.reduceAdd, Int.reduceAdd, Int.reduceSub, Int.reduceMul, Int.reduceNeg, Int.reduceLT, Int.reduceLE, Int.reduceEq]
  | succ c ih =>
    intro S hc hL hR
    have hc' : ((c + 1 : Nat) : Int) = (c : Int) + 1 := by omega
    rw [hc'] at hc hR ⊢
    rw [show (c : Int) + 1 - 1 = (c : Int) by omega] at hR ⊢
    obtain ⟨l1, l2, l3, l4, l5, l6⟩ := id hL
    obtain ⟨v, e1, e2, e3⟩ := x226 (X := X) (d := 1) (by omega) hB hn l1 l2 hn2 l3 l4 l5 l6 hs (t := (c : Int)) (by omega) hR
    have ev := fun {cm cp : Nat} {L : zL} {st : List Value} => evI (X := X) (d := d) hd e1 (cm := cm) (cp := cp) (L := L) (st := st)
    obtain ⟨S', w1, w2, w3⟩ := ih (sI S 104 (201 * s + c) v) (by omega) (hL.fr FrLf.I) (hR.step (by omega) (by omega) hn2.2 e2 e3)
    refine ⟨S', ?_, FrLf.I.tr w2, w3⟩
    have e4 : (c : Int) + -1 = (c : Int) - 1 := by omega
    rw [← w1, B227_16]
    simp (disch := first | omega | assumption | exact b01_rng _ | exact st_5 | exact st_12 | exact st_19 | (simp only [isSt_sI, isSt_sJ, isSt_sF, isSt_sG, isSt_sA]; assumption)) only [↓B227_20, ↓B227_37, ↓a_104, ↓a_74, ↓n_104, ↓n_74, ↓o_72, ↓r_72_3, ↓r_72_51, ↓r_72_56, ↓s_104, ↓s_74, ↓o_72, ev, i_lit, i_add, i_sub, i_mul, i_neg, i_lt, i_le, i_eq, i32_gI, i64_gJ, i32_id, i32_to, i64_to, sI_i32, sJ_i64, b01_t, b01_f, i32_b01, b01_0, ↓a_s0, ↓n_s0, ↓a_s1, ↓n_s1, Int.add_zero, t_lt, f_lt, t_le, f_le, t_eq, f_eq, true_and, and_true, false_and, and_false, and_self, ↓reduceIte, z_bool_of, or_true, true_or, or_false, false_or, Int.neg_neg, not_true_eq_false, not_false_eq_true, lg_lt, lg_le, lg_gt, lg_ge, lg_eq, j_lit, j_add, j_sub, j_mul, j_neg, j_eq, i64_id, ij, ji, z_rt, Nat.reduceEqDiff, Nat.reduceAdd, Int.reduceAdd, Int.reduceSub, Int.reduceMul, Int.reduceNeg, Int.reduceLT, Int.reduceLE, Int.reduceEq, e4]
theorem l227 (hd : 1 < d) (hB : PrB E f M 100000000) (hn : 0 ≤ E.1 ∧ E.1 ≤ 20) {n : Int} (hn2 : 1 ≤ n ∧ n ≤ 200) : ∀ (c : Nat) (S : zS) (x2 : Option Value), (c : Int) ≤ E.1 + 1 → Laid S E f n → LfR S E f n ((c : Int) - 1) n → ∃ (S' : zS) (y2 : Option Value), z_ev X d (227, 7, [some (.ref 72), some (.int (Int32.ofInt ((c : Int) - 1))), x2], [], mk S) = z_ev X d (227, 50, [some (.ref 72), some (.int (Int32.ofInt (-1))), y2], [], mk S') ∧ FrLf S S' ∧ LfR S' E f n (-1) n := by
  intro c
  induction c with
  | zero =>
    intro S x2 hc hL hR
    refine ⟨S, x2, ?_, FrLf.rf, hR⟩
    rw [show ((0 : Nat) : Int) - 1 = -1 from rfl, B227_7]
    simp (disch := first | omega | assumption | exact b01_rng _ | exact st_5 | exact st_12 | exact st_19 | (simp only [isSt_sI, isSt_sJ, isSt_sF, isSt_sG, isSt_sA]; assumption)) only [i_lit, i_add, i_sub, i_mul, i_neg, i_lt, i_le, i_eq, i32_gI, i64_gJ, i32_id, i32_to, i64_to, sI_i32, sJ_i64, b01_t, b01_f, i32_b01, b01_0, ↓a_s0, ↓n_s0, ↓a_s1, ↓n_s1, Int.add_zero, t_lt, f_lt, t_le, f_le, t_eq, f_eq, true_and, and_true, false_and, and_false, and_self, ↓reduceIte, z_bool_of, or_true, true_or, or_false, false_or, Int.neg_neg, not_true_eq_false, not_false_eq_true, lg_lt, lg_le, lg_gt, lg_ge, lg_eq, j_lit, j_add, j_sub, j_mul, j_neg, j_eq, i64_id, ij, ji, z_rt, Nat.reduceEqDiff, Nat.reduceAdd, Int.reduceAdd, Int.reduceSub, Int.reduceMul, Int.reduceNeg, Int.reduceLT, Int.reduceLE, Int.reduceEq]
  | succ c ih =>
    intro S x2 hc hL hR
    have hc' : ((c + 1 : Nat) : Int) = (c : Int) + 1 := by omega
    rw [hc'] at hc hR ⊢
    rw [show (c : Int) + 1 - 1 = (c : Int) by omega] at hR ⊢
    obtain ⟨nn, hnn⟩ : ∃ k : Nat, n + 1 = k := ⟨(n + 1).toNat, by omega⟩
    have hnn' : (nn : Int) - 1 = n := by omega
    obtain ⟨S1, e1, e2, e3⟩ := l227i (X := X) (d := d) hd hB hn hn2 (s := (c : Int)) (by omega) nn S (by omega) hL (by rw [hnn']; exact hR)
    rw [hnn'] at e1
    obtain ⟨S', y2, w1, w2, w3⟩ := ih S1 (vI (-1)) (by omega) (hL.fr e2) (fun s' t' q1 q2 q3 q4 => e3 s' t' q1 q2 q3 (by omega))
    refine ⟨S', y2, ?_, e2.tr w2, w3⟩
    have e4 : (c : Int) + -1 = (c : Int) - 1 := by omega
    have h51 := hL.2.1
    have st : z_ev X d (227, 7, [some (.ref 72), some (.int (Int32.ofInt (c : Int))), x2], [], mk S) = z_ev X d (227, 16, [some (.ref 72), some (.int (Int32.ofInt (c : Int))), some (.int (Int32.ofInt n))], [], mk S) := by
      rw [B227_7]
      simp (disch := first | omega | assumption | exact b01_rng _ | exact st_5 | exact st_12 | exact st_19 | (simp only [isSt_sI, isSt_sJ, isSt_sF, isSt_sG, isSt_sA]; assumption)) only [↓B227_11, ↓a_104, ↓a_74, ↓n_104, ↓n_74, ↓o_72, ↓r_72_3, ↓r_72_51, ↓r_72_56, ↓s_104, ↓s_74, i_lit, i_add, i_sub, i_mul, i_neg, i_lt, i_le, i_eq, i32_gI, i64_gJ, i32_id, i32_to, i64_to, sI_i32, sJ_i64, b01_t, b01_f, i32_b01, b01_0, ↓a_s0, ↓n_s0, ↓a_s1, ↓n_s1, Int.add_zero, t_lt, f_lt, t_le, f_le, t_eq, f_eq, true_and, and_true, false_and, and_false, and_self, ↓reduceIte, z_bool_of, or_true, true_or, or_false, false_or, Int.neg_neg, not_true_eq_false, not_false_eq_true, lg_lt, lg_le, lg_gt, lg_ge, lg_eq, j_lit, j_add, j_sub, j_mul, j_neg, j_eq, i64_id, ij, ji, z_rt, Nat.reduceEqDiff, Nat.reduceAdd, Int.reduceAdd, Int.reduceSub, Int.reduceMul, Int.reduceNeg, Int.reduceLT, Int.reduceLE, Int.reduceEq, h51]
    rw [st, e1, ← w1]
    simp (disch := first | omega | assumption | exact b01_rng _ | exact st_5 | exact st_12 | exact st_19 | (simp only [isSt_sI, isSt_sJ, isSt_sF, isSt_sG, isSt_sA]; assumption)) only [↓B227_44, i_lit, i_add, i_sub, i_mul, i_neg, i_lt, i_le, i_eq, i32_gI, i64_gJ, i32_id, i32_to, i64_to, sI_i32, sJ_i64, b01_t, b01_f, i32_b01, b01_0, ↓a_s0, ↓n_s0, ↓a_s1, ↓n_s1, Int.add_zero, t_lt, f_lt, t_le, f_le, t_eq, f_eq, true_and, and_true, false_and, and_false, and_self, ↓reduceIte, z_bool_of, or_true, true_or, or_false, false_or, Int.neg_neg, not_true_eq_false, not_false_eq_true, lg_lt, lg_le, lg_gt, lg_ge, lg_eq, j_lit, j_add, j_sub, j_mul, j_neg, j_eq, i64_id, ij, ji, z_rt, Nat.reduceEqDiff, Nat.reduceAdd, Int.reduceAdd, Int.reduceSub, Int.reduceMul, Int.reduceNeg, Int.reduceLT, Int.reduceLE, Int.reduceEq, e4]
/-- all that is left, and from the beginning on -/
theorem x227 (hd : 1 < d) (hB : PrB E f M 100000000) (hn : 0 ≤ E.1 ∧ E.1 ≤ 20) {n : Int} (hn2 : 1 ≤ n ∧ n ≤ 200) {S : zS} (hL : Laid S E f n) : ∃ S' : zS, z_ev X d (z_entry 227 [.ref 72] (mk S)) = some (vI (gI S' 104 0), mk S') ∧ FrLf S S' ∧ LfR S' E f n (-1) n := by
  obtain ⟨en, hen⟩ : ∃ k : Nat, E.1 = k := ⟨E.1.toNat, by omega⟩
  obtain ⟨S', y2, w1, w2, w3⟩ := l227 (X := X) (d := d) hd hB hn hn2 (en + 1) S none (by omega) hL (fun s' t' q1 q2 q3 q4 => by omega)
  refine ⟨S', ?_, w2, w3⟩
  have h0 : gI S 74 0 = (en : Int) := by rw [hL.1, hen]
  rw [show ((en + 1 : Nat) : Int) - 1 = (en : Int) by omega] at w1
  have st : z_ev X d (z_entry 227 [.ref 72] (mk S)) = z_ev X d (227, 7, [some (.ref 72), some (.int (Int32.ofInt (en : Int))), none], [], mk S) := by
    show z_ev X d (227, 0, [some (.ref 72), none, none], [], mk S) = _
    simp (disch := first | omega | assumption | exact b01_rng _ | exact st_5 | exact st_12 | exact st_19 | (simp only [isSt_sI, isSt_sJ, isSt_sF, isSt_sG, isSt_sA]; assumption)) only [↓B227_0, ↓a_104, ↓a_74, ↓n_104, ↓n_74, ↓o_72, ↓r_72_3, ↓r_72_51, ↓r_72_56, ↓s_104, ↓s_74, i_lit, i_add, i_sub, i_mul, i_neg, i_lt, i_le, i_eq, i32_gI, i64_gJ, i32_id, i32_to, i64_to, sI_i32, sJ_i64, b01_t, b01_f, i32_b01, b01_0, ↓a_s0, ↓n_s0, ↓a_s1, ↓n_s1, Int.add_zero, t_lt, f_lt, t_le, f_le, t_eq, f_eq, true_and, and_true, false_and, and_false, and_self, ↓reduceIte, z_bool_of, or_true, true_or, or_false, false_or, Int.neg_neg, not_true_eq_false, not_false_eq_true, lg_lt, lg_le, lg_gt, lg_ge, lg_eq, j_lit, j_add, j_sub, j_mul, j_neg, j_eq, i64_id, ij, ji, z_rt, Nat.reduceEqDiff, Nat.reduceAdd, Int.reduceAdd, Int.reduceSub, Int.reduceMul, Int.reduceNeg, Int.reduceLT, Int.reduceLE, Int.reduceEq, h0]
  rw [st, w1]
  simp (disch := first | omega | assumption | exact b01_rng _ | exact st_5 | exact st_12 | exact st_19 | (simp only [isSt_sI, isSt_sJ, isSt_sF, isSt_sG, isSt_sA]; assumption)) only [↓B227_50, ↓a_104, ↓a_74, ↓n_104, ↓n_74, ↓o_72, ↓r_72_3, ↓r_72_51, ↓r_72_56, ↓s_104, ↓s_74, i_lit, i_add, i_sub, i_mul, i_neg, i_lt, i_le, i_eq, i32_gI, i64_gJ, i32_id, i32_to, i64_to, sI_i32, sJ_i64, b01_t, b01_f, i32_b01, b01_0, ↓a_s0, ↓n_s0, ↓a_s1, ↓n_s1, Int.add_zero, t_lt, f_lt, t_le, f_le, t_eq, f_eq, true_and, and_true, false_and, and_false, and_self, ↓reduceIte, z_bool_of, or_true, true_or, or_false, false_or, Int.neg_neg, not_true_eq_false, not_false_eq_true, lg_lt, lg_le, lg_gt, lg_ge, lg_eq, j_lit, j_add, j_sub, j_mul, j_neg, j_eq, i64_id, ij, ji, z_rt, Nat.reduceEqDiff, Nat.reduceAdd, Int.reduceAdd, Int.reduceSub, Int.reduceMul, Int.reduceNeg, Int.reduceLT, Int.reduceLE, Int.reduceEq]
end
