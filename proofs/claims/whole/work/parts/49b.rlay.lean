/-! layMetre: parts of steps, as signs join them -/
/-- steps that follow, as they lie there; n of them -/
def UA (S : zS) (n : Int) : Au := (fun s o => (0 ≤ s ∧ s < o ∧ o ≤ n) ∧ gI S 100 (201 * s + o) = 1, fun s => 0 < s ∧ gI S 102 s = 1, fun s => gI S 99 s)
def fsA (S : zS) (s : Int) : Prop := gI S 101 s = 1
/-- parts side by side, the latest first -/
def Frs (U : Au) (fs : Int → Prop) (hp : Int → Int) : List T3 → Int → Prop
  | [], b => b = 0
  | x :: st, b => ∃ a, hp st.length = a ∧ Frag U fs a b x.1 ∧ Frs U fs hp st (a - 1)
theorem Frs.cg {U V : Au} {fs gs : Int → Prop} {hp hq : Int → Int} : ∀ {st : List T3} {b : Int}, Frs U fs hp st b → (∀ i : Int, 0 ≤ i → i < st.length → hq i = hp i) → (∀ s o, 1 ≤ s → s ≤ b → (V.1 s o ↔ U.1 s o)) → (∀ s, 1 ≤ s → s ≤ b → (V.2.1 s ↔ U.2.1 s)) → (∀ s, 1 ≤ s → s ≤ b → V.2.2 s = U.2.2 s) → (∀ s, 1 ≤ s → s ≤ b → (gs s ↔ fs s)) → Frs V gs hq st b := by
  intro st
  induction st with
  | nil => intro b h _ _ _ _ _; exact h
  | cons x st ih =>
    intro b h h0 h1 h2 h3 h4
    obtain ⟨a, e1, e2, e3⟩ := h
    have hab := e2.1
    refine ⟨a, by rw [h0 _ (by omega) (by rw [List.length_cons]; omega)]; exact e1, e2.cg (fun s o q1 q2 => h1 s o (by omega) q2) (fun s q1 q2 => h2 s (by omega) q2) (fun s q1 q2 => h3 s (by omega) q2) (fun s q1 q2 => h4 s (by omega) q2), ?_⟩
    exact ih e3 (fun i q1 q2 => h0 i q1 (by rw [List.length_cons]; omega)) (fun s o q1 q2 => h1 s o q1 (by omega)) (fun s q1 q2 => h2 s q1 (by omega)) (fun s q1 q2 => h3 s q1 (by omega)) (fun s q1 q2 => h4 s q1 (by omega))
theorem Frs.le {U : Au} {fs : Int → Prop} {hp : Int → Int} : ∀ {st : List T3} {b : Int}, Frs U fs hp st b → (st.length : Int) ≤ b := by
  intro st
  induction st with
  | nil => intro b h; have : b = 0 := h; rw [this]; exact Int.le_refl _
  | cons x st ih =>
    intro b h
    obtain ⟨a, e1, e2, e3⟩ := h
    have := ih e3
    have hab := e2.1
    rw [List.length_cons]; omega
/-- what is told of firsts and lasts is so or not -/
def B01 (S : zS) (n : Int) : Prop := ∀ i : Int, 1 ≤ i → i ≤ n → (gI S 101 i = 0 ∨ gI S 101 i = 1) ∧ (gI S 102 i = 0 ∨ gI S 102 i = 1) ∧ 0 ≤ gI S 99 i ∧ gI S 99 i ≤ 3
def FolB (S : zS) (n : Int) : Prop := ∀ s o : Int, 0 ≤ s → s < o → o ≤ n → gI S 100 (201 * s + o) = 0 ∨ gI S 100 (201 * s + o) = 1
section
variable {X : zX} {d : Nat}
abbrev L220 (m at_ top k : Int) (x5 x6 : Option Value) : zL := [some (.ref 72), some (.int (Int32.ofInt m)), some (.int (Int32.ofInt at_)), some (.int (Int32.ofInt top)), some (.int (Int32.ofInt k)), x5, x6]
def stpS (S : zS) (n top op : Int) : zS := sI (sI (sI (sI (sI S 72 51 n) 97 top n) 99 n op) 101 n 1) 102 n 1
/-- nothing goes to a new step yet -/
theorem l220n {m at_ top k n op : Int} (hn : 1 ≤ n ∧ n ≤ 200) {x5 : Int} : ∀ (c : Nat) (s : Int) (S : zS), s + c = n → 0 ≤ s → gI S 72 51 = n → ∃ S' : zS, z_ev X d (220, 106, L220 m at_ top k (vI x5) (vI s), [], mk S) = z_ev X d (220, 138, L220 m at_ top k (vI x5) (vI n), [], mk S') ∧ FrLy S S' ∧ (∀ b i, b ≠ 100 → gI S' b i = gI S b i) ∧ (∀ s' o : Int, 0 ≤ s' → s' ≤ 200 → 0 ≤ o → o ≤ 200 → gI S' 100 (201 * s' + o) = if s ≤ s' ∧ s' < n ∧ o = n then 0 else gI S 100 (201 * s' + o)) := by
  intro c
  induction c with
  | zero =>
    intro s S hc hs h51
    have : s = n := by omega
    subst this
    refine ⟨S, ?_, FrLy.rf, fun _ _ _ => rfl, fun s' o _ _ _ _ => by rw [if_neg (by omega)]⟩
    rw [B220_106]
    simp (disch := first | omega | assumption | exact b01_rng _ | exact st_5 | exact st_12 | exact st_19 | (simp only [isSt_sI, isSt_sJ, isSt_sF, isSt_sG, isSt_sA]; assumption)) only [↓a_100, ↓a_101, ↓a_102, ↓a_74, ↓a_97, ↓a_99, ↓n_100, ↓n_101, ↓n_102, ↓n_74, ↓n_97, ↓n_99, ↓o_72, ↓r_72_3, ↓r_72_48, ↓r_72_50, ↓r_72_51, ↓r_72_52, ↓r_72_53, ↓r_72_54, ↓s_100, ↓s_101, ↓s_102, ↓s_74, ↓s_97, ↓s_99, ↓w_72_51, i_lit, i_add, i_sub, i_mul, i_neg, i_lt, i_le, i_eq, i32_gI, i64_gJ, i32_id, i32_to, i64_to, sI_i32, sJ_i64, b01_t, b01_f, i32_b01, b01_0, ↓a_s0, ↓n_s0, ↓a_s1, ↓n_s1, Int.add_zero, t_lt, f_lt, t_le, f_le, t_eq, f_eq, true_and, and_true, false_and, and_false, and_self, ↓reduceIte, z_bool_of, or_true, true_or, or_false, false_or, Int.neg_neg, not_true_eq_false, not_false_eq_true, lg_lt, lg_le, lg_gt, lg_ge, lg_eq, j_lit, j_add, j_sub, j_mul, j_neg, j_eq, i64_id, ij, ji, z_rt, Nat.reduceEqDiff, Nat.reduceAdd, Int.reduceAdd, Int.reduceSub, Int.reduceMul, Int.reduceNeg, Int.reduceLT, Int.reduceLE, Int.reduceEq, h51]
  | succ c ih =>
    intro s S hc hs h51
    obtain ⟨S', e1, e2, e3, e4⟩ := ih (s + 1) (sI S 100 (201 * s + n) 0) (by omega) (by omega) (by rw [gI_sI, if_neg (by omega)]; exact h51)
    refine ⟨S', ?_, (FrLy.I (by omega)).tr e2, fun b i q => by rw [e3 b i q, gI_sI, if_neg (by omega)], fun s' o q1 q2 q3 q4 => ?_⟩
    · rw [← e1, B220_106]
      simp (disch := first | omega | assumption | exact b01_rng _ | exact st_5 | exact st_12 | exact st_19 | (simp only [isSt_sI, isSt_sJ, isSt_sF, isSt_sG, isSt_sA]; assumption)) only [↓B220_115, ↓a_100, ↓a_101, ↓a_102, ↓a_74, ↓a_97, ↓a_99, ↓n_100, ↓n_101, ↓n_102, ↓n_74, ↓n_97, ↓n_99, ↓o_72, ↓r_72_3, ↓r_72_48, ↓r_72_50, ↓r_72_51, ↓r_72_52, ↓r_72_53, ↓r_72_54, ↓s_100, ↓s_101, ↓s_102, ↓s_74, ↓s_97, ↓s_99, ↓w_72_51, i_lit, i_add, i_sub, i_mul, i_neg, i_lt, i_le, i_eq, i32_gI, i64_gJ, i32_id, i32_to, i64_to, sI_i32, sJ_i64, b01_t, b01_f, i32_b01, b01_0, ↓a_s0, ↓n_s0, ↓a_s1, ↓n_s1, Int.add_zero, t_lt, f_lt, t_le, f_le, t_eq, f_eq, true_and, and_true, false_and, and_false, and_self, ↓reduceIte, z_bool_of, or_true, true_or, or_false, false_or, Int.neg_neg, not_true_eq_false, not_false_eq_true, lg_lt, lg_le, lg_gt, lg_ge, lg_eq, j_lit, j_add, j_sub, j_mul, j_neg, j_eq, i64_id, ij, ji, z_rt, Nat.reduceEqDiff, Nat.reduceAdd, Int.reduceAdd, Int.reduceSub, Int.reduceMul, Int.reduceNeg, Int.reduceLT, Int.reduceLE, Int.reduceEq, h51]
    · rw [e4 s' o q1 q2 q3 q4, gI_sI]
      by_cases w : s' = s ∧ o = n
      · obtain ⟨rfl, rfl⟩ := w
        rw [if_neg (by omega), if_pos ⟨rfl, rfl⟩, if_pos (by omega)]; rfl
      · rw [if_neg (show ¬ (100 = 100 ∧ 201 * s' + o = 201 * s + n) by omega)]
        by_cases w2 : s + 1 ≤ s' ∧ s' < n ∧ o = n
        · rw [if_pos w2, if_pos (by omega)]
        · rw [if_neg w2, if_neg (by omega)]
/-- a step -/
theorem t220a {m at_ top k n op : Int} {x5 x6 : Option Value} {S : zS} (hat : 80 ≤ at_ ∧ at_ ≤ 2090) (hk : 0 ≤ k ∧ k < gI S 74 at_) (hk4 : gI S 74 at_ ≤ 400) (hop : gI S 74 (at_ + 1 + k) = op) (h4 : 0 ≤ op ∧ op < 4) (hn : gI S 72 51 = n) (hnb : 0 ≤ n ∧ n < 200) (ht : 0 ≤ top ∧ top < 400) {st : List T3} (hF : Frs (UA S n) (fsA S) (gI S 97) st n) (hl : (st.length : Int) = top) (hb : B01 S n) (hf : FolB S n) : ∃ (S' : zS) (y5 y6 : Option Value), z_ev X d (220, 19, L220 m at_ top k x5 x6, [], mk S) = z_ev X d (220, 19, L220 m at_ (top + 1) (k + 1) y5 y6, [], mk S') ∧ FrLy S S' ∧ gI S' 72 51 = n + 1 ∧ Frs (UA S' (n + 1)) (fsA S') (gI S' 97) (dst3 st op) (n + 1) ∧ B01 S' (n + 1) ∧ FolB S' (n + 1) := by
  obtain ⟨S1, hS1⟩ : ∃ S1 : zS, S1 = stpS S (n + 1) top op := ⟨_, rfl⟩
  have f1 : FrLy S S1 := by
    rw [hS1]; unfold stpS
    exact (((FrLy.N.tr (FrLy.I (by omega))).tr (FrLy.I (by omega))).tr (FrLy.I (by omega))).tr (FrLy.I (by omega))
  have h51 : gI S1 72 51 = n + 1 := by rw [hS1]; unfold stpS; simp (disch := first | omega | assumption | exact b01_rng _ | exact st_5 | exact st_12 | exact st_19 | (simp only [isSt_sI, isSt_sJ, isSt_sF, isSt_sG, isSt_sA]; assumption)) only [gI_sI, i_lit, i_add, i_sub, i_mul, i_neg, i_lt, i_le, i_eq, i32_gI, i64_gJ, i32_id, i32_to, i64_to, sI_i32, sJ_i64, b01_t, b01_f, i32_b01, b01_0, ↓a_s0, ↓n_s0, ↓a_s1, ↓n_s1, Int.add_zero, t_lt, f_lt, t_le, f_le, t_eq, f_eq, true_and, and_true, false_and, and_false, and_self, ↓reduceIte, z_bool_of, or_true, true_or, or_false, false_or, Int.neg_neg, not_true_eq_false, not_false_eq_true, lg_lt, lg_le, lg_gt, lg_ge, lg_eq, j_lit, j_add, j_sub, j_mul, j_neg, j_eq, i64_id, ij, ji, z_rt, Nat.reduceEqDiff, Nat.reduceAdd, Int.reduceAdd, Int.reduceSub, Int.reduceMul, Int.reduceNeg, Int.reduceLT, Int.reduceLE, Int.reduceEq]
  obtain ⟨S', e1, e2, e3, e4⟩ := l220n (X := X) (d := d) (m := m) (at_ := at_) (top := top + 1) (k := k) (n := n + 1) (op := op) (x5 := op) (by omega) (n + 1).toNat 0 S1 (by omega) (by omega) h51
  have g97 : ∀ i, gI S' 97 i = if i = top then n + 1 else gI S 97 i := fun i => by
    rw [e3 97 i (by omega), hS1]; unfold stpS
    rw [gI_sI, if_neg (by omega), gI_sI, if_neg (by omega), gI_sI, if_neg (by omega), gI_sI]
    by_cases q : i = top
    · rw [if_pos ⟨rfl, q⟩, if_pos q, i32_id (by omega) (by omega)]
    · rw [if_neg (by omega), if_neg q, gI_sI, if_neg (by omega)]
  have g99 : ∀ i, gI S' 99 i = if i = n + 1 then op else gI S 99 i := fun i => by
    rw [e3 99 i (by omega), hS1]; unfold stpS
    rw [gI_sI, if_neg (by omega), gI_sI, if_neg (by omega), gI_sI]
    by_cases q : i = n + 1
    · rw [if_pos ⟨rfl, q⟩, if_pos q, i32_id (by omega) (by omega)]
    · rw [if_neg (by omega), if_neg q, gI_sI, if_neg (by omega), gI_sI, if_neg (by omega)]
  have g101 : ∀ i, gI S' 101 i = if i = n + 1 then 1 else gI S 101 i := fun i => by
    rw [e3 101 i (by omega), hS1]; unfold stpS
    rw [gI_sI, if_neg (by omega), gI_sI]
    by_cases q : i = n + 1
    · rw [if_pos ⟨rfl, q⟩, if_pos q]; rfl
    · rw [if_neg (by omega), if_neg q, gI_sI, if_neg (by omega), gI_sI, if_neg (by omega), gI_sI, if_neg (by omega)]
  have g102 : ∀ i, gI S' 102 i = if i = n + 1 then 1 else gI S 102 i := fun i => by
    rw [e3 102 i (by omega), hS1]; unfold stpS
    rw [gI_sI]
    by_cases q : i = n + 1
    · rw [if_pos ⟨rfl, q⟩, if_pos q]; rfl
    · rw [if_neg (by omega), if_neg q, gI_sI, if_neg (by omega), gI_sI, if_neg (by omega), gI_sI, if_neg (by omega), gI_sI, if_neg (by omega)]
  have g100 : ∀ s o : Int, 0 ≤ s → s ≤ 200 → 0 ≤ o → o ≤ 200 → gI S' 100 (201 * s + o) = if s < n + 1 ∧ o = n + 1 then 0 else gI S 100 (201 * s + o) := fun s o q1 q2 q3 q4 => by
    rw [e4 s o q1 q2 q3 q4]
    have : gI S1 100 (201 * s + o) = gI S 100 (201 * s + o) := by rw [hS1]; unfold stpS; (repeat (first | rw [gI_sI, if_neg (by omega)] | rw [gI_sF, if_neg (by omega)] | rw [gI_sJ] | rw [gI_sG] | rw [gI_sQ]))
    rw [this]
    by_cases w : s < n + 1 ∧ o = n + 1
    · rw [if_pos ⟨q1, w⟩, if_pos w]
    · rw [if_neg (fun h => w h.2), if_neg w]
  have u1 : ∀ s o, 1 ≤ s → s ≤ n → ((UA S' (n + 1)).1 s o ↔ (UA S n).1 s o) := fun s o q1 q2 => by
    show ((0 ≤ s ∧ s < o ∧ o ≤ n + 1) ∧ gI S' 100 (201 * s + o) = 1) ↔ ((0 ≤ s ∧ s < o ∧ o ≤ n) ∧ gI S 100 (201 * s + o) = 1)
    constructor
    · rintro ⟨w1, w2⟩
      rw [g100 s o (by omega) (by omega) (by omega) (by omega)] at w2
      by_cases w : s < n + 1 ∧ o = n + 1
      · rw [if_pos w] at w2; omega
      · rw [if_neg w] at w2; exact ⟨by omega, w2⟩
    · rintro ⟨w1, w2⟩
      exact ⟨by omega, by rw [g100 s o (by omega) (by omega) (by omega) (by omega), if_neg (by omega)]; exact w2⟩
  have hd3 : dst3 st op = (l1 op, 1, [op]) :: st := by unfold dst3; rw [if_pos h4.2]
  refine ⟨S', vI op, vI (n + 1), ?_, f1.tr e2, by rw [e3 72 51 (by omega)]; exact h51, ?_, fun i q1 q2 => ?_, fun s o q1 q2 q3 => ?_⟩
  · have en : gI S 72 51 + 1 = n + 1 := by omega
    have st : z_ev X d (220, 19, L220 m at_ top k x5 x6, [], mk S) = z_ev X d (220, 106, L220 m at_ (top + 1) k (vI op) (vI 0), [], mk S1) := by
      rw [hS1, B220_19]
      unfold stpS
      simp (disch := first | omega | assumption | exact b01_rng _ | exact st_5 | exact st_12 | exact st_19 | (simp only [isSt_sI, isSt_sJ, isSt_sF, isSt_sG, isSt_sA]; assumption)) only [↓B220_30, ↓B220_49, ↓a_100, ↓a_101, ↓a_102, ↓a_74, ↓a_97, ↓a_99, ↓n_100, ↓n_101, ↓n_102, ↓n_74, ↓n_97, ↓n_99, ↓o_72, ↓r_72_3, ↓r_72_48, ↓r_72_50, ↓r_72_51, ↓r_72_52, ↓r_72_53, ↓r_72_54, ↓s_100, ↓s_101, ↓s_102, ↓s_74, ↓s_97, ↓s_99, ↓w_72_51, i_lit, i_add, i_sub, i_mul, i_neg, i_lt, i_le, i_eq, i32_gI, i64_gJ, i32_id, i32_to, i64_to, sI_i32, sJ_i64, b01_t, b01_f, i32_b01, b01_0, ↓a_s0, ↓n_s0, ↓a_s1, ↓n_s1, Int.add_zero, t_lt, f_lt, t_le, f_le, t_eq, f_eq, true_and, and_true, false_and, and_false, and_self, ↓reduceIte, z_bool_of, or_true, true_or, or_false, false_or, Int.neg_neg, not_true_eq_false, not_false_eq_true, lg_lt, lg_le, lg_gt, lg_ge, lg_eq, j_lit, j_add, j_sub, j_mul, j_neg, j_eq, i64_id, ij, ji, z_rt, Nat.reduceEqDiff, Nat.reduceAdd, Int.reduceAdd, Int.reduceSub, Int.reduceMul, Int.reduceNeg, Int.reduceLT, Int.reduceLE, Int.reduceEq, gI_sI, gI_sJ, gI_sF, gI_sG, gI_sQ, gI_sA, gJ_sI, gJ_sJ, gJ_sF, gJ_sG, gJ_sQ, gJ_sA, gQ_sI, gQ_sJ, gQ_sF, gQ_sG, gQ_sQ, gQ_sA, gH_sI, gH_sJ, gH_sF, gH_sG, gH_sQ, gH_sA, gN_sI, gN_sJ, gN_sF, gN_sG, gN_sQ, gN_sA, gW_sI, gW_sJ, gW_sF, gW_sG, gW_sQ, gW_sA, hop, hn]
    rw [st, e1]
    simp (disch := first | omega | assumption | exact b01_rng _ | exact st_5 | exact st_12 | exact st_19 | (simp only [isSt_sI, isSt_sJ, isSt_sF, isSt_sG, isSt_sA]; assumption)) only [↓B220_138, ↓B220_172, i_lit, i_add, i_sub, i_mul, i_neg, i_lt, i_le, i_eq, i32_gI, i64_gJ, i32_id, i32_to, i64_to, sI_i32, sJ_i64, b01_t, b01_f, i32_b01, b01_0, ↓a_s0, ↓n_s0, ↓a_s1, ↓n_s1, Int.add_zero, t_lt, f_lt, t_le, f_le, t_eq, f_eq, true_and, and_true, false_and, and_false, and_self, ↓reduceIte, z_bool_of, or_true, true_or, or_false, false_or, Int.neg_neg, not_true_eq_false, not_false_eq_true, lg_lt, lg_le, lg_gt, lg_ge, lg_eq, j_lit, j_add, j_sub, j_mul, j_neg, j_eq, i64_id, ij, ji, z_rt, Nat.reduceEqDiff, Nat.reduceAdd, Int.reduceAdd, Int.reduceSub, Int.reduceMul, Int.reduceNeg, Int.reduceLT, Int.reduceLE, Int.reduceEq]
  · rw [hd3]
    refine ⟨n + 1, by rw [g97, if_pos hl], Frag.one (by omega) (fun o h => ?_) ⟨by omega, ?_⟩ ?_ ?_, ?_⟩
    · have := h.1; omega
    · show gI S' 102 (n + 1) = 1; rw [g102, if_pos rfl]
    · show gI S' 99 (n + 1) = op; rw [g99, if_pos rfl]
    · show gI S' 101 (n + 1) = 1; rw [g101, if_pos rfl]
    · rw [show n + 1 - 1 = n by omega]
      refine hF.cg (fun i q1 q2 => by rw [g97, if_neg (by omega)]) u1 (fun s q1 q2 => ?_) (fun s q1 q2 => ?_) (fun s q1 q2 => ?_)
      · show (0 < s ∧ gI S' 102 s = 1) ↔ (0 < s ∧ gI S 102 s = 1)
        rw [g102, if_neg (by omega)]
      · show gI S' 99 s = gI S 99 s
        rw [g99, if_neg (by omega)]
      · show gI S' 101 s = 1 ↔ gI S 101 s = 1
        rw [g101, if_neg (by omega)]
  · rw [g101, g102, g99]
    by_cases q : i = n + 1
    · rw [if_pos q, if_pos q, if_pos q]; omega
    · rw [if_neg q, if_neg q, if_neg q]; exact hb i q1 (by omega)
  · rw [g100 s o q1 (by omega) (by omega) (by omega)]
    split
    · exact Or.inl rfl
    · next w => exact hf s o q1 q2 (by omega)
/-- two become one, by or -/
theorem t220b {m at_ top k n : Int} {x5 x6 : Option Value} {S : zS} (hat : 80 ≤ at_ ∧ at_ ≤ 2090) (hk : 0 ≤ k ∧ k < gI S 74 at_) (hk4 : gI S 74 at_ ≤ 400) (hop : gI S 74 (at_ + 1 + k) = 5) (ht : 2 ≤ top ∧ top < 400) {x y : T3} {st : List T3} (hF : Frs (UA S n) (fsA S) (gI S 97) (y :: x :: st) n) : ∃ (y5 y6 : Option Value), z_ev X d (220, 19, L220 m at_ top k x5 x6, [], mk S) = z_ev X d (220, 19, L220 m at_ (top - 1) (k + 1) y5 y6, [], mk S) ∧ Frs (UA S n) (fsA S) (gI S 97) (or3 x y :: st) n := by
  refine ⟨vI 5, x6, ?_, ?_⟩
  · have e1 : top + -1 = top - 1 := by omega
    rw [B220_19]
    simp (disch := first | omega | assumption | exact b01_rng _ | exact st_5 | exact st_12 | exact st_19 | (simp only [isSt_sI, isSt_sJ, isSt_sF, isSt_sG, isSt_sA]; assumption)) only [↓B220_30, ↓B220_141, ↓B220_172, ↓a_100, ↓a_101, ↓a_102, ↓a_74, ↓a_97, ↓a_99, ↓n_100, ↓n_101, ↓n_102, ↓n_74, ↓n_97, ↓n_99, ↓o_72, ↓r_72_3, ↓r_72_48, ↓r_72_50, ↓r_72_51, ↓r_72_52, ↓r_72_53, ↓r_72_54, ↓s_100, ↓s_101, ↓s_102, ↓s_74, ↓s_97, ↓s_99, ↓w_72_51, i_lit, i_add, i_sub, i_mul, i_neg, i_lt, i_le, i_eq, i32_gI, i64_gJ, i32_id, i32_to, i64_to, sI_i32, sJ_i64, b01_t, b01_f, i32_b01, b01_0, ↓a_s0, ↓n_s0, ↓a_s1, ↓n_s1, Int.add_zero, t_lt, f_lt, t_le, f_le, t_eq, f_eq, true_and, and_true, false_and, and_false, and_self, ↓reduceIte, z_bool_of, or_true, true_or, or_false, false_or, Int.neg_neg, not_true_eq_false, not_false_eq_true, lg_lt, lg_le, lg_gt, lg_ge, lg_eq, j_lit, j_add, j_sub, j_mul, j_neg, j_eq, i64_id, ij, ji, z_rt, Nat.reduceEqDiff, Nat.reduceAdd, Int.reduceAdd, Int.reduceSub, Int.reduceMul, Int.reduceNeg, Int.reduceLT, Int.reduceLE, Int.reduceEq, hop, e1]
  · obtain ⟨t, h1, h2, a, h3, h4, h5⟩ := hF
    exact ⟨a, h3, Frag.or (t := t) h4 h2, h5⟩
/-- by then -/
theorem t220c (hd : 0 < d) {m at_ top k n : Int} {x5 x6 : Option Value} {S : zS} (hat : 80 ≤ at_ ∧ at_ ≤ 2090) (hk : 0 ≤ k ∧ k < gI S 74 at_) (hk4 : gI S 74 at_ ≤ 400) (hop : gI S 74 (at_ + 1 + k) = 4) (hn : gI S 72 51 = n) (hnb : n ≤ 200) (ht : 2 ≤ top ∧ top < 400) {x y : T3} {st : List T3} (hl : (st.length : Int) + 2 = top) (hF : Frs (UA S n) (fsA S) (gI S 97) (y :: x :: st) n) (hb : B01 S n) (hf : FolB S n) : ∃ (S' : zS) (y5 y6 : Option Value), z_ev X d (220, 19, L220 m at_ top k x5 x6, [], mk S) = z_ev X d (220, 19, L220 m at_ (top - 1) (k + 1) y5 y6, [], mk S') ∧ FrLy S S' ∧ gI S' 72 51 = n ∧ Frs (UA S' n) (fsA S') (gI S' 97) (cat3 x y :: st) n ∧ B01 S' n ∧ FolB S' n := by
  obtain ⟨t, h1, h2, a, h3, h4, h5⟩ := hF
  have hab := h4.1
  have htb := h2.1
  rw [List.length_cons] at h1
  have e1 : top + -1 = top - 1 := by omega
  have h1' : gI S 97 (top - 1) = t := by rw [← h1]; congr 1; omega
  have h3' : gI S 97 (top - 2) = a := by rw [← h3]; congr 1; omega
  obtain ⟨S', w1, w2, w3, w4, w5, w6⟩ := x221 (X := X) (d := 0) (a := a) (t := t) (b := n) (by omega) (S := S) (fun i q1 q2 => (hb i (by omega) (by omega)).2.1) (fun i q1 q2 => (hb i (by omega) (by omega)).1)
  have ev := fun {cm cp : Nat} {L : zL} {st : List Value} => evV (X := X) (d := d) hd w1 (cm := cm) (cp := cp) (L := L) (st := st)
  have hfol : ∀ s o, a ≤ s → s < t → t ≤ o → ¬ (UA S n).1 s o := fun s o q1 q2 q3 w => by
    have := h4.2.1 s o q1 (by omega) w; omega
  refine ⟨S', vI 4, x6, ?_, w2, by rw [w6 72 51 (by omega) (by omega) (by omega)]; exact hn, ⟨a, by rw [w6 97 _ (by omega) (by omega) (by omega)]; exact h3, ?_, ?_⟩, fun i q1 q2 => ?_, fun s o q1 q2 q3 => ?_⟩
  · have e2 : top - 1 - 1 = top - 2 := by omega
    rw [B220_19]
    simp (disch := first | omega | assumption | exact b01_rng _ | exact st_5 | exact st_12 | exact st_19 | (simp only [isSt_sI, isSt_sJ, isSt_sF, isSt_sG, isSt_sA]; assumption)) only [↓B220_30, ↓B220_141, ↓B220_150, ↓B220_172, ↓a_100, ↓a_101, ↓a_102, ↓a_74, ↓a_97, ↓a_99, ↓n_100, ↓n_101, ↓n_102, ↓n_74, ↓n_97, ↓n_99, ↓o_72, ↓r_72_3, ↓r_72_48, ↓r_72_50, ↓r_72_51, ↓r_72_52, ↓r_72_53, ↓r_72_54, ↓s_100, ↓s_101, ↓s_102, ↓s_74, ↓s_97, ↓s_99, ↓w_72_51, ↓o_72, i_lit, i_add, i_sub, i_mul, i_neg, i_lt, i_le, i_eq, i32_gI, i64_gJ, i32_id, i32_to, i64_to, sI_i32, sJ_i64, b01_t, b01_f, i32_b01, b01_0, ↓a_s0, ↓n_s0, ↓a_s1, ↓n_s1, Int.add_zero, t_lt, f_lt, t_le, f_le, t_eq, f_eq, true_and, and_true, false_and, and_false, and_self, ↓reduceIte, z_bool_of, or_true, true_or, or_false, false_or, Int.neg_neg, not_true_eq_false, not_false_eq_true, lg_lt, lg_le, lg_gt, lg_ge, lg_eq, j_lit, j_add, j_sub, j_mul, j_neg, j_eq, i64_id, ij, ji, z_rt, Nat.reduceEqDiff, Nat.reduceAdd, Int.reduceAdd, Int.reduceSub, Int.reduceMul, Int.reduceNeg, Int.reduceLT, Int.reduceLE, Int.reduceEq, hop, e1, e2, h1', h3', hn, ev]
  · refine Frag.cat (t := t) h4 h2 (fun s o q1 q2 => ?_) (fun s q1 q2 w => ?_) (fun s o q1 q2 => ?_) (fun s q1 q2 => ?_) (fun s q1 q2 => w6 99 s (by omega) (by omega) (by omega)) (fun s q1 q2 => ?_) (fun s q1 q2 w => ?_)
    · show ((0 ≤ s ∧ s < o ∧ o ≤ n) ∧ gI S' 100 (201 * s + o) = 1) ↔ ((0 ≤ s ∧ s < o ∧ o ≤ n) ∧ gI S 100 (201 * s + o) = 1) ∨ ((0 < s ∧ gI S 102 s = 1) ∧ t ≤ o ∧ o ≤ n ∧ gI S 101 o = 1)
      constructor
      · rintro ⟨v1, v2⟩
        rw [w3 s o (by omega) (by omega) (by omega) (by omega)] at v2
        by_cases q : a ≤ s ∧ s < t ∧ t ≤ o ∧ o ≤ n ∧ gI S 102 s = 1
        · rw [if_pos q] at v2; exact Or.inr ⟨⟨by omega, q.2.2.2.2⟩, q.2.2.1, q.2.2.2.1, v2⟩
        · rw [if_neg q] at v2; exact Or.inl ⟨v1, v2⟩
      · rintro (⟨v1, v2⟩ | ⟨⟨v1, v2⟩, v3, v4, v5⟩)
        · refine ⟨v1, ?_⟩
          rw [w3 s o (by omega) (by omega) (by omega) (by omega), if_neg]
          · exact v2
          · rintro ⟨-, -, u1, -⟩
            exact hfol s o q1 q2 u1 ⟨v1, v2⟩
        · refine ⟨by omega, ?_⟩
          rw [w3 s o (by omega) (by omega) (by omega) (by omega), if_pos ⟨q1, q2, v3, v4, v2⟩]; exact v5
    · have : gI S' 102 s = 1 := w.2
      rw [w4, if_pos ⟨q1, q2⟩] at this; omega
    · show ((0 ≤ s ∧ s < o ∧ o ≤ n) ∧ gI S' 100 (201 * s + o) = 1) ↔ ((0 ≤ s ∧ s < o ∧ o ≤ n) ∧ gI S 100 (201 * s + o) = 1)
      constructor
      · rintro ⟨v1, v2⟩; rw [w3 s o (by omega) (by omega) (by omega) (by omega), if_neg (by omega)] at v2; exact ⟨v1, v2⟩
      · rintro ⟨v1, v2⟩; exact ⟨v1, by rw [w3 s o (by omega) (by omega) (by omega) (by omega), if_neg (by omega)]; exact v2⟩
    · show (0 < s ∧ gI S' 102 s = 1) ↔ (0 < s ∧ gI S 102 s = 1)
      rw [w4, if_neg (by omega)]
    · show gI S' 101 s = 1 ↔ gI S 101 s = 1
      rw [w5, if_neg (by omega)]
    · have : gI S' 101 s = 1 := w
      rw [w5, if_pos ⟨q1, q2⟩] at this; omega
  · refine h5.cg (fun i q1 q2 => w6 97 i (by omega) (by omega) (by omega)) (fun s o q1 q2 => ?_) (fun s q1 q2 => ?_) (fun s q1 q2 => w6 99 s (by omega) (by omega) (by omega)) (fun s q1 q2 => ?_)
    · show ((0 ≤ s ∧ s < o ∧ o ≤ n) ∧ gI S' 100 (201 * s + o) = 1) ↔ ((0 ≤ s ∧ s < o ∧ o ≤ n) ∧ gI S 100 (201 * s + o) = 1)
      constructor
      · rintro ⟨v1, v2⟩; rw [w3 s o (by omega) (by omega) (by omega) (by omega), if_neg (by omega)] at v2; exact ⟨v1, v2⟩
      · rintro ⟨v1, v2⟩; exact ⟨v1, by rw [w3 s o (by omega) (by omega) (by omega) (by omega), if_neg (by omega)]; exact v2⟩
    · show (0 < s ∧ gI S' 102 s = 1) ↔ (0 < s ∧ gI S 102 s = 1)
      rw [w4, if_neg (by omega)]
    · show gI S' 101 s = 1 ↔ gI S 101 s = 1
      rw [w5, if_neg (by omega)]
  · obtain ⟨b1, b2, b3⟩ := hb i q1 q2
    rw [w5, w4, w6 99 i (by omega) (by omega) (by omega)]
    refine ⟨?_, ?_, b3⟩
    · split
      · exact Or.inl rfl
      · exact b1
    · split
      · exact Or.inl rfl
      · exact b2
  · rw [w3 s o q1 (by omega) (by omega) (by omega)]
    split
    · exact (hb o (by omega) q3).1
    · exact hf s o q1 q2 q3
end
