/-! TOKENS: where they begin and end, what they are -/
def isL (c : Int) : Prop := 97 ≤ c ∧ c ≤ 122
def isD (c : Int) : Prop := 48 ≤ c ∧ c ≤ 57
noncomputable def rE (p : Int → Prop) (b : Int → Int) (n : Int) : Nat → Int → Int
  | 0, i => i
  | m + 1, i => @ite _ (i < n ∧ p (b i)) (Classical.propDecidable _) (rE p b n m (i + 1)) i
/-- the first place from one on that is not so, or the end -/
noncomputable def run (p : Int → Prop) (b : Int → Int) (n i : Int) : Int := rE p b n (n - i).toNat i
theorem run_t {p : Int → Prop} {b : Int → Int} {n i : Int} (h : i < n) (hp : p (b i)) : run p b n i = run p b n (i + 1) := by
  unfold run
  rw [show (n - i).toNat = (n - (i + 1)).toNat + 1 by omega]
  show @ite _ (i < n ∧ p (b i)) (Classical.propDecidable _) _ _ = _
  rw [if_pos ⟨h, hp⟩]
theorem run_f {p : Int → Prop} {b : Int → Int} {n i : Int} (h : n ≤ i ∨ ¬ p (b i)) : run p b n i = i := by
  unfold run
  cases hm : (n - i).toNat with
  | zero => rfl
  | succ m =>
    show @ite _ (i < n ∧ p (b i)) (Classical.propDecidable _) _ _ = _
    rw [if_neg]
    rintro ⟨h1, h2⟩
    rcases h with h | h
    · omega
    · exact h h2
theorem run_rng {p : Int → Prop} {b : Int → Int} {n : Int} : ∀ (m : Nat) (i : Int), (n - i).toNat = m → i ≤ n → i ≤ run p b n i ∧ run p b n i ≤ n := by
  intro m
  induction m with
  | zero => intro i h h1; rw [run_f (Or.inl (by omega))]; omega
  | succ m ih =>
    intro i h h1
    by_cases q : p (b i)
    · rw [run_t (by omega) q]
      have := ih (i + 1) (by omega) (by omega)
      omega
    · rw [run_f (Or.inr q)]; omega
/-- a token's end -/
noncomputable def tE (b : Int → Int) (n i : Int) : Int := @ite _ (isL (b i)) (Classical.propDecidable _) (run isL b n (i + 1)) (@ite _ (isD (b i)) (Classical.propDecidable _) (run isD b n (i + 1)) (i + 1))
noncomputable def skp (b : Int → Int) (n i : Int) : Int := run (fun c => c = 32) b n i
theorem tE_rng {b : Int → Int} {n i : Int} (h : i < n) : i < tE b n i ∧ tE b n i ≤ n := by
  unfold tE
  have h1 := run_rng (p := isL) (b := b) (n := n) _ (i + 1) rfl (by omega)
  have h2 := run_rng (p := isD) (b := b) (n := n) _ (i + 1) rfl (by omega)
  split
  · omega
  · split <;> omega
theorem skp_rng {b : Int → Int} {n i : Int} (h : i ≤ n) : i ≤ skp b n i ∧ skp b n i ≤ n := run_rng _ i rfl h
/-- where the tokens begin -/
noncomputable def tpos (b : Int → Int) (n : Int) : Nat → Int
  | 0 => skp b n 0
  | t + 1 => @ite _ (tpos b n t < n) (Classical.propDecidable _) (skp b n (tE b n (tpos b n t))) n
/-- the words, as the class has them -/
def wl (b : Int → Int) (i e : Int) : List Nat → Int → Int → Int → Int
  | [], _, _, _ => 284
  | c :: r, code, nx, al => if (c : Int) ≠ 32 then wl b i e r code (nx + 1) (b01 (al ≠ 0 ∧ nx < e ∧ b nx = c)) else if al ≠ 0 ∧ nx = e then code else wl b i e r (code + 1) i 1
/-- a number as the class has it -/
def nv (b : Int → Int) : Nat → Int → Int → Int
  | 0, _, v => v
  | m + 1, i, v => nv b m (i + 1) (if v * 10 + b i - 48 < 9999 then v * 10 + b i - 48 else 9999)
theorem e272 {X : zX} {d : Nat} (hd : 0 ≤ d) {S : zS} (x y : Int) (h1 : r32 x) (h2 : r32 y) : z_ev X d (z_entry 272 [.int (Int32.ofInt x), .int (Int32.ofInt y)] (mk S)) = some (some (.int (Int32.ofInt (max x y))), mk S) := by
  show z_ev X d (272, 0, [some (.int (Int32.ofInt x)), some (.int (Int32.ofInt y))], [], mk S) = _
  by_cases q : x < y
  · simp (disch := first | omega | assumption | exact b01_rng _ | exact st_5 | exact st_12 | exact st_19 | (simp only [isSt_sI, isSt_sJ, isSt_sF, isSt_sG, isSt_sA]; assumption)) only [↓B272_0, ↓B272_5, ↓B272_9, ↓B272_10, i_lit, i_add, i_sub, i_mul, i_neg, i_lt, i_le, i_eq, i32_gI, i64_gJ, i32_id, i32_to, i64_to, sI_i32, sJ_i64, b01_t, b01_f, i32_b01, b01_0, ↓a_s0, ↓n_s0, ↓a_s1, ↓n_s1, Int.add_zero, t_lt, f_lt, t_le, f_le, t_eq, f_eq, true_and, and_true, false_and, and_false, and_self, ↓reduceIte, z_bool_of, or_true, true_or, or_false, false_or, Int.neg_neg, not_true_eq_false, not_false_eq_true, lg_lt, lg_le, lg_gt, lg_ge, lg_eq, j_lit, j_add, j_sub, j_mul, j_neg, j_eq, i64_id, ij, ji, z_rt, Nat.reduceEqDiff, Nat.reduceAdd, Int.reduceAdd, Int.reduceSub, Int.reduceMul, Int.reduceNeg, Int.reduceLT, Int.reduceLE, Int.reduceEq, Int.max_eq_right (Int.le_of_lt q)]
  · simp (disch := first | omega | assumption | exact b01_rng _ | exact st_5 | exact st_12 | exact st_19 | (simp only [isSt_sI, isSt_sJ, isSt_sF, isSt_sG, isSt_sA]; assumption)) only [↓B272_0, ↓B272_5, ↓B272_9, ↓B272_10, i_lit, i_add, i_sub, i_mul, i_neg, i_lt, i_le, i_eq, i32_gI, i64_gJ, i32_id, i32_to, i64_to, sI_i32, sJ_i64, b01_t, b01_f, i32_b01, b01_0, ↓a_s0, ↓n_s0, ↓a_s1, ↓n_s1, Int.add_zero, t_lt, f_lt, t_le, f_le, t_eq, f_eq, true_and, and_true, false_and, and_false, and_self, ↓reduceIte, z_bool_of, or_true, true_or, or_false, false_or, Int.neg_neg, not_true_eq_false, not_false_eq_true, lg_lt, lg_le, lg_gt, lg_ge, lg_eq, j_lit, j_add, j_sub, j_mul, j_neg, j_eq, i64_id, ij, ji, z_rt, Nat.reduceEqDiff, Nat.reduceAdd, Int.reduceAdd, Int.reduceSub, Int.reduceMul, Int.reduceNeg, Int.reduceLT, Int.reduceLE, Int.reduceEq, Int.max_eq_left (show y ≤ x by omega)]
theorem c272 {X : zX} {d : Nat} (hd : 0 < d) {S : zS} (x y : Int) (h1 : r32 x) (h2 : r32 y) {cm cp : Nat} {L : zL} {st : List Value} : z_evc X d 272 [.int (Int32.ofInt x), .int (Int32.ofInt y)] (cm, cp, L, st, mk S) = z_ev X d (cm, cp, L, .int (Int32.ofInt (max x y)) :: st, mk S) := z_evc_of (r := (some (.int (Int32.ofInt (max x y))), mk S)) (ck := (cm, cp, L, st, mk S)) hd (e272 (X := X) (Nat.le_refl _) x y h1 h2)
theorem e273 {X : zX} {d : Nat} (hd : 0 ≤ d) {S : zS} (x y : Int) (h1 : r32 x) (h2 : r32 y) : z_ev X d (z_entry 273 [.int (Int32.ofInt x), .int (Int32.ofInt y)] (mk S)) = some (some (.int (Int32.ofInt (min x y))), mk S) := by
  show z_ev X d (273, 0, [some (.int (Int32.ofInt x)), some (.int (Int32.ofInt y))], [], mk S) = _
  by_cases q : y < x
  · simp (disch := first | omega | assumption | exact b01_rng _ | exact st_5 | exact st_12 | exact st_19 | (simp only [isSt_sI, isSt_sJ, isSt_sF, isSt_sG, isSt_sA]; assumption)) only [↓B273_0, ↓B273_5, ↓B273_9, ↓B273_10, i_lit, i_add, i_sub, i_mul, i_neg, i_lt, i_le, i_eq, i32_gI, i64_gJ, i32_id, i32_to, i64_to, sI_i32, sJ_i64, b01_t, b01_f, i32_b01, b01_0, ↓a_s0, ↓n_s0, ↓a_s1, ↓n_s1, Int.add_zero, t_lt, f_lt, t_le, f_le, t_eq, f_eq, true_and, and_true, false_and, and_false, and_self, ↓reduceIte, z_bool_of, or_true, true_or, or_false, false_or, Int.neg_neg, not_true_eq_false, not_false_eq_true, lg_lt, lg_le, lg_gt, lg_ge, lg_eq, j_lit, j_add, j_sub, j_mul, j_neg, j_eq, i64_id, ij, ji, z_rt, Nat.reduceEqDiff, Nat.reduceAdd, Int.reduceAdd, Int.reduceSub, Int.reduceMul, Int.reduceNeg, Int.reduceLT, Int.reduceLE, Int.reduceEq, Int.min_eq_right (Int.le_of_lt q)]
  · simp (disch := first | omega | assumption | exact b01_rng _ | exact st_5 | exact st_12 | exact st_19 | (simp only [isSt_sI, isSt_sJ, isSt_sF, isSt_sG, isSt_sA]; assumption)) only [↓B273_0, ↓B273_5, ↓B273_9, ↓B273_10, i_lit, i_add, i_sub, i_mul, i_neg, i_lt, i_le, i_eq, i32_gI, i64_gJ, i32_id, i32_to, i64_to, sI_i32, sJ_i64, b01_t, b01_f, i32_b01, b01_0, ↓a_s0, ↓n_s0, ↓a_s1, ↓n_s1, Int.add_zero, t_lt, f_lt, t_le, f_le, t_eq, f_eq, true_and, and_true, false_and, and_false, and_self, ↓reduceIte, z_bool_of, or_true, true_or, or_false, false_or, Int.neg_neg, not_true_eq_false, not_false_eq_true, lg_lt, lg_le, lg_gt, lg_ge, lg_eq, j_lit, j_add, j_sub, j_mul, j_neg, j_eq, i64_id, ij, ji, z_rt, Nat.reduceEqDiff, Nat.reduceAdd, Int.reduceAdd, Int.reduceSub, Int.reduceMul, Int.reduceNeg, Int.reduceLT, Int.reduceLE, Int.reduceEq, Int.min_eq_left (show x ≤ y by omega)]
theorem c273 {X : zX} {d : Nat} (hd : 0 < d) {S : zS} (x y : Int) (h1 : r32 x) (h2 : r32 y) {cm cp : Nat} {L : zL} {st : List Value} : z_evc X d 273 [.int (Int32.ofInt x), .int (Int32.ofInt y)] (cm, cp, L, st, mk S) = z_ev X d (cm, cp, L, .int (Int32.ofInt (min x y)) :: st, mk S) := z_evc_of (r := (some (.int (Int32.ofInt (min x y))), mk S)) (ck := (cm, cp, L, st, mk S)) hd (e273 (X := X) (Nat.le_refl _) x y h1 h2)
theorem e86 {X : zX} {d : Nat} (hd : 0 ≤ d) {S : zS} (c : Int) (h1 : r32 c) : z_ev X d (z_entry 86 [.int (Int32.ofInt c)] (mk S)) = some (some (.int (Int32.ofInt (b01 (97 ≤ c ∧ c ≤ 122)))), mk S) := by
  show z_ev X d (86, 0, [some (.int (Int32.ofInt c))], [], mk S) = _
  by_cases q1 : 97 ≤ c
  · by_cases q2 : c ≤ 122
    · simp (disch := first | omega | assumption | exact b01_rng _ | exact st_5 | exact st_12 | exact st_19 | (simp only [isSt_sI, isSt_sJ, isSt_sF, isSt_sG, isSt_sA]; assumption)) only [↓B86_0, ↓B86_6, ↓B86_12, ↓B86_16, ↓B86_17, i_lit, i_add, i_sub, i_mul, i_neg, i_lt, i_le, i_eq, i32_gI, i64_gJ, i32_id, i32_to, i64_to, sI_i32, sJ_i64, b01_t, b01_f, i32_b01, b01_0, ↓a_s0, ↓n_s0, ↓a_s1, ↓n_s1, Int.add_zero, t_lt, f_lt, t_le, f_le, t_eq, f_eq, true_and, and_true, false_and, and_false, and_self, ↓reduceIte, z_bool_of, or_true, true_or, or_false, false_or, Int.neg_neg, not_true_eq_false, not_false_eq_true, lg_lt, lg_le, lg_gt, lg_ge, lg_eq, j_lit, j_add, j_sub, j_mul, j_neg, j_eq, i64_id, ij, ji, z_rt, Nat.reduceEqDiff, Nat.reduceAdd, Int.reduceAdd, Int.reduceSub, Int.reduceMul, Int.reduceNeg, Int.reduceLT, Int.reduceLE, Int.reduceEq]
    · simp (disch := first | omega | assumption | exact b01_rng _ | exact st_5 | exact st_12 | exact st_19 | (simp only [isSt_sI, isSt_sJ, isSt_sF, isSt_sG, isSt_sA]; assumption)) only [↓B86_0, ↓B86_6, ↓B86_12, ↓B86_16, ↓B86_17, i_lit, i_add, i_sub, i_mul, i_neg, i_lt, i_le, i_eq, i32_gI, i64_gJ, i32_id, i32_to, i64_to, sI_i32, sJ_i64, b01_t, b01_f, i32_b01, b01_0, ↓a_s0, ↓n_s0, ↓a_s1, ↓n_s1, Int.add_zero, t_lt, f_lt, t_le, f_le, t_eq, f_eq, true_and, and_true, false_and, and_false, and_self, ↓reduceIte, z_bool_of, or_true, true_or, or_false, false_or, Int.neg_neg, not_true_eq_false, not_false_eq_true, lg_lt, lg_le, lg_gt, lg_ge, lg_eq, j_lit, j_add, j_sub, j_mul, j_neg, j_eq, i64_id, ij, ji, z_rt, Nat.reduceEqDiff, Nat.reduceAdd, Int.reduceAdd, Int.reduceSub, Int.reduceMul, Int.reduceNeg, Int.reduceLT, Int.reduceLE, Int.reduceEq]
  · simp (disch := first | omega | assumption | exact b01_rng _ | exact st_5 | exact st_12 | exact st_19 | (simp only [isSt_sI, isSt_sJ, isSt_sF, isSt_sG, isSt_sA]; assumption)) only [↓B86_0, ↓B86_6, ↓B86_12, ↓B86_16, ↓B86_17, i_lit, i_add, i_sub, i_mul, i_neg, i_lt, i_le, i_eq, i32_gI, i64_gJ, i32_id, i32_to, i64_to, sI_i32, sJ_i64, b01_t, b01_f, i32_b01, b01_0, ↓a_s0, ↓n_s0, ↓a_s1, ↓n_s1, Int.add_zero, t_lt, f_lt, t_le, f_le, t_eq, f_eq, true_and, and_true, false_and, and_false, and_self, ↓reduceIte, z_bool_of, or_true, true_or, or_false, false_or, Int.neg_neg, not_true_eq_false, not_false_eq_true, lg_lt, lg_le, lg_gt, lg_ge, lg_eq, j_lit, j_add, j_sub, j_mul, j_neg, j_eq, i64_id, ij, ji, z_rt, Nat.reduceEqDiff, Nat.reduceAdd, Int.reduceAdd, Int.reduceSub, Int.reduceMul, Int.reduceNeg, Int.reduceLT, Int.reduceLE, Int.reduceEq]
theorem c86 {X : zX} {d : Nat} (hd : 0 < d) {S : zS} (c : Int) (h1 : r32 c) {cm cp : Nat} {L : zL} {st : List Value} : z_evc X d 86 [.int (Int32.ofInt c)] (cm, cp, L, st, mk S) = z_ev X d (cm, cp, L, .int (Int32.ofInt (b01 (97 ≤ c ∧ c ≤ 122))) :: st, mk S) := z_evc_of (r := (some (.int (Int32.ofInt (b01 (97 ≤ c ∧ c ≤ 122)))), mk S)) (ck := (cm, cp, L, st, mk S)) hd (e86 (X := X) (Nat.le_refl _) c h1)
theorem e87 {X : zX} {d : Nat} (hd : 0 ≤ d) {S : zS} (c : Int) (h1 : r32 c) : z_ev X d (z_entry 87 [.int (Int32.ofInt c)] (mk S)) = some (some (.int (Int32.ofInt (b01 (48 ≤ c ∧ c ≤ 57)))), mk S) := by
  show z_ev X d (87, 0, [some (.int (Int32.ofInt c))], [], mk S) = _
  by_cases q1 : 48 ≤ c
  · by_cases q2 : c ≤ 57
    · simp (disch := first | omega | assumption | exact b01_rng _ | exact st_5 | exact st_12 | exact st_19 | (simp only [isSt_sI, isSt_sJ, isSt_sF, isSt_sG, isSt_sA]; assumption)) only [↓B87_0, ↓B87_6, ↓B87_12, ↓B87_16, ↓B87_17, i_lit, i_add, i_sub, i_mul, i_neg, i_lt, i_le, i_eq, i32_gI, i64_gJ, i32_id, i32_to, i64_to, sI_i32, sJ_i64, b01_t, b01_f, i32_b01, b01_0, ↓a_s0, ↓n_s0, ↓a_s1, ↓n_s1, Int.add_zero, t_lt, f_lt, t_le, f_le, t_eq, f_eq, true_and, and_true, false_and, and_false, and_self, ↓reduceIte, z_bool_of, or_true, true_or, or_false, false_or, Int.neg_neg, not_true_eq_false, not_false_eq_true, lg_lt, lg_le, lg_gt, lg_ge, lg_eq, j_lit, j_add, j_sub, j_mul, j_neg, j_eq, i64_id, ij, ji, z_rt, Nat.reduceEqDiff, Nat.reduceAdd, Int.reduceAdd, Int.reduceSub, Int.reduceMul, Int.reduceNeg, Int.reduceLT, Int.reduceLE, Int.reduceEq]
    · simp (disch := first | omega | assumption | exact b01_rng _ | exact st_5 | exact st_12 | exact st_19 | (simp only [isSt_sI, isSt_sJ, isSt_sF, isSt_sG, isSt_sA]; assumption)) only [↓B87_0, ↓B87_6, ↓B87_12, ↓B87_16, ↓B87_17, i_lit, i_add, i_sub, i_mul, i_neg, i_lt, i_le, i_eq, i32_gI, i64_gJ, i32_id, i32_to, i64_to, sI_i32, sJ_i64, b01_t, b01_f, i32_b01, b01_0, ↓a_s0, ↓n_s0, ↓a_s1, ↓n_s1, Int.add_zero, t_lt, f_lt, t_le, f_le, t_eq, f_eq, true_and, and_true, false_and, and_false, and_self, ↓reduceIte, z_bool_of, or_true, true_or, or_false, false_or, Int.neg_neg, not_true_eq_false, not_false_eq_true, lg_lt, lg_le, lg_gt, lg_ge, lg_eq, j_lit, j_add, j_sub, j_mul, j_neg, j_eq, i64_id, ij, ji, z_rt, Nat.reduceEqDiff, Nat.reduceAdd, Int.reduceAdd, Int.reduceSub, Int.reduceMul, Int.reduceNeg, Int.reduceLT, Int.reduceLE, Int.reduceEq]
  · simp (disch := first | omega | assumption | exact b01_rng _ | exact st_5 | exact st_12 | exact st_19 | (simp only [isSt_sI, isSt_sJ, isSt_sF, isSt_sG, isSt_sA]; assumption)) only [↓B87_0, ↓B87_6, ↓B87_12, ↓B87_16, ↓B87_17, i_lit, i_add, i_sub, i_mul, i_neg, i_lt, i_le, i_eq, i32_gI, i64_gJ, i32_id, i32_to, i64_to, sI_i32, sJ_i64, b01_t, b01_f, i32_b01, b01_0, ↓a_s0, ↓n_s0, ↓a_s1, ↓n_s1, Int.add_zero, t_lt, f_lt, t_le, f_le, t_eq, f_eq, true_and, and_true, false_and, and_false, and_self, ↓reduceIte, z_bool_of, or_true, true_or, or_false, false_or, Int.neg_neg, not_true_eq_false, not_false_eq_true, lg_lt, lg_le, lg_gt, lg_ge, lg_eq, j_lit, j_add, j_sub, j_mul, j_neg, j_eq, i64_id, ij, ji, z_rt, Nat.reduceEqDiff, Nat.reduceAdd, Int.reduceAdd, Int.reduceSub, Int.reduceMul, Int.reduceNeg, Int.reduceLT, Int.reduceLE, Int.reduceEq]
theorem c87 {X : zX} {d : Nat} (hd : 0 < d) {S : zS} (c : Int) (h1 : r32 c) {cm cp : Nat} {L : zL} {st : List Value} : z_evc X d 87 [.int (Int32.ofInt c)] (cm, cp, L, st, mk S) = z_ev X d (cm, cp, L, .int (Int32.ofInt (b01 (48 ≤ c ∧ c ≤ 57))) :: st, mk S) := z_evc_of (r := (some (.int (Int32.ofInt (b01 (48 ≤ c ∧ c ≤ 57)))), mk S)) (ck := (cm, cp, L, st, mk S)) hd (e87 (X := X) (Nat.le_refl _) c h1)
theorem l88 {X : zX} {d : Nat} (hd : 1 ≤ d) {S : zS} {n : Int} (hn : gI S 35 1 = n) (hn2 : n ≤ 400) (hb : ∀ i, 0 ≤ i → i < n → 0 ≤ gI S 36 i ∧ gI S 36 i ≤ 255) {v1 : Int32} {l : Int} (hl : l = 0 ∨ l = 1) : ∀ (m : Nat) (i : Int), (n - i).toNat = m → 0 ≤ i → i ≤ n → z_ev X d (88, 32, [some (.ref 35), some (.int v1), some (.int (Int32.ofInt l)), some (.int (Int32.ofInt i))], [], mk S) = some (some (.int (Int32.ofInt (if l = 1 then run isL (gI S 36) n i else run isD (gI S 36) n i))), mk S) := by
  intro m
  induction m with
  | zero =>
    intro i h h0 h1
    rw [B88_32, run_f (p := isL) (Or.inl (by omega)), run_f (p := isD) (Or.inl (by omega))]
    simp (disch := first | omega | assumption | exact b01_rng _ | exact st_5 | exact st_12 | exact st_19 | (simp only [isSt_sI, isSt_sJ, isSt_sF, isSt_sG, isSt_sA]; assumption)) only [↓B88_75, ↓o_35, ↓r_35_1, i_lit, i_add, i_sub, i_mul, i_neg, i_lt, i_le, i_eq, i32_gI, i64_gJ, i32_id, i32_to, i64_to, sI_i32, sJ_i64, b01_t, b01_f, i32_b01, b01_0, ↓a_s0, ↓n_s0, ↓a_s1, ↓n_s1, Int.add_zero, t_lt, f_lt, t_le, f_le, t_eq, f_eq, true_and, and_true, false_and, and_false, and_self, ↓reduceIte, z_bool_of, or_true, true_or, or_false, false_or, Int.neg_neg, not_true_eq_false, not_false_eq_true, lg_lt, lg_le, lg_gt, lg_ge, lg_eq, j_lit, j_add, j_sub, j_mul, j_neg, j_eq, i64_id, ij, ji, z_rt, Nat.reduceEqDiff, Nat.reduceAdd, Int.reduceAdd, Int.reduceSub, Int.reduceMul, Int.reduceNeg, Int.reduceLT, Int.reduceLE, Int.reduceEq, hn]
    split <;> rfl
  | succ m ih =>
    intro i h h0 h1
    have e := hb i h0 (by omega)
    rw [B88_32]
    rcases hl with rfl | rfl
    · by_cases q : 48 ≤ gI S 36 i ∧ gI S 36 i ≤ 57
      · have hr := run_t (p := isD) (b := gI S 36) (n := n) (i := i) (by omega) q
        have := ih (i + 1) (by omega) (by omega) (by omega)
        simp only [show ((0 : Int) = 1) = False from eq_false (by omega), if_false] at this ⊢
        simp (disch := first | omega | assumption | exact b01_rng _ | exact st_5 | exact st_12 | exact st_19 | (simp only [isSt_sI, isSt_sJ, isSt_sF, isSt_sG, isSt_sA]; assumption)) only [↓B88_40, ↓B88_58, ↓B88_63, ↓B88_66, ↓B88_69, ↓o_35, ↓r_35_1, c82a, c87, i_lit, i_add, i_sub, i_mul, i_neg, i_lt, i_le, i_eq, i32_gI, i64_gJ, i32_id, i32_to, i64_to, sI_i32, sJ_i64, b01_t, b01_f, i32_b01, b01_0, ↓a_s0, ↓n_s0, ↓a_s1, ↓n_s1, Int.add_zero, t_lt, f_lt, t_le, f_le, t_eq, f_eq, true_and, and_true, false_and, and_false, and_self, ↓reduceIte, z_bool_of, or_true, true_or, or_false, false_or, Int.neg_neg, not_true_eq_false, not_false_eq_true, lg_lt, lg_le, lg_gt, lg_ge, lg_eq, j_lit, j_add, j_sub, j_mul, j_neg, j_eq, i64_id, ij, ji, z_rt, Nat.reduceEqDiff, Nat.reduceAdd, Int.reduceAdd, Int.reduceSub, Int.reduceMul, Int.reduceNeg, Int.reduceLT, Int.reduceLE, Int.reduceEq, hn]
        rw [this, hr]
      · have hr := run_f (p := isD) (b := gI S 36) (n := n) (i := i) (Or.inr q)
        simp only [show ((0 : Int) = 1) = False from eq_false (by omega), if_false]
        simp (disch := first | omega | assumption | exact b01_rng _ | exact st_5 | exact st_12 | exact st_19 | (simp only [isSt_sI, isSt_sJ, isSt_sF, isSt_sG, isSt_sA]; assumption)) only [↓B88_40, ↓B88_58, ↓B88_63, ↓B88_66, ↓B88_69, ↓B88_75, ↓o_35, ↓r_35_1, c82a, c87, i_lit, i_add, i_sub, i_mul, i_neg, i_lt, i_le, i_eq, i32_gI, i64_gJ, i32_id, i32_to, i64_to, sI_i32, sJ_i64, b01_t, b01_f, i32_b01, b01_0, ↓a_s0, ↓n_s0, ↓a_s1, ↓n_s1, Int.add_zero, t_lt, f_lt, t_le, f_le, t_eq, f_eq, true_and, and_true, false_and, and_false, and_self, ↓reduceIte, z_bool_of, or_true, true_or, or_false, false_or, Int.neg_neg, not_true_eq_false, not_false_eq_true, lg_lt, lg_le, lg_gt, lg_ge, lg_eq, j_lit, j_add, j_sub, j_mul, j_neg, j_eq, i64_id, ij, ji, z_rt, Nat.reduceEqDiff, Nat.reduceAdd, Int.reduceAdd, Int.reduceSub, Int.reduceMul, Int.reduceNeg, Int.reduceLT, Int.reduceLE, Int.reduceEq, hn, q]
        rw [hr]
    · by_cases q : 97 ≤ gI S 36 i ∧ gI S 36 i ≤ 122
      · have hr := run_t (p := isL) (b := gI S 36) (n := n) (i := i) (by omega) q
        have := ih (i + 1) (by omega) (by omega) (by omega)
        simp only [if_true] at this ⊢
        simp (disch := first | omega | assumption | exact b01_rng _ | exact st_5 | exact st_12 | exact st_19 | (simp only [isSt_sI, isSt_sJ, isSt_sF, isSt_sG, isSt_sA]; assumption)) only [↓B88_40, ↓B88_44, ↓B88_49, ↓B88_52, ↓B88_55, ↓B88_69, ↓o_35, ↓r_35_1, c82a, c86, i_lit, i_add, i_sub, i_mul, i_neg, i_lt, i_le, i_eq, i32_gI, i64_gJ, i32_id, i32_to, i64_to, sI_i32, sJ_i64, b01_t, b01_f, i32_b01, b01_0, ↓a_s0, ↓n_s0, ↓a_s1, ↓n_s1, Int.add_zero, t_lt, f_lt, t_le, f_le, t_eq, f_eq, true_and, and_true, false_and, and_false, and_self, ↓reduceIte, z_bool_of, or_true, true_or, or_false, false_or, Int.neg_neg, not_true_eq_false, not_false_eq_true, lg_lt, lg_le, lg_gt, lg_ge, lg_eq, j_lit, j_add, j_sub, j_mul, j_neg, j_eq, i64_id, ij, ji, z_rt, Nat.reduceEqDiff, Nat.reduceAdd, Int.reduceAdd, Int.reduceSub, Int.reduceMul, Int.reduceNeg, Int.reduceLT, Int.reduceLE, Int.reduceEq, hn]
        rw [this, hr]
      · have hr := run_f (p := isL) (b := gI S 36) (n := n) (i := i) (Or.inr q)
        simp only [if_true]
        simp (disch := first | omega | assumption | exact b01_rng _ | exact st_5 | exact st_12 | exact st_19 | (simp only [isSt_sI, isSt_sJ, isSt_sF, isSt_sG, isSt_sA]; assumption)) only [↓B88_40, ↓B88_44, ↓B88_49, ↓B88_52, ↓B88_55, ↓B88_69, ↓B88_75, ↓o_35, ↓r_35_1, c82a, c86, i_lit, i_add, i_sub, i_mul, i_neg, i_lt, i_le, i_eq, i32_gI, i64_gJ, i32_id, i32_to, i64_to, sI_i32, sJ_i64, b01_t, b01_f, i32_b01, b01_0, ↓a_s0, ↓n_s0, ↓a_s1, ↓n_s1, Int.add_zero, t_lt, f_lt, t_le, f_le, t_eq, f_eq, true_and, and_true, false_and, and_false, and_self, ↓reduceIte, z_bool_of, or_true, true_or, or_false, false_or, Int.neg_neg, not_true_eq_false, not_false_eq_true, lg_lt, lg_le, lg_gt, lg_ge, lg_eq, j_lit, j_add, j_sub, j_mul, j_neg, j_eq, i64_id, ij, ji, z_rt, Nat.reduceEqDiff, Nat.reduceAdd, Int.reduceAdd, Int.reduceSub, Int.reduceMul, Int.reduceNeg, Int.reduceLT, Int.reduceLE, Int.reduceEq, hn, q]
        rw [hr]
theorem e88 {X : zX} {d : Nat} (hd : 1 ≤ d) {S : zS} (n i : Int) (hn : gI S 35 1 = n) (hn2 : n ≤ 400) (hb : ∀ i, 0 ≤ i → i < n → 0 ≤ gI S 36 i ∧ gI S 36 i ≤ 255) (hi : 0 ≤ i ∧ i < n) : z_ev X d (z_entry 88 [.ref 35, .int (Int32.ofInt i)] (mk S)) = some (some (.int (Int32.ofInt (tE (gI S 36) n i))), mk S) := by
  show z_ev X d (88, 0, [some (.ref 35), some (.int (Int32.ofInt i)), none, none], [], mk S) = _
  have e := hb i hi.1 hi.2
  unfold tE
  by_cases q : 97 ≤ gI S 36 i ∧ gI S 36 i ≤ 122
  · rw [if_pos (show isL (gI S 36 i) from q)]
    simp (disch := first | omega | assumption | exact b01_rng _ | exact st_5 | exact st_12 | exact st_19 | (simp only [isSt_sI, isSt_sJ, isSt_sF, isSt_sG, isSt_sA]; assumption)) only [↓B88_0, ↓B88_5, ↓B88_8, ↓B88_28, ↓o_35, ↓r_35_1, c82a, c86, i_lit, i_add, i_sub, i_mul, i_neg, i_lt, i_le, i_eq, i32_gI, i64_gJ, i32_id, i32_to, i64_to, sI_i32, sJ_i64, b01_t, b01_f, i32_b01, b01_0, ↓a_s0, ↓n_s0, ↓a_s1, ↓n_s1, Int.add_zero, t_lt, f_lt, t_le, f_le, t_eq, f_eq, true_and, and_true, false_and, and_false, and_self, ↓reduceIte, z_bool_of, or_true, true_or, or_false, false_or, Int.neg_neg, not_true_eq_false, not_false_eq_true, lg_lt, lg_le, lg_gt, lg_ge, lg_eq, j_lit, j_add, j_sub, j_mul, j_neg, j_eq, i64_id, ij, ji, z_rt, Nat.reduceEqDiff, Nat.reduceAdd, Int.reduceAdd, Int.reduceSub, Int.reduceMul, Int.reduceNeg, Int.reduceLT, Int.reduceLE, Int.reduceEq, hn]
    rw [l88 (by omega) hn hn2 hb (Or.inr rfl) _ (i + 1) rfl (by omega) (by omega), if_pos rfl]
  · rw [if_neg (show ¬ isL (gI S 36 i) from q)]
    by_cases q2 : 48 ≤ gI S 36 i ∧ gI S 36 i ≤ 57
    · rw [if_pos (show isD (gI S 36 i) from q2)]
      simp (disch := first | omega | assumption | exact b01_rng _ | exact st_5 | exact st_12 | exact st_19 | (simp only [isSt_sI, isSt_sJ, isSt_sF, isSt_sG, isSt_sA]; assumption)) only [↓B88_0, ↓B88_5, ↓B88_8, ↓B88_13, ↓B88_18, ↓B88_21, ↓B88_28, ↓o_35, ↓r_35_1, c82a, c86, c87, i_lit, i_add, i_sub, i_mul, i_neg, i_lt, i_le, i_eq, i32_gI, i64_gJ, i32_id, i32_to, i64_to, sI_i32, sJ_i64, b01_t, b01_f, i32_b01, b01_0, ↓a_s0, ↓n_s0, ↓a_s1, ↓n_s1, Int.add_zero, t_lt, f_lt, t_le, f_le, t_eq, f_eq, true_and, and_true, false_and, and_false, and_self, ↓reduceIte, z_bool_of, or_true, true_or, or_false, false_or, Int.neg_neg, not_true_eq_false, not_false_eq_true, lg_lt, lg_le, lg_gt, lg_ge, lg_eq, j_lit, j_add, j_sub, j_mul, j_neg, j_eq, i64_id, ij, ji, z_rt, Nat.reduceEqDiff, Nat.reduceAdd, Int.reduceAdd, Int.reduceSub, Int.reduceMul, Int.reduceNeg, Int.reduceLT, Int.reduceLE, Int.reduceEq, hn, q]
      rw [l88 (by omega) hn hn2 hb (Or.inl rfl) _ (i + 1) rfl (by omega) (by omega), if_neg (by omega)]
    · rw [if_neg (show ¬ isD (gI S 36 i) from q2)]
      simp (disch := first | omega | assumption | exact b01_rng _ | exact st_5 | exact st_12 | exact st_19 | (simp only [isSt_sI, isSt_sJ, isSt_sF, isSt_sG, isSt_sA]; assumption)) only [↓B88_0, ↓B88_5, ↓B88_8, ↓B88_13, ↓B88_18, ↓B88_21, ↓B88_24, ↓o_35, ↓r_35_1, c82a, c86, c87, i_lit, i_add, i_sub, i_mul, i_neg, i_lt, i_le, i_eq, i32_gI, i64_gJ, i32_id, i32_to, i64_to, sI_i32, sJ_i64, b01_t, b01_f, i32_b01, b01_0, ↓a_s0, ↓n_s0, ↓a_s1, ↓n_s1, Int.add_zero, t_lt, f_lt, t_le, f_le, t_eq, f_eq, true_and, and_true, false_and, and_false, and_self, ↓reduceIte, z_bool_of, or_true, true_or, or_false, false_or, Int.neg_neg, not_true_eq_false, not_false_eq_true, lg_lt, lg_le, lg_gt, lg_ge, lg_eq, j_lit, j_add, j_sub, j_mul, j_neg, j_eq, i64_id, ij, ji, z_rt, Nat.reduceEqDiff, Nat.reduceAdd, Int.reduceAdd, Int.reduceSub, Int.reduceMul, Int.reduceNeg, Int.reduceLT, Int.reduceLE, Int.reduceEq, hn, q, q2]

theorem c88 {X : zX} {d : Nat} (hd : 1 < d) {S : zS} (n i : Int) (hn : gI S 35 1 = n) (hn2 : n ≤ 400) (hb : ∀ i, 0 ≤ i → i < n → 0 ≤ gI S 36 i ∧ gI S 36 i ≤ 255) (hi : 0 ≤ i ∧ i < n) {cm cp : Nat} {L : zL} {st : List Value} : z_evc X d 88 [.ref 35, .int (Int32.ofInt i)] (cm, cp, L, st, mk S) = z_ev X d (cm, cp, L, .int (Int32.ofInt (tE (gI S 36) n i)) :: st, mk S) := z_evc_of (r := (some (.int (Int32.ofInt (tE (gI S 36) n i))), mk S)) (ck := (cm, cp, L, st, mk S)) hd (e88 (X := X) (Nat.le_refl _) n i hn hn2 hb hi)