/-! LANGUAGES of metres: rows of steps 0 long, 1 short, 2 any, 3 cut -/
abbrev Lg : Type := List Int → Prop
def l1 (s : Int) : Lg := fun w => w = [s]
def lnil : Lg := fun w => w = []
def lcat (A B : Lg) : Lg := fun w => ∃ u v, w = u ++ v ∧ A u ∧ B v
def lor (A B : Lg) : Lg := fun w => A w ∨ B w
/-- k times, one behind the other -/
def lpow (A : Lg) : Nat → Lg
  | 0 => lnil
  | k + 1 => lcat (lpow A k) A
theorem lcat_assoc (A B C : Lg) : lcat (lcat A B) C = lcat A (lcat B C) := by
  funext w
  apply propext
  constructor
  · rintro ⟨u, v, rfl, ⟨u1, u2, rfl, h1, h2⟩, h3⟩
    exact ⟨u1, u2 ++ v, by rw [List.append_assoc], h1, u2, v, rfl, h2, h3⟩
  · rintro ⟨u, v, rfl, h1, ⟨v1, v2, rfl, h2, h3⟩⟩
    exact ⟨u ++ v1, v2, by rw [List.append_assoc], ⟨u, v1, rfl, h1, h2⟩, h3⟩
theorem lcat_nil (A : Lg) : lcat A lnil = A := by
  funext w
  apply propext
  constructor
  · rintro ⟨u, v, rfl, h1, h2⟩
    have : v = [] := h2
    subst this
    rw [List.append_nil]; exact h1
  · intro h; exact ⟨w, [], by rw [List.append_nil], h, rfl⟩
theorem nil_lcat (A : Lg) : lcat lnil A = A := by
  funext w
  apply propext
  constructor
  · rintro ⟨u, v, rfl, h1, h2⟩
    have : u = [] := h1
    subst this
    exact h2
  · intro h; exact ⟨[], w, rfl, rfl, h⟩
theorem lcat_or (A B C : Lg) : lcat (lor A B) C = lor (lcat A C) (lcat B C) := by
  funext w
  apply propext
  constructor
  · rintro ⟨u, v, rfl, h1 | h1, h2⟩
    · exact Or.inl ⟨u, v, rfl, h1, h2⟩
    · exact Or.inr ⟨u, v, rfl, h1, h2⟩
  · rintro (⟨u, v, rfl, h1, h2⟩ | ⟨u, v, rfl, h1, h2⟩)
    · exact ⟨u, v, rfl, Or.inl h1, h2⟩
    · exact ⟨u, v, rfl, Or.inr h1, h2⟩
theorem lor_assoc (A B C : Lg) : lor (lor A B) C = lor A (lor B C) := by
  funext w; exact propext or_assoc
theorem lpow_1 (A : Lg) : lpow A 1 = A := nil_lcat A
theorem lpow_s (A : Lg) (k : Nat) : lcat A (lpow A k) = lpow A (k + 1) := by
  induction k with
  | zero => rw [lpow_1]; exact lcat_nil A
  | succ k ih =>
    show lcat A (lcat (lpow A k) A) = lcat (lpow A (k + 1)) A
    rw [← lcat_assoc, ih]
/-- one sign: a step, 4 then, 5 or, 6 + k so often -/
def dst (op : Int) (st : List Lg) : List Lg := if op < 4 then l1 op :: st else match st with
  | B :: A :: r => if op = 4 then lcat A B :: r else if op = 5 then lor A B :: r else lpow B (op - 6).toNat :: A :: r
  | [A] => if op < 6 then [A] else [lpow A (op - 6).toNat]
  | [] => []
def den (ops : List Int) (st : List Lg) : List Lg := ops.foldl (fun st op => dst op st) st
theorem den_app (a b : List Int) (st : List Lg) : den (a ++ b) st = den b (den a st) := by unfold den; rw [List.foldl_append]
/-- a row of signs tells a language -/
def Den (ops : List Int) (A : Lg) : Prop := ∀ st, den ops st = A :: st
theorem Den.step {s : Int} (h : s < 4) : Den [s] (l1 s) := fun st => by
  show dst s st = _
  unfold dst; rw [if_pos h]
theorem Den.cat {a b : List Int} {A B : Lg} (ha : Den a A) (hb : Den b B) : Den (a ++ b ++ [4]) (lcat A B) := fun st => by
  rw [den_app, den_app, ha, hb]; rfl
theorem Den.or {a b : List Int} {A B : Lg} (ha : Den a A) (hb : Den b B) : Den (a ++ b ++ [5]) (lor A B) := fun st => by
  rw [den_app, den_app, ha, hb]; rfl
theorem Den.often {a : List Int} {A : Lg} (ha : Den a A) {k : Int} (hk : 0 ≤ k) : Den (a ++ [6 + k]) (lpow A k.toNat) := fun st => by
  rw [den_app, ha]
  show dst (6 + k) (A :: st) = _
  unfold dst
  rw [if_neg (by omega)]
  cases st with
  | nil => simp only []; rw [if_neg (by omega), show 6 + k - 6 = k by omega]
  | cons B r => simp only []; rw [if_neg (by omega), if_neg (by omega), show 6 + k - 6 = k by omega]
theorem Den.uniq {a : List Int} {A B : Lg} (h1 : Den a A) (h2 : Den a B) : A = B := by
  have := h1 []
  rw [h2 []] at this
  exact (List.cons.inj this).1.symm
theorem e33 {X : zX} {d : Nat} (hd : 0 ≤ d) {S : zS} (c : Int) (h1 : r32 c) : z_ev X d (z_entry 33 [.int (Int32.ofInt c)] (mk S)) = some (some (.int (Int32.ofInt (b01 (256 ≤ c ∧ c ≤ 259)))), mk S) := by
  show z_ev X d (33, 0, [some (.int (Int32.ofInt c))], [], mk S) = _
  by_cases q1 : 256 ≤ c
  · by_cases q2 : c ≤ 259
    · simp (disch := first | omega | assumption | exact b01_rng _ | exact st_5 | exact st_12 | exact st_19 | (simp only [isSt_sI, isSt_sJ, isSt_sF, isSt_sG, isSt_sA]; assumption)) only [↓B33_0, ↓B33_7, ↓B33_14, ↓B33_18, ↓B33_19, i_lit, i_add, i_sub, i_mul, i_neg, i_lt, i_le, i_eq, i32_gI, i64_gJ, i32_id, i32_to, i64_to, sI_i32, sJ_i64, b01_t, b01_f, i32_b01, b01_0, ↓a_s0, ↓n_s0, ↓a_s1, ↓n_s1, Int.add_zero, t_lt, f_lt, t_le, f_le, t_eq, f_eq, true_and, and_true, false_and, and_false, and_self, ↓reduceIte, z_bool_of, or_true, true_or, or_false, false_or, Int.neg_neg, not_true_eq_false, not_false_eq_true, lg_lt, lg_le, lg_gt, lg_ge, lg_eq, j_lit, j_add, j_sub, j_mul, j_neg, j_eq, i64_id, ij, ji, z_rt, Nat.reduceEqDiff, Nat.reduceAdd, Int.reduceAdd, Int.reduceSub, Int.reduceMul, Int.reduceNeg, Int.reduceLT, Int.reduceLE, Int.reduceEq]
    · simp (disch := first | omega | assumption | exact b01_rng _ | exact st_5 | exact st_12 | exact st_19 | (simp only [isSt_sI, isSt_sJ, isSt_sF, isSt_sG, isSt_sA]; assumption)) only [↓B33_0, ↓B33_7, ↓B33_14, ↓B33_18, ↓B33_19, i_lit, i_add, i_sub, i_mul, i_neg, i_lt, i_le, i_eq, i32_gI, i64_gJ, i32_id, i32_to, i64_to, sI_i32, sJ_i64, b01_t, b01_f, i32_b01, b01_0, ↓a_s0, ↓n_s0, ↓a_s1, ↓n_s1, Int.add_zero, t_lt, f_lt, t_le, f_le, t_eq, f_eq, true_and, and_true, false_and, and_false, and_self, ↓reduceIte, z_bool_of, or_true, true_or, or_false, false_or, Int.neg_neg, not_true_eq_false, not_false_eq_true, lg_lt, lg_le, lg_gt, lg_ge, lg_eq, j_lit, j_add, j_sub, j_mul, j_neg, j_eq, i64_id, ij, ji, z_rt, Nat.reduceEqDiff, Nat.reduceAdd, Int.reduceAdd, Int.reduceSub, Int.reduceMul, Int.reduceNeg, Int.reduceLT, Int.reduceLE, Int.reduceEq]
  · simp (disch := first | omega | assumption | exact b01_rng _ | exact st_5 | exact st_12 | exact st_19 | (simp only [isSt_sI, isSt_sJ, isSt_sF, isSt_sG, isSt_sA]; assumption)) only [↓B33_0, ↓B33_7, ↓B33_14, ↓B33_18, ↓B33_19, i_lit, i_add, i_sub, i_mul, i_neg, i_lt, i_le, i_eq, i32_gI, i64_gJ, i32_id, i32_to, i64_to, sI_i32, sJ_i64, b01_t, b01_f, i32_b01, b01_0, ↓a_s0, ↓n_s0, ↓a_s1, ↓n_s1, Int.add_zero, t_lt, f_lt, t_le, f_le, t_eq, f_eq, true_and, and_true, false_and, and_false, and_self, ↓reduceIte, z_bool_of, or_true, true_or, or_false, false_or, Int.neg_neg, not_true_eq_false, not_false_eq_true, lg_lt, lg_le, lg_gt, lg_ge, lg_eq, j_lit, j_add, j_sub, j_mul, j_neg, j_eq, i64_id, ij, ji, z_rt, Nat.reduceEqDiff, Nat.reduceAdd, Int.reduceAdd, Int.reduceSub, Int.reduceMul, Int.reduceNeg, Int.reduceLT, Int.reduceLE, Int.reduceEq]
theorem c33 {X : zX} {d : Nat} (hd : 0 < d) {S : zS} (c : Int) (h1 : r32 c) {cm cp : Nat} {L : zL} {st : List Value} : z_evc X d 33 [.int (Int32.ofInt c)] (cm, cp, L, st, mk S) = z_ev X d (cm, cp, L, .int (Int32.ofInt (b01 (256 ≤ c ∧ c ≤ 259))) :: st, mk S) := z_evc_of (r := (some (.int (Int32.ofInt (b01 (256 ≤ c ∧ c ≤ 259)))), mk S)) (ck := (cm, cp, L, st, mk S)) hd (e33 (X := X) (Nat.le_refl _) c h1)
theorem e34 {X : zX} {d : Nat} (hd : 1 ≤ d) {S : zS} (c : Int) (h1 : r32 c) : z_ev X d (z_entry 34 [.int (Int32.ofInt c)] (mk S)) = some (some (.int (Int32.ofInt (b01 (c = 40 ∨ 256 ≤ c ∧ c ≤ 259)))), mk S) := by
  show z_ev X d (34, 0, [some (.int (Int32.ofInt c))], [], mk S) = _
  by_cases q0 : c = 40
  · simp (disch := first | omega | assumption | exact b01_rng _ | exact st_5 | exact st_12 | exact st_19 | (simp only [isSt_sI, isSt_sJ, isSt_sF, isSt_sG, isSt_sA]; assumption)) only [↓B34_0, ↓B34_6, ↓B34_10, ↓B34_13, ↓B34_17, ↓B34_18, i_lit, i_add, i_sub, i_mul, i_neg, i_lt, i_le, i_eq, i32_gI, i64_gJ, i32_id, i32_to, i64_to, sI_i32, sJ_i64, b01_t, b01_f, i32_b01, b01_0, ↓a_s0, ↓n_s0, ↓a_s1, ↓n_s1, Int.add_zero, t_lt, f_lt, t_le, f_le, t_eq, f_eq, true_and, and_true, false_and, and_false, and_self, ↓reduceIte, z_bool_of, or_true, true_or, or_false, false_or, Int.neg_neg, not_true_eq_false, not_false_eq_true, lg_lt, lg_le, lg_gt, lg_ge, lg_eq, j_lit, j_add, j_sub, j_mul, j_neg, j_eq, i64_id, ij, ji, z_rt, Nat.reduceEqDiff, Nat.reduceAdd, Int.reduceAdd, Int.reduceSub, Int.reduceMul, Int.reduceNeg, Int.reduceLT, Int.reduceLE, Int.reduceEq]
  · by_cases q : 256 ≤ c ∧ c ≤ 259
    · simp (disch := first | omega | assumption | exact b01_rng _ | exact st_5 | exact st_12 | exact st_19 | (simp only [isSt_sI, isSt_sJ, isSt_sF, isSt_sG, isSt_sA]; assumption)) only [↓B34_0, ↓B34_6, ↓B34_10, ↓B34_13, ↓B34_17, ↓B34_18, c33, i_lit, i_add, i_sub, i_mul, i_neg, i_lt, i_le, i_eq, i32_gI, i64_gJ, i32_id, i32_to, i64_to, sI_i32, sJ_i64, b01_t, b01_f, i32_b01, b01_0, ↓a_s0, ↓n_s0, ↓a_s1, ↓n_s1, Int.add_zero, t_lt, f_lt, t_le, f_le, t_eq, f_eq, true_and, and_true, false_and, and_false, and_self, ↓reduceIte, z_bool_of, or_true, true_or, or_false, false_or, Int.neg_neg, not_true_eq_false, not_false_eq_true, lg_lt, lg_le, lg_gt, lg_ge, lg_eq, j_lit, j_add, j_sub, j_mul, j_neg, j_eq, i64_id, ij, ji, z_rt, Nat.reduceEqDiff, Nat.reduceAdd, Int.reduceAdd, Int.reduceSub, Int.reduceMul, Int.reduceNeg, Int.reduceLT, Int.reduceLE, Int.reduceEq]
    · simp (disch := first | omega | assumption | exact b01_rng _ | exact st_5 | exact st_12 | exact st_19 | (simp only [isSt_sI, isSt_sJ, isSt_sF, isSt_sG, isSt_sA]; assumption)) only [↓B34_0, ↓B34_6, ↓B34_10, ↓B34_13, ↓B34_17, ↓B34_18, c33, i_lit, i_add, i_sub, i_mul, i_neg, i_lt, i_le, i_eq, i32_gI, i64_gJ, i32_id, i32_to, i64_to, sI_i32, sJ_i64, b01_t, b01_f, i32_b01, b01_0, ↓a_s0, ↓n_s0, ↓a_s1, ↓n_s1, Int.add_zero, t_lt, f_lt, t_le, f_le, t_eq, f_eq, true_and, and_true, false_and, and_false, and_self, ↓reduceIte, z_bool_of, or_true, true_or, or_false, false_or, Int.neg_neg, not_true_eq_false, not_false_eq_true, lg_lt, lg_le, lg_gt, lg_ge, lg_eq, j_lit, j_add, j_sub, j_mul, j_neg, j_eq, i64_id, ij, ji, z_rt, Nat.reduceEqDiff, Nat.reduceAdd, Int.reduceAdd, Int.reduceSub, Int.reduceMul, Int.reduceNeg, Int.reduceLT, Int.reduceLE, Int.reduceEq, q]
theorem c34 {X : zX} {d : Nat} (hd : 1 < d) {S : zS} (c : Int) (h1 : r32 c) {cm cp : Nat} {L : zL} {st : List Value} : z_evc X d 34 [.int (Int32.ofInt c)] (cm, cp, L, st, mk S) = z_ev X d (cm, cp, L, .int (Int32.ofInt (b01 (c = 40 ∨ 256 ≤ c ∧ c ≤ 259))) :: st, mk S) := z_evc_of (r := (some (.int (Int32.ofInt (b01 (c = 40 ∨ 256 ≤ c ∧ c ≤ 259)))), mk S)) (ck := (cm, cp, L, st, mk S)) hd (e34 (X := X) (Nat.le_refl _) c h1)
theorem zar_put {S : zS} {a : Nat} (h : 42 ≤ a ∧ a ≤ 46) : zdes S a = some (.inr (0, 402)) := by
  rcases (show a = 42 ∨ a = 43 ∨ a = 44 ∨ a = 45 ∨ a = 46 by omega) with rfl | rfl | rfl | rfl | rfl <;> rfl
theorem e39 {X : zX} {d : Nat} (hd : 0 ≤ d) {S : zS} (a : Nat) (i x : Int) (ha : 42 ≤ a ∧ a ≤ 46) (hi : 0 ≤ i ∧ i < 402) (hx : r32 x) : z_ev X d (z_entry 39 [.ref a, .int (Int32.ofInt i), .int (Int32.ofInt x)] (mk S)) = some (none, mk (sI S a i x)) := by
  show z_ev X d (39, 0, [some (.ref a), some (.int (Int32.ofInt i)), some (.int (Int32.ofInt x))], [], mk S) = _
  simp (disch := first | omega | assumption | exact b01_rng _ | exact st_5 | exact st_12 | exact st_19 | (simp only [isSt_sI, isSt_sJ, isSt_sF, isSt_sG, isSt_sA]; assumption)) only [↓B39_0, ↓B39_4, ↓B39_10, ↓B39_14, i_lit, i_add, i_sub, i_mul, i_neg, i_lt, i_le, i_eq, i32_gI, i64_gJ, i32_id, i32_to, i64_to, sI_i32, sJ_i64, b01_t, b01_f, i32_b01, b01_0, ↓a_s0, ↓n_s0, ↓a_s1, ↓n_s1, Int.add_zero, t_lt, f_lt, t_le, f_le, t_eq, f_eq, true_and, and_true, false_and, and_false, and_self, ↓reduceIte, z_bool_of, or_true, true_or, or_false, false_or, Int.neg_neg, not_true_eq_false, not_false_eq_true, lg_lt, lg_le, lg_gt, lg_ge, lg_eq, j_lit, j_add, j_sub, j_mul, j_neg, j_eq, i64_id, ij, ji, z_rt, Nat.reduceEqDiff, Nat.reduceAdd, Int.reduceAdd, Int.reduceSub, Int.reduceMul, Int.reduceNeg, Int.reduceLT, Int.reduceLE, Int.reduceEq, ↓L_len (X := X) (show 4 ≤ a by omega) (show 0 < 6 by decide) (zar_put (S := S) ha), ↓G_ast (zar_put (S := S) ha)]

theorem c39 {X : zX} {d : Nat} (hd : 0 < d) {S : zS} (a : Nat) (i x : Int) (ha : 42 ≤ a ∧ a ≤ 46) (hi : 0 ≤ i ∧ i < 402) (hx : r32 x) {cm cp : Nat} {L : zL} {st : List Value} : z_evc X d 39 [.ref a, .int (Int32.ofInt i), .int (Int32.ofInt x)] (cm, cp, L, st, mk S) = z_ev X d (cm, cp, L, st, mk (sI S a i x)) := z_evc_of (r := (none, mk (sI S a i x))) (ck := (cm, cp, L, st, mk S)) hd (e39 (X := X) (Nat.le_refl _) a i x ha hi hx)