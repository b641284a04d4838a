/-! the class writes its graph: out of what was read, whatever was written ahead -/
def FrW (S S' : zS) : Prop := Dyn S S' ∧ (∀ a i, ¬ (47 ≤ a ∧ a ≤ 51) → ¬ (a = 41 ∧ i = 10) → gI S' a i = gI S a i) ∧ (∀ a i, gJ S' a i = gJ S a i) ∧ (∀ a i, gQ S' a i = gQ S a i)
theorem FrW.rf {S : zS} : FrW S S := ⟨Dyn.rf, fun _ _ _ _ => rfl, fun _ _ => rfl, fun _ _ => rfl⟩
theorem FrW.tr {A B C : zS} (h1 : FrW A B) (h2 : FrW B C) : FrW A C := ⟨h1.1.tr h2.1, fun a i q1 q2 => (h2.2.1 a i q1 q2).trans (h1.2.1 a i q1 q2), fun a i => (h2.2.2.1 a i).trans (h1.2.2.1 a i), fun a i => (h2.2.2.2 a i).trans (h1.2.2.2 a i)⟩
theorem FrW.node {S : zS} {m k nx ot lo hi : Int} : FrW S (nodeS S m k nx ot lo hi) := by
  unfold nodeS
  refine ⟨by (repeat (first | exact Dyn.rf | refine Dyn.sI (by decide) ?_ | refine Dyn.sF (by decide) ?_ | refine Dyn.sJ ?_ | refine Dyn.sG ?_ | refine Dyn.sQ (by decide) ?_)), fun a i q1 q2 => ?_, fun _ _ => rfl, fun _ _ => rfl⟩
  (repeat (first | rw [gI_sI, if_neg (by omega)] | rw [gI_sF, if_neg (by omega)] | rw [gI_sJ] | rw [gI_sG] | rw [gI_sQ]))
/-- a node more -/
theorem G.add {S : zS} {m : Nat} {F : Nat → Lg} {k nx ot lo hi : Int} {A : Lg} (h : G S m F) (hm : m < 400) (hk : r32 k) (hn : r32 nx) (ho : r32 ot) (hlo : 0 ≤ lo ∧ lo ≤ m) (hhi : 0 ≤ hi ∧ hi ≤ m) (hN : ∀ k' nx' ot' : Int → Int, k' m = k → nx' m = nx → ot' m = ot → GN k' nx' ot' (Fup F m A) m) (h1 : LMin A lo) (h2 : LMax A hi) : G (nodeS S m k nx ot lo hi) (m + 1) (Fup F m A) := by
  obtain ⟨g1, g2, g3, g4, g5⟩ := h
  have r : ∀ (a : Nat) (j : Nat), j < m → 47 ≤ a ∧ a ≤ 51 → gI (nodeS S m k nx ot lo hi) a j = gI S a j := by
    intro a j hj ha
    unfold nodeS
    (repeat (first | rw [gI_sI, if_neg (by omega)] | rw [gI_sF, if_neg (by omega)] | rw [gI_sJ] | rw [gI_sG] | rw [gI_sQ]))
  have e47 : gI (nodeS S m k nx ot lo hi) 47 m = k := by unfold nodeS; simp (disch := first | omega | assumption | exact b01_rng _ | exact st_5 | exact st_12 | exact st_19 | (simp only [isSt_sI, isSt_sJ, isSt_sF, isSt_sG, isSt_sA]; assumption)) only [gI_sI, i_lit, i_add, i_sub, i_mul, i_neg, i_lt, i_le, i_eq, i32_gI, i64_gJ, i32_id, i32_to, i64_to, sI_i32, sJ_i64, b01_t, b01_f, i32_b01, b01_0, ↓a_s0, ↓n_s0, ↓a_s1, ↓n_s1, Int.add_zero, t_lt, f_lt, t_le, f_le, t_eq, f_eq, true_and, and_true, false_and, and_false, and_self, ↓reduceIte, z_bool_of, or_true, true_or, or_false, false_or, Int.neg_neg, not_true_eq_false, not_false_eq_true, lg_lt, lg_le, lg_gt, lg_ge, lg_eq, j_lit, j_add, j_sub, j_mul, j_neg, j_eq, i64_id, ij, ji, z_rt, Nat.reduceEqDiff, Nat.reduceAdd, Int.reduceAdd, Int.reduceSub, Int.reduceMul, Int.reduceNeg, Int.reduceLT, Int.reduceLE, Int.reduceEq]
  have e48 : gI (nodeS S m k nx ot lo hi) 48 m = nx := by unfold nodeS; simp (disch := first | omega | assumption | exact b01_rng _ | exact st_5 | exact st_12 | exact st_19 | (simp only [isSt_sI, isSt_sJ, isSt_sF, isSt_sG, isSt_sA]; assumption)) only [gI_sI, i_lit, i_add, i_sub, i_mul, i_neg, i_lt, i_le, i_eq, i32_gI, i64_gJ, i32_id, i32_to, i64_to, sI_i32, sJ_i64, b01_t, b01_f, i32_b01, b01_0, ↓a_s0, ↓n_s0, ↓a_s1, ↓n_s1, Int.add_zero, t_lt, f_lt, t_le, f_le, t_eq, f_eq, true_and, and_true, false_and, and_false, and_self, ↓reduceIte, z_bool_of, or_true, true_or, or_false, false_or, Int.neg_neg, not_true_eq_false, not_false_eq_true, lg_lt, lg_le, lg_gt, lg_ge, lg_eq, j_lit, j_add, j_sub, j_mul, j_neg, j_eq, i64_id, ij, ji, z_rt, Nat.reduceEqDiff, Nat.reduceAdd, Int.reduceAdd, Int.reduceSub, Int.reduceMul, Int.reduceNeg, Int.reduceLT, Int.reduceLE, Int.reduceEq]
  have e49 : gI (nodeS S m k nx ot lo hi) 49 m = ot := by unfold nodeS; simp (disch := first | omega | assumption | exact b01_rng _ | exact st_5 | exact st_12 | exact st_19 | (simp only [isSt_sI, isSt_sJ, isSt_sF, isSt_sG, isSt_sA]; assumption)) only [gI_sI, i_lit, i_add, i_sub, i_mul, i_neg, i_lt, i_le, i_eq, i32_gI, i64_gJ, i32_id, i32_to, i64_to, sI_i32, sJ_i64, b01_t, b01_f, i32_b01, b01_0, ↓a_s0, ↓n_s0, ↓a_s1, ↓n_s1, Int.add_zero, t_lt, f_lt, t_le, f_le, t_eq, f_eq, true_and, and_true, false_and, and_false, and_self, ↓reduceIte, z_bool_of, or_true, true_or, or_false, false_or, Int.neg_neg, not_true_eq_false, not_false_eq_true, lg_lt, lg_le, lg_gt, lg_ge, lg_eq, j_lit, j_add, j_sub, j_mul, j_neg, j_eq, i64_id, ij, ji, z_rt, Nat.reduceEqDiff, Nat.reduceAdd, Int.reduceAdd, Int.reduceSub, Int.reduceMul, Int.reduceNeg, Int.reduceLT, Int.reduceLE, Int.reduceEq]
  have e50 : gI (nodeS S m k nx ot lo hi) 50 m = lo := by unfold nodeS; simp (disch := first | omega | assumption | exact b01_rng _ | exact st_5 | exact st_12 | exact st_19 | (simp only [isSt_sI, isSt_sJ, isSt_sF, isSt_sG, isSt_sA]; assumption)) only [gI_sI, i_lit, i_add, i_sub, i_mul, i_neg, i_lt, i_le, i_eq, i32_gI, i64_gJ, i32_id, i32_to, i64_to, sI_i32, sJ_i64, b01_t, b01_f, i32_b01, b01_0, ↓a_s0, ↓n_s0, ↓a_s1, ↓n_s1, Int.add_zero, t_lt, f_lt, t_le, f_le, t_eq, f_eq, true_and, and_true, false_and, and_false, and_self, ↓reduceIte, z_bool_of, or_true, true_or, or_false, false_or, Int.neg_neg, not_true_eq_false, not_false_eq_true, lg_lt, lg_le, lg_gt, lg_ge, lg_eq, j_lit, j_add, j_sub, j_mul, j_neg, j_eq, i64_id, ij, ji, z_rt, Nat.reduceEqDiff, Nat.reduceAdd, Int.reduceAdd, Int.reduceSub, Int.reduceMul, Int.reduceNeg, Int.reduceLT, Int.reduceLE, Int.reduceEq]
  have e51 : gI (nodeS S m k nx ot lo hi) 51 m = hi := by unfold nodeS; simp (disch := first | omega | assumption | exact b01_rng _ | exact st_5 | exact st_12 | exact st_19 | (simp only [isSt_sI, isSt_sJ, isSt_sF, isSt_sG, isSt_sA]; assumption)) only [gI_sI, i_lit, i_add, i_sub, i_mul, i_neg, i_lt, i_le, i_eq, i32_gI, i64_gJ, i32_id, i32_to, i64_to, sI_i32, sJ_i64, b01_t, b01_f, i32_b01, b01_0, ↓a_s0, ↓n_s0, ↓a_s1, ↓n_s1, Int.add_zero, t_lt, f_lt, t_le, f_le, t_eq, f_eq, true_and, and_true, false_and, and_false, and_self, ↓reduceIte, z_bool_of, or_true, true_or, or_false, false_or, Int.neg_neg, not_true_eq_false, not_false_eq_true, lg_lt, lg_le, lg_gt, lg_ge, lg_eq, j_lit, j_add, j_sub, j_mul, j_neg, j_eq, i64_id, ij, ji, z_rt, Nat.reduceEqDiff, Nat.reduceAdd, Int.reduceAdd, Int.reduceSub, Int.reduceMul, Int.reduceNeg, Int.reduceLT, Int.reduceLE, Int.reduceEq]
  refine ⟨?_, by omega, by omega, fun j hj => ?_, fun j hj => ?_⟩
  · unfold nodeS; rw [gI_sI, if_pos ⟨rfl, rfl⟩, i32_id (by omega) (by omega)]; omega
  · by_cases q : j = m
    · subst q; exact hN _ _ _ e47 e48 e49
    · exact (g4.fr (fun j hj => r 47 j hj (by omega)) (fun j hj => r 48 j hj (by omega)) (fun j hj => r 49 j hj (by omega)) (fun j hj => Fup_lt hj)) j (by omega)
  · by_cases q : j = m
    · subst q; rw [e50, e51, Fup_at]; exact ⟨h1, h2, by omega, by omega, by omega, by omega⟩
    · rw [r 50 j (by omega) (by omega), r 51 j (by omega) (by omega), Fup_lt (by omega)]; exact g5 j (by omega)
/-- what comes of writing: nodes up to m', the last one begins -/
def WRes (r : Option (Option Value × zM)) (S : zS) (m : Nat) (F : Nat → Lg) (q : Nat) (L : Lg) : Prop := ∃ (S' : zS) (m' : Nat) (F' : Nat → Lg), r = some (some (.int (Int32.ofInt ((m' : Int) - 1))), mk S') ∧ G S' m' F' ∧ m < m' ∧ m' ≤ m + q ∧ (∀ j, j < m → F' j = F j) ∧ F' (m' - 1) = L ∧ FrW S S'
theorem add_step {X : zX} {d : Nat} (hd : 1 ≤ d) {S : zS} {m : Nat} {F : Nat → Lg} {x : Int} (hx : 0 ≤ x ∧ x ≤ 3) {q : Nat} (h : G S m F) (hq : q < m) (hm : m < 400) : WRes (z_ev X d (z_entry 37 [.ref 41, .int (Int32.ofInt (x + 1)), .int (Int32.ofInt q), .int (Int32.ofInt (-1))] (mk S))) S m F 1 (lcat (l1 x) (F q)) := by
  have g5 := h.2.2.2.2 q hq
  refine ⟨_, m + 1, Fup F m (lcat (l1 x) (F q)), ?_, h.add (k := x + 1) (nx := q) (ot := -1) (lo := rd1 (x + 1 - 1) + gI S 50 q) (hi := rd1 (x + 1 - 1) + gI S 51 q) hm (by omega) (by omega) (by omega) ?_ ?_ ?_ ?_ ?_, by omega, by omega, fun j hj => Fup_lt hj, ?_, FrW.node⟩
  · have := e37b (X := X) (d := d) (S := S) hd m (x + 1) q h.1 (by omega) (by omega) (by omega) (by omega) (by omega)
    rw [this]
    congr 5; omega
  · unfold rd1; split <;> omega
  · unfold rd1; split <;> omega
  · intro k' nx' ot' a1 a2 a3
    exact Or.inr (Or.inl ⟨x, hx.1, hx.2, a1, q, hq, a2, by rw [Fup_at, Fup_lt hq]⟩)
  · rw [show x + 1 - 1 = x by omega]; exact (LMin.one x).cat g5.1
  · rw [show x + 1 - 1 = x by omega]; exact (LMax.one x).cat g5.2.1
  · rw [Nat.add_sub_cancel]; exact Fup_at
theorem add_fork {X : zX} {d : Nat} (hd : 1 ≤ d) {S : zS} {m : Nat} {F : Nat → Lg} {q r : Nat} (h : G S m F) (hq : q < m) (hr : r < m) (hm : m < 400) : WRes (z_ev X d (z_entry 37 [.ref 41, .int (Int32.ofInt 5), .int (Int32.ofInt q), .int (Int32.ofInt r)] (mk S))) S m F 1 (lor (F q) (F r)) := by
  have g5 := h.2.2.2.2 q hq
  have g6 := h.2.2.2.2 r hr
  refine ⟨_, m + 1, Fup F m (lor (F q) (F r)), ?_, h.add (k := 5) (nx := q) (ot := r) (lo := min (gI S 50 q) (gI S 50 r)) (hi := max (gI S 51 q) (gI S 51 r)) hm (by omega) (by omega) (by omega) ?_ ?_ ?_ ?_ ?_, by omega, by omega, fun j hj => Fup_lt hj, ?_, FrW.node⟩
  · have := e37c (X := X) (d := d) (S := S) hd m q r h.1 (by omega) (by omega) (by omega) (by omega) (by omega) (by omega) (by omega)
    rw [this]
    congr 5; omega
  · omega
  · omega
  · intro k' nx' ot' a1 a2 a3
    exact Or.inr (Or.inr ⟨a1, q, r, hq, hr, a2, a3, by rw [Fup_at, Fup_lt hq, Fup_lt hr]⟩)
  · exact g5.1.or g6.1
  · exact g5.2.1.or g6.2.1
  · rw [Nat.add_sub_cancel]; exact Fup_at
/-- what was read between two tokens is still there, but for E -/
def AgrX (S S' : zS) (lo hi : Int) (E : Nat → Int → Prop) : Prop := ∀ (a : Nat) (i : Int), 42 ≤ a ∧ a ≤ 46 → lo ≤ i → i < hi → ¬ E a i → gI S' a i = gI S a i
def EU (u : Int) (a : Nat) (i : Int) : Prop := i = u ∧ (a = 43 ∨ a = 44 ∨ a = 45)
def EC (u : Int) (a : Nat) (i : Int) : Prop := i = u ∧ (a = 44 ∨ a = 45)
def EM (u : Int) (a : Nat) (i : Int) : Prop := i = u ∧ a = 45
def E0 (_ : Nat) (_ : Int) : Prop := False
theorem AgrX.wr {S S' S'' : zS} {lo hi : Int} {E : Nat → Int → Prop} (h : AgrX S S' lo hi E) (hW : FrW S' S'') : AgrX S S'' lo hi E := fun a i q1 q2 q3 q4 => (hW.2.1 a i (by omega) (by omega)).trans (h a i q1 q2 q3 q4)
/-- what was there, and is still there -/
theorem AgrX.cut {S S1 S' : zS} {lo hi lo1 hi1 : Int} {E E1 : Nat → Int → Prop} (h : AgrX S1 S' lo1 hi1 E1) (hA : AgrX S S1 lo hi E) (hl : lo1 ≤ lo) (hh : hi ≤ hi1) (hE : ∀ a i, lo ≤ i → E1 a i → E a i) : AgrX S S' lo hi E := fun a i q1 q2 q3 q4 => (h a i q1 (by omega) (by omega) (fun w => q4 (hE a i q2 w))).trans (hA a i q1 q2 q3 q4)
theorem AgrX.rf {S : zS} {lo hi : Int} {E : Nat → Int → Prop} : AgrX S S lo hi E := fun _ _ _ _ _ _ => rfl
theorem TokAll.wr {S S' : zS} {b : Int → Int} {n : Int} {T : Nat} (h : TokAll S b n T) (hW : FrW S S') : TokAll S' b n T := h.fr (fun a i q => hW.2.1 a i (by omega) (by omega)) (hW.2.1 _ _ (by omega) (by omega))
/-- the metre kept under own, read between lo and hi, is written so -/
def WM (X : zX) (b : Int → Int) (n : Int) (T : Nat) (S : zS) (lo hi own dp : Int) (x : T3) : Prop := ∀ (d : Nat) (S' : zS) (m : Nat) (F : Nat → Lg) (nx : Nat), 40 - 4 * dp.toNat ≤ d → AgrX S S' lo hi E0 → gI S' 46 own = gI S 46 own → TokAll S' b n T → G S' m F → nx < m → m + 2 * x.2.1 ≤ 401 → WRes (z_ev X d (z_entry 35 [.ref 41, .ref 37, .int (Int32.ofInt own), .int (Int32.ofInt nx), .int (Int32.ofInt dp)] (mk S'))) S' m F (2 * x.2.1 - 1) (lcat x.1 (F nx))
theorem WM.mono {X : zX} {b : Int → Int} {n : Int} {T : Nat} {S S1 : zS} {lo hi lo1 hi1 own dp : Int} {x : T3} (h : WM X b n T S lo hi own dp x) (hA : AgrX S S1 lo hi E0) (h46 : gI S1 46 own = gI S 46 own) (hl : lo1 ≤ lo) (hh : hi ≤ hi1) : WM X b n T S1 lo1 hi1 own dp x := fun d S' m F nx g1 g2 g3 g4 g5 g6 g7 => h d S' m F nx g1 (g2.cut hA hl hh (fun _ _ _ w => w)) (g3.trans h46) g4 g5 g6 g7
/-- a row of units from c0 on that ends with u -/
def WCh (X : zX) (b : Int → Int) (n : Int) (T : Nat) (S : zS) (c0 hi u dp : Int) (x : T3) : Prop := ∀ (d : Nat) (S' : zS) (m : Nat) (F : Nat → Lg) (st : Nat) (k own nx : Int) (x8 x9 x10 : Option Value), 39 - 4 * dp.toNat ≤ d → AgrX S S' c0 hi (EC c0) → TokAll S' b n T → G S' m F → st < m → m + 2 * x.2.1 ≤ 401 → 0 ≤ k → k + x.2.1 ≤ 400 → WRes (z_ev X d (36, 16, [some (.ref 41), some (.ref 37), some (.int (Int32.ofInt own)), some (.int (Int32.ofInt nx)), some (.int (Int32.ofInt dp)), some (.int (Int32.ofInt st)), some (.int (Int32.ofInt u)), some (.int (Int32.ofInt k)), x8, x9, x10], [], mk S')) S' m F (2 * x.2.1 - 1) (lcat x.1 (F st))
theorem WCh.mono {X : zX} {b : Int → Int} {n : Int} {T : Nat} {S S1 : zS} {c0 hi hi1 u dp : Int} {x : T3} (h : WCh X b n T S c0 hi u dp x) (hA : AgrX S S1 c0 hi (EC c0)) (hh : hi ≤ hi1) : WCh X b n T S1 c0 hi1 u dp x := fun d S' m F st k own nx x8 x9 x10 g1 g2 g3 g4 g5 g6 g7 g8 => h d S' m F st k own nx x8 x9 x10 g1 (g2.cut hA (Int.le_refl _) hh (fun _ _ _ w => w)) g3 g4 g5 g6 g7 g8
/-- one unit -/
def WU (X : zX) (b : Int → Int) (n : Int) (T : Nat) (S : zS) (hi u dp : Int) (x : T3) : Prop := ∀ (d : Nat) (S' : zS) (m : Nat) (F : Nat → Lg) (st : Nat) (k own nx : Int) (x8 x9 x10 : Option Value), 39 - 4 * dp.toNat ≤ d → AgrX S S' u hi (EU u) → TokAll S' b n T → G S' m F → st < m → m + 2 * x.2.1 ≤ 401 → 0 ≤ k → k < 400 → ∃ (S'' : zS) (m' : Nat) (F' : Nat → Lg) (y8 y9 y10 : Option Value), z_ev X d (36, 16, [some (.ref 41), some (.ref 37), some (.int (Int32.ofInt own)), some (.int (Int32.ofInt nx)), some (.int (Int32.ofInt dp)), some (.int (Int32.ofInt st)), some (.int (Int32.ofInt u)), some (.int (Int32.ofInt k)), x8, x9, x10], [], mk S') = z_ev X d (36, 16, [some (.ref 41), some (.ref 37), some (.int (Int32.ofInt own)), some (.int (Int32.ofInt nx)), some (.int (Int32.ofInt dp)), some (.int (Int32.ofInt ((m' : Int) - 1))), some (.int (Int32.ofInt (gI S'' 43 u))), some (.int (Int32.ofInt (k + 1))), y8, y9, y10], [], mk S'') ∧ G S'' m' F' ∧ m < m' ∧ m' + 1 ≤ m + 2 * x.2.1 ∧ (∀ j, j < m → F' j = F j) ∧ F' (m' - 1) = lcat x.1 (F st) ∧ FrW S' S''
theorem WU.mono {X : zX} {b : Int → Int} {n : Int} {T : Nat} {S S1 : zS} {hi hi1 u dp : Int} {x : T3} (h : WU X b n T S hi u dp x) (hA : AgrX S S1 u hi (EU u)) (hh : hi ≤ hi1) : WU X b n T S1 hi1 u dp x := fun d S' m F st k own nx x8 x9 x10 g1 g2 g3 g4 g5 g6 g7 g8 => h d S' m F st k own nx x8 x9 x10 g1 (g2.cut hA (Int.le_refl _) hh (fun _ _ _ w => w)) g3 g4 g5 g6 g7 g8
/-- a unit's turns: y is what is written at each -/
theorem wu_turns {X : zX} {d : Nat} {own nx dp u k code tm : Int} {B : Lg} {s1 : Nat} {R : zS → Prop} (hs : 1 ≤ s1) (htm : 0 ≤ tm ∧ tm ≤ 9) (hR : ∀ S S', R S → FrW S S' → R S')
  (one : ∀ (S : zS) (m : Nat) (F : Nat → Lg) (st : Nat) (w : Int), R S → G S m F → st < m → m + 2 * s1 ≤ 401 → ∃ (S' : zS) (m' : Nat) (F' : Nat → Lg), z_ev X d (36, 58, [some (.ref 41), some (.ref 37), some (.int (Int32.ofInt own)), some (.int (Int32.ofInt nx)), some (.int (Int32.ofInt dp)), some (.int (Int32.ofInt st)), some (.int (Int32.ofInt u)), some (.int (Int32.ofInt k)), some (.int (Int32.ofInt code)), some (.int (Int32.ofInt tm)), some (.int (Int32.ofInt w))], [], mk S) = z_ev X d (36, 96, [some (.ref 41), some (.ref 37), some (.int (Int32.ofInt own)), some (.int (Int32.ofInt nx)), some (.int (Int32.ofInt dp)), some (.int (Int32.ofInt st)), some (.int (Int32.ofInt u)), some (.int (Int32.ofInt k)), some (.int (Int32.ofInt code)), some (.int (Int32.ofInt tm)), some (.int (Int32.ofInt w))], [.int (Int32.ofInt ((m' : Int) - 1))], mk S') ∧ G S' m' F' ∧ m < m' ∧ m' + 1 ≤ m + 2 * s1 ∧ (∀ j, j < m → F' j = F j) ∧ F' (m' - 1) = lcat B (F st) ∧ FrW S S') :
  ∀ (r : Nat) (S : zS) (m : Nat) (F : Nat → Lg) (st : Nat) (w : Int), 0 ≤ w → w + r = tm → R S → G S m F → st < m → m + 2 * (r * s1) ≤ 401 → ∃ (S' : zS) (m' : Nat) (F' : Nat → Lg) (st' : Nat), z_ev X d (36, 51, [some (.ref 41), some (.ref 37), some (.int (Int32.ofInt own)), some (.int (Int32.ofInt nx)), some (.int (Int32.ofInt dp)), some (.int (Int32.ofInt st)), some (.int (Int32.ofInt u)), some (.int (Int32.ofInt k)), some (.int (Int32.ofInt code)), some (.int (Int32.ofInt tm)), some (.int (Int32.ofInt w))], [], mk S) = z_ev X d (36, 104, [some (.ref 41), some (.ref 37), some (.int (Int32.ofInt own)), some (.int (Int32.ofInt nx)), some (.int (Int32.ofInt dp)), some (.int (Int32.ofInt st')), some (.int (Int32.ofInt u)), some (.int (Int32.ofInt k)), some (.int (Int32.ofInt code)), some (.int (Int32.ofInt tm)), some (.int (Int32.ofInt tm))], [], mk S') ∧ G S' m' F' ∧ (r = 0 → m' = m ∧ st' = st) ∧ (0 < r → m < m' ∧ st' + 1 = m' ∧ m' + 1 ≤ m + 2 * (r * s1)) ∧ (∀ j, j < m → F' j = F j) ∧ F' st' = lcat (lpow B r) (F st) ∧ FrW S S' := by
  intro r
  induction r with
  | zero =>
    intro S m F st w h0 h1 h2 h3 h4 h5
    have : w = tm := by omega
    subst this
    refine ⟨S, m, F, st, ?_, h3, fun _ => ⟨rfl, rfl⟩, fun h => absurd h (by omega), fun _ _ => rfl, (nil_lcat _).symm, FrW.rf⟩
    rw [B36_51]
    simp (disch := first | omega | assumption | exact b01_rng _ | exact st_5 | exact st_12 | exact st_19 | (simp only [isSt_sI, isSt_sJ, isSt_sF, isSt_sG, isSt_sA]; assumption)) only [i_lit, i_add, i_sub, i_mul, i_neg, i_lt, i_le, i_eq, i32_gI, i64_gJ, i32_id, i32_to, i64_to, sI_i32, sJ_i64, b01_t, b01_f, i32_b01, b01_0, ↓a_s0, ↓n_s0, ↓a_s1, ↓n_s1, Int.add_zero, t_lt, f_lt, t_le, f_le, t_eq, f_eq, true_and, and_true, false_and, and_false, and_self, ↓reduceIte, z_bool_of, or_true, true_or, or_false, false_or, Int.neg_neg, not_true_eq_false, not_false_eq_true, lg_lt, lg_le, lg_gt, lg_ge, lg_eq, j_lit, j_add, j_sub, j_mul, j_neg, j_eq, i64_id, ij, ji, z_rt, Nat.reduceEqDiff, Nat.reduceAdd, Int.reduceAdd, Int.reduceSub, Int.reduceMul, Int.reduceNeg, Int.reduceLT, Int.reduceLE, Int.reduceEq]
  | succ r ih =>
    intro S m F st w h0 h1 h2 h3 h4 h5
    have hmul : (r + 1) * s1 = r * s1 + s1 := Nat.succ_mul r s1
    rw [hmul] at h5
    obtain ⟨S1, m1, F1, a1, a2, a3, a4, a5, a6, a7⟩ := one S m F st w h2 h3 h4 (by omega)
    obtain ⟨S2, m2, F2, st2, b1, b2, b3, b4, b5, b6, b7⟩ := ih S1 m1 F1 (m1 - 1) (w + 1) (by omega) (by omega) (hR _ _ h2 a7) a2 (by omega) (by omega)
    rw [show ((m1 - 1 : Nat) : Int) = (m1 : Int) - 1 by omega] at b1
    refine ⟨S2, m2, F2, st2, ?_, b2, fun h => absurd h (by omega), fun _ => ?_, fun j hj => (b5 j (by omega)).trans (a5 j hj), ?_, a7.tr b7⟩
    · rw [← b1, B36_51]
      simp (disch := first | omega | assumption | exact b01_rng _ | exact st_5 | exact st_12 | exact st_19 | (simp only [isSt_sI, isSt_sJ, isSt_sF, isSt_sG, isSt_sA]; assumption)) only [i_lit, i_add, i_sub, i_mul, i_neg, i_lt, i_le, i_eq, i32_gI, i64_gJ, i32_id, i32_to, i64_to, sI_i32, sJ_i64, b01_t, b01_f, i32_b01, b01_0, ↓a_s0, ↓n_s0, ↓a_s1, ↓n_s1, Int.add_zero, t_lt, f_lt, t_le, f_le, t_eq, f_eq, true_and, and_true, false_and, and_false, and_self, ↓reduceIte, z_bool_of, or_true, true_or, or_false, false_or, Int.neg_neg, not_true_eq_false, not_false_eq_true, lg_lt, lg_le, lg_gt, lg_ge, lg_eq, j_lit, j_add, j_sub, j_mul, j_neg, j_eq, i64_id, ij, ji, z_rt, Nat.reduceEqDiff, Nat.reduceAdd, Int.reduceAdd, Int.reduceSub, Int.reduceMul, Int.reduceNeg, Int.reduceLT, Int.reduceLE, Int.reduceEq]
      rw [a1, B36_96]
      simp (disch := first | omega | assumption | exact b01_rng _ | exact st_5 | exact st_12 | exact st_19 | (simp only [isSt_sI, isSt_sJ, isSt_sF, isSt_sG, isSt_sA]; assumption)) only [i_lit, i_add, i_sub, i_mul, i_neg, i_lt, i_le, i_eq, i32_gI, i64_gJ, i32_id, i32_to, i64_to, sI_i32, sJ_i64, b01_t, b01_f, i32_b01, b01_0, ↓a_s0, ↓n_s0, ↓a_s1, ↓n_s1, Int.add_zero, t_lt, f_lt, t_le, f_le, t_eq, f_eq, true_and, and_true, false_and, and_false, and_self, ↓reduceIte, z_bool_of, or_true, true_or, or_false, false_or, Int.neg_neg, not_true_eq_false, not_false_eq_true, lg_lt, lg_le, lg_gt, lg_ge, lg_eq, j_lit, j_add, j_sub, j_mul, j_neg, j_eq, i64_id, ij, ji, z_rt, Nat.reduceEqDiff, Nat.reduceAdd, Int.reduceAdd, Int.reduceSub, Int.reduceMul, Int.reduceNeg, Int.reduceLT, Int.reduceLE, Int.reduceEq]
    · rw [hmul]
      by_cases q : r = 0
      · obtain ⟨w1, w2⟩ := b3 q
        omega
      · obtain ⟨w1, w2, w3⟩ := b4 (by omega)
        omega
    · rw [b6, a6, ← lcat_assoc]
      rfl
theorem wu_all {X : zX} {b : Int → Int} {n : Int} {T : Nat} {S : zS} {hi dp : Int} {u : Nat} {x : T3} {tm : Nat} (hx : 1 ≤ x.2.1) (hdp : 0 ≤ dp ∧ dp ≤ 8) (hu : u < hi ∧ u ≤ T ∧ u < 402) (htm : 1 ≤ tm ∧ tm ≤ 9) (h42 : gI S 42 u = tm)
  (hc : (256 ≤ tC b n (tpos b n u) ∧ tC b n (tpos b n u) ≤ 259 ∧ x.1 = l1 (tC b n (tpos b n u) - 256)) ∨ (tC b n (tpos b n u) = 40 ∧ dp < 8 ∧ WM X b n T S (u + 1) hi u (dp + 1) x)) : WU X b n T S hi u dp (often3 x tm) := by
  intro d S' m F st k own nx x8 x9 x10 hd hA hT hG hst hm hk0 hk
  have e42 : gI S' 42 u = tm := by rw [hA 42 u (by omega) (by omega) (by omega) (by unfold EU; omega)]; exact h42
  have hs : (often3 x tm).2.1 = tm * x.2.1 := rfl
  have hl : (often3 x tm).1 = lpow x.1 tm := rfl
  rw [hs] at hm ⊢
  rw [hl]
  have key := wu_turns (X := X) (d := d) (own := own) (nx := nx) (dp := dp) (u := u) (k := k) (code := tC b n (tpos b n u)) (tm := tm) (B := x.1) (s1 := x.2.1) (R := fun Z => AgrX S Z u hi (EU u) ∧ TokAll Z b n T) hx (by omega) (fun Z Z' h hW => ⟨h.1.wr hW, h.2.wr hW⟩) ?_ tm S' m F st 0 (by omega) (by omega) ⟨hA, hT⟩ hG hst hm
  · obtain ⟨S1, m1, F1, st1, a1, a2, a3, a4, a5, a6, a7⟩ := key
    obtain ⟨w1, w2, w3⟩ := a4 (by omega)
    refine ⟨S1, m1, F1, some (.int (Int32.ofInt (tC b n (tpos b n u)))), some (.int (Int32.ofInt tm)), some (.int (Int32.ofInt tm)), ?_, a2, w1, w3, a5, by rw [← a6]; congr 1; omega, a7⟩
    have k91 := fun {cm cp : Nat} {L : zL} {st : List Value} => c91 (X := X) (d := d) (S := S') (by omega) b n T u hT hu.2.1 (cm := cm) (cp := cp) (L := L) (st := st)
    rw [show ((m1 : Nat) : Int) - 1 = (st1 : Int) by omega, B36_16]
    simp (disch := first | omega | assumption | exact b01_rng _ | exact st_5 | exact st_12 | exact st_19 | (simp only [isSt_sI, isSt_sJ, isSt_sF, isSt_sG, isSt_sA]; assumption)) only [↓B36_0, ↓B36_11, ↓B36_21, ↓B36_29, ↓B36_35, ↓B36_46, ↓B36_58, ↓B36_65, ↓B36_78, ↓B36_81, ↓B36_96, ↓B36_104, ↓B36_113, ↓B36_121, ↓a_42, ↓a_43, ↓a_44, ↓n_42, ↓n_43, ↓n_44, ↓o_37, ↓o_41, ↓r_41_0, ↓r_41_1, ↓r_41_2, ↓s_42, ↓s_43, ↓s_44, k91, c38d, i_lit, i_add, i_sub, i_mul, i_neg, i_lt, i_le, i_eq, i32_gI, i64_gJ, i32_id, i32_to, i64_to, sI_i32, sJ_i64, b01_t, b01_f, i32_b01, b01_0, ↓a_s0, ↓n_s0, ↓a_s1, ↓n_s1, Int.add_zero, t_lt, f_lt, t_le, f_le, t_eq, f_eq, true_and, and_true, false_and, and_false, and_self, ↓reduceIte, z_bool_of, or_true, true_or, or_false, false_or, Int.neg_neg, not_true_eq_false, not_false_eq_true, lg_lt, lg_le, lg_gt, lg_ge, lg_eq, j_lit, j_add, j_sub, j_mul, j_neg, j_eq, i64_id, ij, ji, z_rt, Nat.reduceEqDiff, Nat.reduceAdd, Int.reduceAdd, Int.reduceSub, Int.reduceMul, Int.reduceNeg, Int.reduceLT, Int.reduceLE, Int.reduceEq, e42]
    rw [a1]
    simp (disch := first | omega | assumption | exact b01_rng _ | exact st_5 | exact st_12 | exact st_19 | (simp only [isSt_sI, isSt_sJ, isSt_sF, isSt_sG, isSt_sA]; assumption)) only [↓B36_0, ↓B36_11, ↓B36_21, ↓B36_29, ↓B36_35, ↓B36_46, ↓B36_58, ↓B36_65, ↓B36_78, ↓B36_81, ↓B36_96, ↓B36_104, ↓B36_113, ↓B36_121, ↓a_42, ↓a_43, ↓a_44, ↓n_42, ↓n_43, ↓n_44, ↓o_37, ↓o_41, ↓r_41_0, ↓r_41_1, ↓r_41_2, ↓s_42, ↓s_43, ↓s_44, c38d, i_lit, i_add, i_sub, i_mul, i_neg, i_lt, i_le, i_eq, i32_gI, i64_gJ, i32_id, i32_to, i64_to, sI_i32, sJ_i64, b01_t, b01_f, i32_b01, b01_0, ↓a_s0, ↓n_s0, ↓a_s1, ↓n_s1, Int.add_zero, t_lt, f_lt, t_le, f_le, t_eq, f_eq, true_and, and_true, false_and, and_false, and_self, ↓reduceIte, z_bool_of, or_true, true_or, or_false, false_or, Int.neg_neg, not_true_eq_false, not_false_eq_true, lg_lt, lg_le, lg_gt, lg_ge, lg_eq, j_lit, j_add, j_sub, j_mul, j_neg, j_eq, i64_id, ij, ji, z_rt, Nat.reduceEqDiff, Nat.reduceAdd, Int.reduceAdd, Int.reduceSub, Int.reduceMul, Int.reduceNeg, Int.reduceLT, Int.reduceLE, Int.reduceEq]
  · intro Z m0 F0 st0 w hR hG0 hst0 hm0
    have hc0 := hR.2.code hu.2.1
    have hr := gI_rng Z 38 u
    rw [hc0.1] at hr
    rcases hc with ⟨c1, c2, c3⟩ | ⟨c1, c2, c3⟩
    · obtain ⟨S1, m1, F1, a1, a2, a3, a4, a5, a6, a7⟩ := add_step (X := X) (d := d - 1) (S := Z) (by omega) (x := tC b n (tpos b n u) - 256) (by omega) hG0 hst0 (by omega)
      refine ⟨S1, m1, F1, ?_, a2, a3, by omega, a5, by rw [a6, c3], a7⟩
      have k37 : ∀ {cm cp : Nat} {L : zL} {s : List Value}, z_evc X d 37 [.ref 41, .int (Int32.ofInt (tC b n (tpos b n u) - 256 + 1)), .int (Int32.ofInt st0), .int (Int32.ofInt (-1))] (cm, cp, L, s, mk Z) = z_ev X d (cm, cp, L, .int (Int32.ofInt ((m1 : Int) - 1)) :: s, mk S1) := fun {cm cp L s} => z_evc_of (r := (some (.int (Int32.ofInt ((m1 : Int) - 1))), mk S1)) (ck := (cm, cp, L, s, mk Z)) (show d - 1 < d by omega) a1
      rw [B36_58]
      simp (disch := first | omega | assumption | exact b01_rng _ | exact st_5 | exact st_12 | exact st_19 | (simp only [isSt_sI, isSt_sJ, isSt_sF, isSt_sG, isSt_sA]; assumption)) only [↓B36_0, ↓B36_11, ↓B36_21, ↓B36_29, ↓B36_35, ↓B36_46, ↓B36_65, ↓B36_78, ↓B36_81, ↓B36_104, ↓B36_113, ↓B36_121, ↓a_42, ↓a_43, ↓a_44, ↓n_42, ↓n_43, ↓n_44, ↓o_37, ↓o_41, ↓r_41_0, ↓r_41_1, ↓r_41_2, ↓s_42, ↓s_43, ↓s_44, i_lit, i_add, i_sub, i_mul, i_neg, i_lt, i_le, i_eq, i32_gI, i64_gJ, i32_id, i32_to, i64_to, sI_i32, sJ_i64, b01_t, b01_f, i32_b01, b01_0, ↓a_s0, ↓n_s0, ↓a_s1, ↓n_s1, Int.add_zero, t_lt, f_lt, t_le, f_le, t_eq, f_eq, true_and, and_true, false_and, and_false, and_self, ↓reduceIte, z_bool_of, or_true, true_or, or_false, false_or, Int.neg_neg, not_true_eq_false, not_false_eq_true, lg_lt, lg_le, lg_gt, lg_ge, lg_eq, j_lit, j_add, j_sub, j_mul, j_neg, j_eq, i64_id, ij, ji, z_rt, Nat.reduceEqDiff, Nat.reduceAdd, Int.reduceAdd, Int.reduceSub, Int.reduceMul, Int.reduceNeg, Int.reduceLT, Int.reduceLE, Int.reduceEq, k37]
    · obtain ⟨S1, m1, F1, a1, a2, a3, a4, a5, a6, a7⟩ := c3 (d - 1) Z m0 F0 st0 (by omega) (hR.1.cut AgrX.rf (by omega) (by omega) (fun a i w1 w2 => by unfold EU at w2; omega)) (hR.1 46 u (by omega) (by omega) (by omega) (by unfold EU; omega)) hR.2 hG0 hst0 (by omega)
      refine ⟨S1, m1, F1, ?_, a2, a3, by omega, a5, a6, a7⟩
      have k35 : ∀ {cm cp : Nat} {L : zL} {s : List Value}, z_evc X d 35 [.ref 41, .ref 37, .int (Int32.ofInt u), .int (Int32.ofInt st0), .int (Int32.ofInt (dp + 1))] (cm, cp, L, s, mk Z) = z_ev X d (cm, cp, L, .int (Int32.ofInt ((m1 : Int) - 1)) :: s, mk S1) := fun {cm cp L s} => z_evc_of (r := (some (.int (Int32.ofInt ((m1 : Int) - 1))), mk S1)) (ck := (cm, cp, L, s, mk Z)) (show d - 1 < d by omega) a1
      rw [B36_58]
      simp (disch := first | omega | assumption | exact b01_rng _ | exact st_5 | exact st_12 | exact st_19 | (simp only [isSt_sI, isSt_sJ, isSt_sF, isSt_sG, isSt_sA]; assumption)) only [↓B36_0, ↓B36_11, ↓B36_21, ↓B36_29, ↓B36_35, ↓B36_46, ↓B36_65, ↓B36_78, ↓B36_81, ↓B36_104, ↓B36_113, ↓B36_121, ↓a_42, ↓a_43, ↓a_44, ↓n_42, ↓n_43, ↓n_44, ↓o_37, ↓o_41, ↓r_41_0, ↓r_41_1, ↓r_41_2, ↓s_42, ↓s_43, ↓s_44, i_lit, i_add, i_sub, i_mul, i_neg, i_lt, i_le, i_eq, i32_gI, i64_gJ, i32_id, i32_to, i64_to, sI_i32, sJ_i64, b01_t, b01_f, i32_b01, b01_0, ↓a_s0, ↓n_s0, ↓a_s1, ↓n_s1, Int.add_zero, t_lt, f_lt, t_le, f_le, t_eq, f_eq, true_and, and_true, false_and, and_false, and_self, ↓reduceIte, z_bool_of, or_true, true_or, or_false, false_or, Int.neg_neg, not_true_eq_false, not_false_eq_true, lg_lt, lg_le, lg_gt, lg_ge, lg_eq, j_lit, j_add, j_sub, j_mul, j_neg, j_eq, i64_id, ij, ji, z_rt, Nat.reduceEqDiff, Nat.reduceAdd, Int.reduceAdd, Int.reduceSub, Int.reduceMul, Int.reduceNeg, Int.reduceLT, Int.reduceLE, Int.reduceEq, k35, c1]
/-- the first unit of a row .. -/
theorem WCh.one {X : zX} {b : Int → Int} {n : Int} {T : Nat} {S : zS} {hi u dp : Int} {x : T3} (hx : 1 ≤ x.2.1) (h : WU X b n T S hi u dp x) (hu : u < hi) (h43 : gI S 43 u = -1) : WCh X b n T S u hi u dp x := by
  intro d S' m F st k own nx x8 x9 x10 hd hA hT hG hst hm hk0 hk
  obtain ⟨S1, m1, F1, y8, y9, y10, a1, a2, a3, a4, a5, a6, a7⟩ := h d S' m F st k own nx x8 x9 x10 hd (hA.cut AgrX.rf (Int.le_refl _) (Int.le_refl _) (fun a i _ w => by unfold EC at w; unfold EU; omega)) hT hG hst hm hk0 (by omega)
  refine ⟨S1, m1, F1, ?_, a2, a3, by omega, a5, a6, a7⟩
  have e43 : gI S1 43 u = -1 := by rw [(hA.wr a7) 43 u (by omega) (Int.le_refl _) hu (by unfold EC; omega)]; exact h43
  rw [a1, e43, B36_16]
  simp (disch := first | omega | assumption | exact b01_rng _ | exact st_5 | exact st_12 | exact st_19 | (simp only [isSt_sI, isSt_sJ, isSt_sF, isSt_sG, isSt_sA]; assumption)) only [↓B36_0, ↓B36_11, ↓B36_21, ↓B36_29, ↓B36_35, ↓B36_46, ↓B36_58, ↓B36_65, ↓B36_78, ↓B36_81, ↓B36_96, ↓B36_104, ↓B36_113, ↓B36_121, ↓a_42, ↓a_43, ↓a_44, ↓n_42, ↓n_43, ↓n_44, ↓o_37, ↓o_41, ↓r_41_0, ↓r_41_1, ↓r_41_2, ↓s_42, ↓s_43, ↓s_44, i_lit, i_add, i_sub, i_mul, i_neg, i_lt, i_le, i_eq, i32_gI, i64_gJ, i32_id, i32_to, i64_to, sI_i32, sJ_i64, b01_t, b01_f, i32_b01, b01_0, ↓a_s0, ↓n_s0, ↓a_s1, ↓n_s1, Int.add_zero, t_lt, f_lt, t_le, f_le, t_eq, f_eq, true_and, and_true, false_and, and_false, and_self, ↓reduceIte, z_bool_of, or_true, true_or, or_false, false_or, Int.neg_neg, not_true_eq_false, not_false_eq_true, lg_lt, lg_le, lg_gt, lg_ge, lg_eq, j_lit, j_add, j_sub, j_mul, j_neg, j_eq, i64_id, ij, ji, z_rt, Nat.reduceEqDiff, Nat.reduceAdd, Int.reduceAdd, Int.reduceSub, Int.reduceMul, Int.reduceNeg, Int.reduceLT, Int.reduceLE, Int.reduceEq]
/-- .. and one more -/
theorem WCh.cons {X : zX} {b : Int → Int} {n : Int} {T : Nat} {S S0 : zS} {c0 hi hi0 u v dp : Int} {x y : T3} (hx : 1 ≤ x.2.1) (hy : 1 ≤ y.2.1) (h0 : WCh X b n T S0 c0 hi0 v dp x) (hA0 : AgrX S0 S c0 hi0 (EC c0)) (hh : hi0 ≤ hi) (h : WU X b n T S hi u dp y) (hu : c0 < u ∧ u < hi) (h43 : gI S 43 u = v) : WCh X b n T S c0 hi u dp (cat3 x y) := by
  intro d S' m F st k own nx x8 x9 x10 hd hA hT hG hst hm hk0 hk
  have e1 : (cat3 x y).2.1 = x.2.1 + y.2.1 := rfl
  have e2 : (cat3 x y).1 = lcat x.1 y.1 := rfl
  rw [e1] at hm hk ⊢
  rw [e2]
  obtain ⟨S1, m1, F1, y8, y9, y10, a1, a2, a3, a4, a5, a6, a7⟩ := h d S' m F st k own nx x8 x9 x10 hd (hA.cut AgrX.rf (by omega) (Int.le_refl _) (fun a i _ w => by unfold EC at w; omega)) hT hG hst (by omega) hk0 (by omega)
  have e43 : gI S1 43 u = v := by rw [(hA.wr a7) 43 u (by omega) (by omega) hu.2 (by unfold EC; omega)]; exact h43
  obtain ⟨S2, m2, F2, b1, b2, b3, b4, b5, b6, b7⟩ := h0 d S1 m1 F1 (m1 - 1) (k + 1) own nx y8 y9 y10 hd ((hA.wr a7).cut hA0 (Int.le_refl _) hh (fun _ _ _ w => w)) (hT.wr a7) a2 (by omega) (by omega) (by omega) (by omega)
  rw [show ((m1 - 1 : Nat) : Int) = (m1 : Int) - 1 by omega] at b1
  refine ⟨S2, m2, F2, ?_, b2, by omega, by omega, fun j hj => (b5 j (by omega)).trans (a5 j hj), by rw [b6, a6, lcat_assoc], a7.tr b7⟩
  rw [a1, e43, ← b1]
/-- a choice kept under own: method 36 -/
def WC (X : zX) (b : Int → Int) (n : Int) (T : Nat) (S : zS) (hi own dp : Int) (x : T3) : Prop := ∀ (d : Nat) (S' : zS) (m : Nat) (F : Nat → Lg) (nx : Nat), 39 - 4 * dp.toNat ≤ d → AgrX S S' own hi (EM own) → TokAll S' b n T → G S' m F → nx < m → m + 2 * x.2.1 ≤ 401 → WRes (z_ev X d (z_entry 36 [.ref 41, .ref 37, .int (Int32.ofInt own), .int (Int32.ofInt nx), .int (Int32.ofInt dp)] (mk S'))) S' m F (2 * x.2.1 - 1) (lcat x.1 (F nx))
theorem WC.mono {X : zX} {b : Int → Int} {n : Int} {T : Nat} {S S1 : zS} {hi hi1 own dp : Int} {x : T3} (h : WC X b n T S hi own dp x) (hA : AgrX S S1 own hi (EM own)) (hh : hi ≤ hi1) : WC X b n T S1 hi1 own dp x := fun d S' m F nx g1 g2 g3 g4 g5 g6 => h d S' m F nx g1 (g2.cut hA (Int.le_refl _) hh (fun _ _ _ w => w)) g3 g4 g5 g6
theorem WC.of {X : zX} {b : Int → Int} {n : Int} {T : Nat} {S : zS} {hi own u dp : Int} {x : T3} (hdp : 0 ≤ dp ∧ dp ≤ 8) (h : WCh X b n T S own hi u dp x) (ho : own < hi ∧ 0 ≤ own ∧ own < 402) (h44 : gI S 44 own = u) : WC X b n T S hi own dp x := by
  intro d S' m F nx hd hA hT hG hnx hm
  have e44 : gI S' 44 own = u := by rw [hA 44 own (by omega) (Int.le_refl _) ho.1 (by unfold EM; omega)]; exact h44
  have := h d S' m F nx 0 own nx none none none hd (hA.cut AgrX.rf (Int.le_refl _) (Int.le_refl _) (fun a i _ w => by unfold EM at w; unfold EC; omega)) hT hG hnx hm (by omega) (by have := hG.2.1; omega)
  obtain ⟨S1, m1, F1, a1, a2, a3, a4, a5, a6, a7⟩ := this
  refine ⟨S1, m1, F1, ?_, a2, a3, a4, a5, a6, a7⟩
  show z_ev X d (36, 0, [some (.ref 41), some (.ref 37), some (.int (Int32.ofInt own)), some (.int (Int32.ofInt nx)), some (.int (Int32.ofInt dp)), none, none, none, none, none, none], [], mk S') = _
  rw [← a1]
  simp (disch := first | omega | assumption | exact b01_rng _ | exact st_5 | exact st_12 | exact st_19 | (simp only [isSt_sI, isSt_sJ, isSt_sF, isSt_sG, isSt_sA]; assumption)) only [↓B36_0, ↓B36_11, ↓B36_21, ↓B36_29, ↓B36_35, ↓B36_46, ↓B36_58, ↓B36_65, ↓B36_78, ↓B36_81, ↓B36_96, ↓B36_104, ↓B36_113, ↓B36_121, ↓a_42, ↓a_43, ↓a_44, ↓n_42, ↓n_43, ↓n_44, ↓o_37, ↓o_41, ↓r_41_0, ↓r_41_1, ↓r_41_2, ↓s_42, ↓s_43, ↓s_44, c38d, i_lit, i_add, i_sub, i_mul, i_neg, i_lt, i_le, i_eq, i32_gI, i64_gJ, i32_id, i32_to, i64_to, sI_i32, sJ_i64, b01_t, b01_f, i32_b01, b01_0, ↓a_s0, ↓n_s0, ↓a_s1, ↓n_s1, Int.add_zero, t_lt, f_lt, t_le, f_le, t_eq, f_eq, true_and, and_true, false_and, and_false, and_self, ↓reduceIte, z_bool_of, or_true, true_or, or_false, false_or, Int.neg_neg, not_true_eq_false, not_false_eq_true, lg_lt, lg_le, lg_gt, lg_ge, lg_eq, j_lit, j_add, j_sub, j_mul, j_neg, j_eq, i64_id, ij, ji, z_rt, Nat.reduceEqDiff, Nat.reduceAdd, Int.reduceAdd, Int.reduceSub, Int.reduceMul, Int.reduceNeg, Int.reduceLT, Int.reduceLE, Int.reduceEq, e44]
def o0 (st : Option Nat) : Nat := match st with | none => 0 | some _ => 1
def o1 (st : Option Nat) : Nat := match st with | none => 1 | some _ => 0
def oI (st : Option Nat) : Int := match st with | none => -1 | some s => s
def oL (A : Lg) (F : Nat → Lg) (st : Option Nat) : Lg := match st with | none => A | some s => lor A (F s)
theorem o01 (st : Option Nat) : o0 st + o1 st = 1 := by cases st <;> rfl
/-- a row of choices that ends with c; st = none: nothing was written behind it -/
def WMh (X : zX) (b : Int → Int) (n : Int) (T : Nat) (S : zS) (lo hi c dp : Int) (x : T3) : Prop := ∀ (d : Nat) (S' : zS) (m : Nat) (F : Nat → Lg) (st : Option Nat) (k own : Int) (nx : Nat) (x8 : Option Value), 40 - 4 * dp.toNat ≤ d → AgrX S S' lo hi E0 → TokAll S' b n T → G S' m F → (∀ s, st = some s → s < m) → nx < m → m + 2 * x.2.1 + o0 st ≤ 401 → 0 ≤ k → k + x.2.1 ≤ 400 → WRes (z_ev X d (35, 25, [some (.ref 41), some (.ref 37), some (.int (Int32.ofInt own)), some (.int (Int32.ofInt nx)), some (.int (Int32.ofInt dp)), some (.int (Int32.ofInt (oI st))), some (.int (Int32.ofInt c)), some (.int (Int32.ofInt k)), x8], [], mk S')) S' m F (2 * x.2.1 - o1 st) (oL (lcat x.1 (F nx)) F st)
theorem WMh.mono {X : zX} {b : Int → Int} {n : Int} {T : Nat} {S S1 : zS} {lo hi hi1 c dp : Int} {x : T3} (h : WMh X b n T S lo hi c dp x) (hA : AgrX S S1 lo hi E0) (hh : hi ≤ hi1) : WMh X b n T S1 lo hi1 c dp x := fun d S' m F st k own nx x8 g1 g2 g3 g4 g5 g6 g7 g8 g9 => h d S' m F st k own nx x8 g1 (g2.cut hA (Int.le_refl _) hh (fun _ _ _ w => w)) g3 g4 g5 g6 g7 g8 g9
/-- one choice is written: what stands behind the loop's turn -/
theorem wm_turn {X : zX} {b : Int → Int} {n : Int} {T : Nat} {S : zS} {lo hi c dp : Int} {y : T3} (hy : 1 ≤ y.2.1) (hdp : 0 ≤ dp ∧ dp ≤ 8) (hc : lo ≤ c ∧ c < hi ∧ 0 ≤ c ∧ c < 402) (h : WC X b n T S hi c dp y) {d : Nat} {S' : zS} {m : Nat} {F : Nat → Lg} {st : Option Nat} {k own : Int} {nx : Nat} {x8 : Option Value} (hd : 40 - 4 * dp.toNat ≤ d) (hA : AgrX S S' lo hi E0) (hT : TokAll S' b n T) (hG : G S' m F) (hst : ∀ s, st = some s → s < m) (hnx : nx < m) (hm : m + 2 * y.2.1 + o0 st ≤ 401) (hk : 0 ≤ k ∧ k < 400) : ∃ (S'' : zS) (m' : Nat) (F' : Nat → Lg) (y8 : Option Value), z_ev X d (35, 25, [some (.ref 41), some (.ref 37), some (.int (Int32.ofInt own)), some (.int (Int32.ofInt nx)), some (.int (Int32.ofInt dp)), some (.int (Int32.ofInt (oI st))), some (.int (Int32.ofInt c)), some (.int (Int32.ofInt k)), x8], [], mk S') = z_ev X d (35, 25, [some (.ref 41), some (.ref 37), some (.int (Int32.ofInt own)), some (.int (Int32.ofInt nx)), some (.int (Int32.ofInt dp)), some (.int (Int32.ofInt ((m' : Int) - 1))), some (.int (Int32.ofInt (gI S'' 45 c))), some (.int (Int32.ofInt (k + 1))), y8], [], mk S'') ∧ G S'' m' F' ∧ m < m' ∧ m' ≤ m + (2 * y.2.1 - o1 st) ∧ (∀ j, j < m → F' j = F j) ∧ F' (m' - 1) = (oL (lcat y.1 (F nx)) F st) ∧ FrW S' S'' := by
  obtain ⟨S1, m1, F1, a1, a2, a3, a4, a5, a6, a7⟩ := h (d - 1) S' m F nx (by omega) (hA.cut AgrX.rf hc.1 (Int.le_refl _) (fun _ _ _ w => w.elim)) hT hG hnx (by omega)
  have k36 : ∀ {cm cp : Nat} {L : zL} {s : List Value}, z_evc X d 36 [.ref 41, .ref 37, .int (Int32.ofInt c), .int (Int32.ofInt nx), .int (Int32.ofInt dp)] (cm, cp, L, s, mk S') = z_ev X d (cm, cp, L, .int (Int32.ofInt ((m1 : Int) - 1)) :: s, mk S1) := fun {cm cp L s} => z_evc_of (r := (some (.int (Int32.ofInt ((m1 : Int) - 1))), mk S1)) (ck := (cm, cp, L, s, mk S')) (show d - 1 < d by omega) a1
  cases st with
  | none =>
    refine ⟨S1, m1, F1, some (.int (Int32.ofInt ((m1 : Int) - 1))), ?_, a2, a3, a4, a5, a6, a7⟩
    show z_ev X d (35, 25, [_, _, _, _, _, some (.int (Int32.ofInt (-1))), _, _, _], _, _) = _
    rw [B35_25]
    simp (disch := first | omega | assumption | exact b01_rng _ | exact st_5 | exact st_12 | exact st_19 | (simp only [isSt_sI, isSt_sJ, isSt_sF, isSt_sG, isSt_sA]; assumption)) only [↓B35_0, ↓B35_7, ↓B35_9, ↓B35_20, ↓B35_30, ↓B35_38, ↓B35_48, ↓B35_56, ↓B35_61, ↓B35_70, ↓B35_81, ↓B35_89, ↓a_45, ↓a_46, ↓n_45, ↓n_46, ↓o_41, ↓r_41_3, ↓r_41_4, ↓s_45, ↓s_46, k36, c38d, i_lit, i_add, i_sub, i_mul, i_neg, i_lt, i_le, i_eq, i32_gI, i64_gJ, i32_id, i32_to, i64_to, sI_i32, sJ_i64, b01_t, b01_f, i32_b01, b01_0, ↓a_s0, ↓n_s0, ↓a_s1, ↓n_s1, Int.add_zero, t_lt, f_lt, t_le, f_le, t_eq, f_eq, true_and, and_true, false_and, and_false, and_self, ↓reduceIte, z_bool_of, or_true, true_or, or_false, false_or, Int.neg_neg, not_true_eq_false, not_false_eq_true, lg_lt, lg_le, lg_gt, lg_ge, lg_eq, j_lit, j_add, j_sub, j_mul, j_neg, j_eq, i64_id, ij, ji, z_rt, Nat.reduceEqDiff, Nat.reduceAdd, Int.reduceAdd, Int.reduceSub, Int.reduceMul, Int.reduceNeg, Int.reduceLT, Int.reduceLE, Int.reduceEq]
  | some s =>
    have hs := hst s rfl
    have ho : o0 (some s) = 1 := rfl
    have ho1 : o1 (some s) = 0 := rfl
    obtain ⟨S2, m2, F2, b1, b2, b3, b4, b5, b6, b7⟩ := add_fork (X := X) (d := d - 1) (S := S1) (by omega) (q := m1 - 1) (r := s) a2 (by omega) (by omega) (by omega)
    rw [show ((m1 - 1 : Nat) : Int) = (m1 : Int) - 1 by omega] at b1
    have k37 : ∀ {cm cp : Nat} {L : zL} {t : List Value}, z_evc X d 37 [.ref 41, .int (Int32.ofInt 5), .int (Int32.ofInt ((m1 : Int) - 1)), .int (Int32.ofInt s)] (cm, cp, L, t, mk S1) = z_ev X d (cm, cp, L, .int (Int32.ofInt ((m2 : Int) - 1)) :: t, mk S2) := fun {cm cp L t} => z_evc_of (r := (some (.int (Int32.ofInt ((m2 : Int) - 1))), mk S2)) (ck := (cm, cp, L, t, mk S1)) (show d - 1 < d by omega) b1
    refine ⟨S2, m2, F2, some (.int (Int32.ofInt ((m1 : Int) - 1))), ?_, b2, by omega, by omega, fun j hj => (b5 j (by omega)).trans (a5 j hj), ?_, a7.tr b7⟩
    · show z_ev X d (35, 25, [_, _, _, _, _, some (.int (Int32.ofInt s)), _, _, _], _, _) = _
      rw [B35_25]
      simp (disch := first | omega | assumption | exact b01_rng _ | exact st_5 | exact st_12 | exact st_19 | (simp only [isSt_sI, isSt_sJ, isSt_sF, isSt_sG, isSt_sA]; assumption)) only [↓B35_0, ↓B35_7, ↓B35_9, ↓B35_20, ↓B35_30, ↓B35_38, ↓B35_48, ↓B35_56, ↓B35_61, ↓B35_70, ↓B35_81, ↓B35_89, ↓a_45, ↓a_46, ↓n_45, ↓n_46, ↓o_41, ↓r_41_3, ↓r_41_4, ↓s_45, ↓s_46, k36, k37, c38d, i_lit, i_add, i_sub, i_mul, i_neg, i_lt, i_le, i_eq, i32_gI, i64_gJ, i32_id, i32_to, i64_to, sI_i32, sJ_i64, b01_t, b01_f, i32_b01, b01_0, ↓a_s0, ↓n_s0, ↓a_s1, ↓n_s1, Int.add_zero, t_lt, f_lt, t_le, f_le, t_eq, f_eq, true_and, and_true, false_and, and_false, and_self, ↓reduceIte, z_bool_of, or_true, true_or, or_false, false_or, Int.neg_neg, not_true_eq_false, not_false_eq_true, lg_lt, lg_le, lg_gt, lg_ge, lg_eq, j_lit, j_add, j_sub, j_mul, j_neg, j_eq, i64_id, ij, ji, z_rt, Nat.reduceEqDiff, Nat.reduceAdd, Int.reduceAdd, Int.reduceSub, Int.reduceMul, Int.reduceNeg, Int.reduceLT, Int.reduceLE, Int.reduceEq]
    · show _ = lor (lcat y.1 (F nx)) (F s); rw [b6, a6, a5 s hs]
theorem WMh.one {X : zX} {b : Int → Int} {n : Int} {T : Nat} {S : zS} {lo hi c dp : Int} {y : T3} (hy : 1 ≤ y.2.1) (hdp : 0 ≤ dp ∧ dp ≤ 8) (hc : lo ≤ c ∧ c < hi ∧ 0 ≤ c ∧ c < 402) (h : WC X b n T S hi c dp y) (h45 : gI S 45 c = -1) : WMh X b n T S lo hi c dp y := by
  intro d S' m F st k own nx x8 hd hA hT hG hst hnx hm hk0 hk
  obtain ⟨S1, m1, F1, y8, a1, a2, a3, a4, a5, a6, a7⟩ := wm_turn (x8 := x8) (own := own) hy hdp hc h hd hA hT hG hst hnx hm (k := k) (by omega)
  refine ⟨S1, m1, F1, ?_, a2, a3, a4, a5, a6, a7⟩
  have e45 : gI S1 45 c = -1 := by rw [(hA.wr a7) 45 c (by omega) hc.1 hc.2.1 id]; exact h45
  rw [a1, e45, B35_25]
  simp (disch := first | omega | assumption | exact b01_rng _ | exact st_5 | exact st_12 | exact st_19 | (simp only [isSt_sI, isSt_sJ, isSt_sF, isSt_sG, isSt_sA]; assumption)) only [↓B35_0, ↓B35_7, ↓B35_9, ↓B35_20, ↓B35_30, ↓B35_38, ↓B35_48, ↓B35_56, ↓B35_61, ↓B35_70, ↓B35_81, ↓B35_89, ↓a_45, ↓a_46, ↓n_45, ↓n_46, ↓o_41, ↓r_41_3, ↓r_41_4, ↓s_45, ↓s_46, i_lit, i_add, i_sub, i_mul, i_neg, i_lt, i_le, i_eq, i32_gI, i64_gJ, i32_id, i32_to, i64_to, sI_i32, sJ_i64, b01_t, b01_f, i32_b01, b01_0, ↓a_s0, ↓n_s0, ↓a_s1, ↓n_s1, Int.add_zero, t_lt, f_lt, t_le, f_le, t_eq, f_eq, true_and, and_true, false_and, and_false, and_self, ↓reduceIte, z_bool_of, or_true, true_or, or_false, false_or, Int.neg_neg, not_true_eq_false, not_false_eq_true, lg_lt, lg_le, lg_gt, lg_ge, lg_eq, j_lit, j_add, j_sub, j_mul, j_neg, j_eq, i64_id, ij, ji, z_rt, Nat.reduceEqDiff, Nat.reduceAdd, Int.reduceAdd, Int.reduceSub, Int.reduceMul, Int.reduceNeg, Int.reduceLT, Int.reduceLE, Int.reduceEq]
theorem WMh.cons {X : zX} {b : Int → Int} {n : Int} {T : Nat} {S S0 : zS} {lo hi hi0 c v dp : Int} {x y : T3} (hx : 1 ≤ x.2.1) (hy : 1 ≤ y.2.1) (hdp : 0 ≤ dp ∧ dp ≤ 8) (h0 : WMh X b n T S0 lo hi0 v dp x) (hA0 : AgrX S0 S lo hi0 E0) (hh : hi0 ≤ hi) (hc : lo ≤ c ∧ c < hi ∧ 0 ≤ c ∧ c < 402) (h : WC X b n T S hi c dp y) (h45 : gI S 45 c = v) : WMh X b n T S lo hi c dp (or3 x y) := by
  intro d S' m F st k own nx x8 hd hA hT hG hst hnx hm hk0 hk
  have e1 : (or3 x y).2.1 = x.2.1 + y.2.1 := rfl
  have e2 : (or3 x y).1 = lor x.1 y.1 := rfl
  rw [e1] at hm hk ⊢
  rw [e2]
  have ho := o01 st
  obtain ⟨S1, m1, F1, y8, a1, a2, a3, a4, a5, a6, a7⟩ := wm_turn (x8 := x8) (own := own) hy hdp hc h hd hA hT hG hst hnx (by omega) (k := k) (by omega)
  have e45 : gI S1 45 c = v := by rw [(hA.wr a7) 45 c (by omega) hc.1 hc.2.1 id]; exact h45
  obtain ⟨S2, m2, F2, b1, b2, b3, b4, b5, b6, b7⟩ := h0 d S1 m1 F1 (some (m1 - 1)) (k + 1) own nx y8 hd ((hA.wr a7).cut hA0 (Int.le_refl _) hh (fun _ _ _ w => w)) (hT.wr a7) a2 (fun s hs => by cases hs; omega) (by omega) (by have : o0 (some (m1 - 1)) = 1 := rfl; omega) (by omega) (by omega)
  have ho2 : o1 (some (m1 - 1)) = 0 := rfl
  refine ⟨S2, m2, F2, ?_, b2, by omega, by omega, fun j hj => (b5 j (by omega)).trans (a5 j hj), ?_, a7.tr b7⟩
  · rw [a1, e45, ← b1, show oI (some (m1 - 1)) = (m1 : Int) - 1 from by show ((m1 - 1 : Nat) : Int) = _; omega]
  · rw [b6]
    show lor (lcat x.1 (F1 nx)) (F1 (m1 - 1)) = _
    rw [a6, a5 nx hnx]
    cases st with
    | none => show lor _ (lcat y.1 (F nx)) = lcat (lor x.1 y.1) (F nx); rw [lcat_or]
    | some s => show lor _ (lor (lcat y.1 (F nx)) (F s)) = lor (lcat (lor x.1 y.1) (F nx)) (F s); rw [lcat_or, lor_assoc]
theorem WM.of {X : zX} {b : Int → Int} {n : Int} {T : Nat} {S : zS} {lo hi own c dp : Int} {x : T3} (hdp : 0 ≤ dp ∧ dp ≤ 8) (h : WMh X b n T S lo hi c dp x) (ho : 0 ≤ own ∧ own < 402) (h46 : gI S 46 own = c) : WM X b n T S lo hi own dp x := by
  intro d S' m F nx hd hA h46' hT hG hnx hm
  have e46 : gI S' 46 own = c := by rw [h46']; exact h46
  have := h d S' m F none 0 own nx none hd hA hT hG (fun s hs => by cases hs) hnx (by show m + 2 * x.2.1 + 0 ≤ 401; omega) (by omega) (by have := hG.2.1; omega)
  obtain ⟨S1, m1, F1, a1, a2, a3, a4, a5, a6, a7⟩ := this
  refine ⟨S1, m1, F1, ?_, a2, a3, a4, a5, a6, a7⟩
  show z_ev X d (35, 0, [some (.ref 41), some (.ref 37), some (.int (Int32.ofInt own)), some (.int (Int32.ofInt nx)), some (.int (Int32.ofInt dp)), none, none, none, none], [], mk S') = _
  rw [← a1]
  have eo : oI none = -1 := rfl
  simp (disch := first | omega | assumption | exact b01_rng _ | exact st_5 | exact st_12 | exact st_19 | (simp only [isSt_sI, isSt_sJ, isSt_sF, isSt_sG, isSt_sA]; assumption)) only [↓B35_0, ↓B35_7, ↓B35_9, ↓B35_20, ↓B35_30, ↓B35_38, ↓B35_48, ↓B35_56, ↓B35_61, ↓B35_70, ↓B35_81, ↓B35_89, ↓a_45, ↓a_46, ↓n_45, ↓n_46, ↓o_41, ↓r_41_3, ↓r_41_4, ↓s_45, ↓s_46, c38d, i_lit, i_add, i_sub, i_mul, i_neg, i_lt, i_le, i_eq, i32_gI, i64_gJ, i32_id, i32_to, i64_to, sI_i32, sJ_i64, b01_t, b01_f, i32_b01, b01_0, ↓a_s0, ↓n_s0, ↓a_s1, ↓n_s1, Int.add_zero, t_lt, f_lt, t_le, f_le, t_eq, f_eq, true_and, and_true, false_and, and_false, and_self, ↓reduceIte, z_bool_of, or_true, true_or, or_false, false_or, Int.neg_neg, not_true_eq_false, not_false_eq_true, lg_lt, lg_le, lg_gt, lg_ge, lg_eq, j_lit, j_add, j_sub, j_mul, j_neg, j_eq, i64_id, ij, ji, z_rt, Nat.reduceEqDiff, Nat.reduceAdd, Int.reduceAdd, Int.reduceSub, Int.reduceMul, Int.reduceNeg, Int.reduceLT, Int.reduceLE, Int.reduceEq, e46, eo]
