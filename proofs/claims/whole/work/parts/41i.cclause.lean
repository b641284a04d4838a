/-! CLAUSES: kind, times, sum, the second sum, test -/
abbrev Cl : Type := Int × Int × Option Ev × Option Ev × Option Ev
abbrev pO : Type := Nat ⊕ (Option Ev × (Nat × Int) × Nat)
def lift1 (r : pE) : pO := match r with
  | .inl e => .inl e
  | .inr (e, p, t) => .inr (some e, p, t)
def knw (ord c : Int) : Bool := if ord = 0 then decide (262 ≤ c ∧ c ≤ 264) else decide (276 ≤ c ∧ c ≤ 280 ∧ c ≠ 277)
def hasS (k : Int) : Bool := decide (k ≠ 263 ∧ k ≠ 264 ∧ k ≠ 280)
/-- the first sum, the second one, times, the test -/
def pSt1 (Sm : Rdr) (k : Int) (p : Nat × Int) (t : Nat) : pO := if hasS k = true then lift1 (Sm p t) else .inr (none, p, t)
def pSt2 (c : Nat → Int) (Sm : Rdr) (k : Int) (p : Nat × Int) (t : Nat) : pO := if k = 276 then (if c t = 277 then lift1 (Sm p (t + 1)) else .inl t) else .inr (none, p, t)
def pSt3 (c v : Nat → Int) (ord : Int) (t : Nat) : Nat ⊕ (Int × Nat) := if ord = 1 ∧ c t = 261 then (if c (t + 1) = 300 ∧ 1 ≤ v (t + 1) ∧ v (t + 1) ≤ 20 then .inr (v (t + 1), t + 2) else .inl (t + 1)) else .inr (1, t)
def pSt4 (c : Nat → Int) (Ts : Rdr) (p : Nat × Int) (t : Nat) : pO := if c t = 265 then lift1 (Ts p (t + 1)) else .inr (none, p, t)
abbrev pC : Type := Nat ⊕ (Cl × (Nat × Int) × Nat)
def pClause (c v : Nat → Int) (ord : Int) (Sm Ts : Rdr) (p : Nat × Int) (t : Nat) : pC :=
  if knw ord (c t) = true then (match pSt1 Sm (c t) p (t + 1) with
    | .inl e => .inl e
    | .inr (s, p1, t1) => match pSt2 c Sm (c t) p1 t1 with
      | .inl e => .inl e
      | .inr (u, p2, t2) => match pSt3 c v ord t2 with
        | .inl e => .inl e
        | .inr (k, t3) => match pSt4 c Ts p2 t3 with
          | .inl e => .inl e
          | .inr (q, p4, t4) => .inr ((c t, k, s, u, q), p4, t4)) else .inl t
/-- frames of clauses -/
def FrL (S S' : zS) : Prop := Dyn S S' ∧ (∀ a i, ¬ (a = 37 ∧ (i = 4 ∨ i = 5)) → ¬ (a = 52 ∧ i = 2) → ¬ (a = 53 ∧ (i = 2 ∨ i = 3 ∨ i = 4)) → a ≠ 54 → a ≠ 55 → gI S' a i = gI S a i) ∧ (∀ a i, gJ S' a i = gJ S a i) ∧ (∀ a i, gQ S' a i = gQ S a i)
theorem FrL.rf {S : zS} : FrL S S := ⟨Dyn.rf, fun _ _ _ _ _ _ _ => rfl, fun _ _ => rfl, fun _ _ => rfl⟩
theorem FrL.tr {A B C : zS} (h1 : FrL A B) (h2 : FrL B C) : FrL A C := ⟨h1.1.tr h2.1, fun a i q1 q2 q3 q4 q5 => (h2.2.1 a i q1 q2 q3 q4 q5).trans (h1.2.1 a i q1 q2 q3 q4 q5), fun a i => (h2.2.2.1 a i).trans (h1.2.2.1 a i), fun a i => (h2.2.2.2 a i).trans (h1.2.2.2 a i)⟩
theorem FrK.l {S S' : zS} (h : FrK S S') : FrL S S' := ⟨h.1, fun a i q1 q2 q3 q4 _ => h.2.1 a i q1 q2 (by omega) q4, h.2.2.1, h.2.2.2⟩
theorem FrL.I {S : zS} {a : Nat} {i x : Int} (h : a = 55 ∨ (a = 53 ∧ i = 2) ∨ (a = 37 ∧ (i = 4 ∨ i = 5))) : FrL S (sI S a i x) := ⟨Dyn.sI (by omega) Dyn.rf, fun b j q1 q2 q3 q4 q5 => by rw [gI_sI, if_neg (by omega)], fun _ _ => rfl, fun _ _ => rfl⟩
theorem e15 {X : zX} {d : Nat} (hd : 0 ≤ d) {S : zS} (q f x : Int) (hq : 0 ≤ q ∧ q < 12) (hf : 0 ≤ f ∧ f < 5) (hx : r32 x) : z_ev X d (z_entry 15 [.ref 53, .int (Int32.ofInt q), .int (Int32.ofInt f), .int (Int32.ofInt x)] (mk S)) = some (none, mk (sI S 55 (5 * q + f) x)) := by
  show z_ev X d (15, 0, [some (.ref 53), some (.int (Int32.ofInt q)), some (.int (Int32.ofInt f)), some (.int (Int32.ofInt x)), none], [], mk S) = _
  simp (disch := first | omega | assumption | exact b01_rng _ | exact st_5 | exact st_12 | exact st_19 | (simp only [isSt_sI, isSt_sJ, isSt_sF, isSt_sG, isSt_sA]; assumption)) only [↓B15_0, ↓B15_11, ↓B15_16, ↓B15_26, ↓B15_34, ↓a_55, ↓n_55, ↓r_53_1, ↓s_55, i_lit, i_add, i_sub, i_mul, i_neg, i_lt, i_le, i_eq, i32_gI, i64_gJ, i32_id, i32_to, i64_to, sI_i32, sJ_i64, b01_t, b01_f, i32_b01, b01_0, ↓a_s0, ↓n_s0, ↓a_s1, ↓n_s1, Int.add_zero, t_lt, f_lt, t_le, f_le, t_eq, f_eq, true_and, and_true, false_and, and_false, and_self, ↓reduceIte, z_bool_of, or_true, true_or, or_false, false_or, Int.neg_neg, not_true_eq_false, not_false_eq_true, lg_lt, lg_le, lg_gt, lg_ge, lg_eq, j_lit, j_add, j_sub, j_mul, j_neg, j_eq, i64_id, ij, ji, z_rt, Nat.reduceEqDiff, Nat.reduceAdd, Int.reduceAdd, Int.reduceSub, Int.reduceMul, Int.reduceNeg, Int.reduceLT, Int.reduceLE, Int.reduceEq]
theorem c15 {X : zX} {d : Nat} (hd : 0 < d) {S : zS} (q f x : Int) (hq : 0 ≤ q ∧ q < 12) (hf : 0 ≤ f ∧ f < 5) (hx : r32 x) {cm cp : Nat} {L : zL} {st : List Value} : z_evc X d 15 [.ref 53, .int (Int32.ofInt q), .int (Int32.ofInt f), .int (Int32.ofInt x)] (cm, cp, L, st, mk S) = z_ev X d (cm, cp, L, st, mk (sI S 55 (5 * q + f) x)) := z_evc_of (r := (none, mk (sI S 55 (5 * q + f) x))) (ck := (cm, cp, L, st, mk S)) hd (e15 (X := X) (Nat.le_refl _) q f x hq hf hx)
/-- behind a fault, to the clause's end -/
def DL (b : Int → Int) (n : Int) (T t : Nat) (f ord : Int) (S S' : zS) : Prop := Dead S' b n T t f ∧ FrL S S' ∧ KB S' ord
theorem DK.l {b : Int → Int} {n : Int} {T t : Nat} {f ord : Int} {S S' : zS} (h : DK b n T t f ord S S') : DL b n T t f ord S S' := ⟨h.1, h.2.1.l, h.2.2⟩
theorem DL.tr {b : Int → Int} {n : Int} {T t : Nat} {f ord : Int} {A B C : zS} (h1 : DL b n T t f ord A B) (h2 : DL b n T t f ord B C) : DL b n T t f ord A C := ⟨h2.1, h1.2.1.tr h2.2.1, h2.2.2⟩
theorem DL.put {b : Int → Int} {n : Int} {T t : Nat} {f ord : Int} {S : zS} {i x : Int} (h : Dead S b n T t f) (hK : KB S ord) : DL b n T t f ord S (sI S 55 i x) := by
  obtain ⟨k1, k2, k3, k4⟩ := hK
  exact ⟨h.fr (fun a i q => by rw [gI_sI, if_neg (by omega)]), FrL.I (Or.inl rfl), ⟨by (repeat (first | rw [gI_sI, if_neg (by omega)] | rw [gI_sF, if_neg (by omega)] | rw [gI_sJ] | rw [gI_sG] | rw [gI_sQ])); exact k1, by (repeat (first | rw [gI_sI, if_neg (by omega)] | rw [gI_sF, if_neg (by omega)] | rw [gI_sJ] | rw [gI_sG] | rw [gI_sQ])); exact k2, by (repeat (first | rw [gI_sI, if_neg (by omega)] | rw [gI_sF, if_neg (by omega)] | rw [gI_sJ] | rw [gI_sG] | rw [gI_sQ])); exact k3, k4⟩⟩
abbrev L2 (q k x4 : Int) : zL := [some (.ref 52), some (.ref 37), some (.int (Int32.ofInt q)), some (.int (Int32.ofInt k)), some (.int (Int32.ofInt x4))]
theorem dead_c233 {X : zX} {d : Nat} (hd : 1 ≤ d) {ord q k x4 : Int} {S : zS} (hf : gI S 37 5 ≠ -1) (hK : KB S ord) : z_ev X d (2, 233, L2 q k x4, [], mk S) = some (none, mk S) := by
  obtain ⟨-, -, k3, k4⟩ := hK
  rcases k4 with w | w
  · simp (disch := first | omega | assumption | exact b01_rng _ | exact st_5 | exact st_12 | exact st_19 | (simp only [isSt_sI, isSt_sJ, isSt_sF, isSt_sG, isSt_sA]; assumption)) only [↓B2_233, ↓B2_256, ↓B2_263, ↓B2_299, ↓o_37, ↓o_52, ↓o_53, ↓r_37_4, ↓r_52_0, ↓r_52_1, ↓r_53_3, c93a, i_lit, i_add, i_sub, i_mul, i_neg, i_lt, i_le, i_eq, i32_gI, i64_gJ, i32_id, i32_to, i64_to, sI_i32, sJ_i64, b01_t, b01_f, i32_b01, b01_0, ↓a_s0, ↓n_s0, ↓a_s1, ↓n_s1, Int.add_zero, t_lt, f_lt, t_le, f_le, t_eq, f_eq, true_and, and_true, false_and, and_false, and_self, ↓reduceIte, z_bool_of, or_true, true_or, or_false, false_or, Int.neg_neg, not_true_eq_false, not_false_eq_true, lg_lt, lg_le, lg_gt, lg_ge, lg_eq, j_lit, j_add, j_sub, j_mul, j_neg, j_eq, i64_id, ij, ji, z_rt, Nat.reduceEqDiff, Nat.reduceAdd, Int.reduceAdd, Int.reduceSub, Int.reduceMul, Int.reduceNeg, Int.reduceLT, Int.reduceLE, Int.reduceEq, k3]
  · simp (disch := first | omega | assumption | exact b01_rng _ | exact st_5 | exact st_12 | exact st_19 | (simp only [isSt_sI, isSt_sJ, isSt_sF, isSt_sG, isSt_sA]; assumption)) only [↓B2_233, ↓B2_240, ↓B2_247, ↓B2_256, ↓B2_263, ↓B2_299, ↓o_37, ↓o_52, ↓o_53, ↓r_37_4, ↓r_52_0, ↓r_52_1, ↓r_53_3, c93a, i_lit, i_add, i_sub, i_mul, i_neg, i_lt, i_le, i_eq, i32_gI, i64_gJ, i32_id, i32_to, i64_to, sI_i32, sJ_i64, b01_t, b01_f, i32_b01, b01_0, ↓a_s0, ↓n_s0, ↓a_s1, ↓n_s1, Int.add_zero, t_lt, f_lt, t_le, f_le, t_eq, f_eq, true_and, and_true, false_and, and_false, and_self, ↓reduceIte, z_bool_of, or_true, true_or, or_false, false_or, Int.neg_neg, not_true_eq_false, not_false_eq_true, lg_lt, lg_le, lg_gt, lg_ge, lg_eq, j_lit, j_add, j_sub, j_mul, j_neg, j_eq, i64_id, ij, ji, z_rt, Nat.reduceEqDiff, Nat.reduceAdd, Int.reduceAdd, Int.reduceSub, Int.reduceMul, Int.reduceNeg, Int.reduceLT, Int.reduceLE, Int.reduceEq, k3]
theorem dead_c222 {X : zX} {d : Nat} (hd : 1 ≤ d) {b : Int → Int} {n : Int} {T t : Nat} {f ord q k x4 : Int} {S : zS} (h : Dead S b n T t f) (hK : KB S ord) : ∃ S' : zS, z_ev X d (2, 222, L2 q k x4, [], mk S) = some (none, mk S') ∧ DL b n T t f ord S S' := by
  obtain ⟨S1, r1, w1, g1, -⟩ := dead_wr (X := X) (d := d) (by omega) h hK (op := 13) (ar := 0) (by omega) (by omega)
  refine ⟨S1, ?_, g1.l⟩
  rw [← dead_c233 (X := X) (d := d) hd (q := q) (k := k) (x4 := x4) (by rw [g1.1.2.1]; exact g1.1.2.2) g1.2.2]
  simp (disch := first | omega | assumption | exact b01_rng _ | exact st_5 | exact st_12 | exact st_19 | (simp only [isSt_sI, isSt_sJ, isSt_sF, isSt_sG, isSt_sA]; assumption)) only [↓B2_222, ↓B2_232, ↓o_37, ↓o_52, ↓o_53, ↓r_37_4, ↓r_52_0, ↓r_52_1, ↓r_53_3, w1, i_lit, i_add, i_sub, i_mul, i_neg, i_lt, i_le, i_eq, i32_gI, i64_gJ, i32_id, i32_to, i64_to, sI_i32, sJ_i64, b01_t, b01_f, i32_b01, b01_0, ↓a_s0, ↓n_s0, ↓a_s1, ↓n_s1, Int.add_zero, t_lt, f_lt, t_le, f_le, t_eq, f_eq, true_and, and_true, false_and, and_false, and_self, ↓reduceIte, z_bool_of, or_true, true_or, or_false, false_or, Int.neg_neg, not_true_eq_false, not_false_eq_true, lg_lt, lg_le, lg_gt, lg_ge, lg_eq, j_lit, j_add, j_sub, j_mul, j_neg, j_eq, i64_id, ij, ji, z_rt, Nat.reduceEqDiff, Nat.reduceAdd, Int.reduceAdd, Int.reduceSub, Int.reduceMul, Int.reduceNeg, Int.reduceLT, Int.reduceLE, Int.reduceEq]
theorem dead_c200 {X : zX} {d : Nat} (hd : 6 ≤ d) {b : Int → Int} {n : Int} {T t : Nat} {f ord q k x4 : Int} (hq : 0 ≤ q ∧ q < 12) {S : zS} (h : Dead S b n T t f) (hK : KB S ord) : ∃ S' : zS, z_ev X d (2, 200, L2 q k x4, [], mk S) = some (none, mk S') ∧ DL b n T t f ord S S' := by
  have hk := hK.1
  have g0 : DL b n T t f ord S (sI S 55 (5 * q + 3) (gI S 53 3)) := DL.put h hK
  obtain ⟨S1, a1, a2⟩ := dead_sum (X := X) (d := d - 1) (by omega) (dp := 0) g0.1 g0.2.2 (by omega)
  have k7 : ∀ {cm cp : Nat} {L : zL} {s : List Value}, z_evc X d 7 [.ref 52, .ref 37, .int (Int32.ofInt 0)] (cm, cp, L, s, mk (sI S 55 (5 * q + 3) (gI S 53 3))) = z_ev X d (cm, cp, L, s, mk S1) := fun {cm cp L s} => z_evc_of (r := (none, mk S1)) (ck := (cm, cp, L, s, mk (sI S 55 (5 * q + 3) (gI S 53 3)))) (show d - 1 < d by omega) a1
  obtain ⟨S2, e2, g2⟩ := dead_c222 (X := X) (d := d) (by omega) (q := q) (k := k) (x4 := x4) a2.1 a2.2.2
  refine ⟨S2, ?_, (g0.tr a2.l).tr g2⟩
  rw [← e2]
  simp (disch := first | omega | assumption | exact b01_rng _ | exact st_5 | exact st_12 | exact st_19 | (simp only [isSt_sI, isSt_sJ, isSt_sF, isSt_sG, isSt_sA]; assumption)) only [↓B2_200, ↓B2_216, ↓o_37, ↓o_52, ↓o_53, ↓r_37_4, ↓r_52_0, ↓r_52_1, ↓r_53_3, c15, k7, i_lit, i_add, i_sub, i_mul, i_neg, i_lt, i_le, i_eq, i32_gI, i64_gJ, i32_id, i32_to, i64_to, sI_i32, sJ_i64, b01_t, b01_f, i32_b01, b01_0, ↓a_s0, ↓n_s0, ↓a_s1, ↓n_s1, Int.add_zero, t_lt, f_lt, t_le, f_le, t_eq, f_eq, true_and, and_true, false_and, and_false, and_self, ↓reduceIte, z_bool_of, or_true, true_or, or_false, false_or, Int.neg_neg, not_true_eq_false, not_false_eq_true, lg_lt, lg_le, lg_gt, lg_ge, lg_eq, j_lit, j_add, j_sub, j_mul, j_neg, j_eq, i64_id, ij, ji, z_rt, Nat.reduceEqDiff, Nat.reduceAdd, Int.reduceAdd, Int.reduceSub, Int.reduceMul, Int.reduceNeg, Int.reduceLT, Int.reduceLE, Int.reduceEq]
theorem dead_c186 {X : zX} {d : Nat} (hd : 6 ≤ d) {b : Int → Int} {n : Int} {T t : Nat} {f ord q k x4 : Int} (hq : 0 ≤ q ∧ q < 12) (hkr : r32 k) {S : zS} (h : Dead S b n T t f) (hK : KB S ord) : ∃ S' : zS, z_ev X d (2, 186, L2 q k x4, [], mk S) = some (none, mk S') ∧ DL b n T t f ord S S' := by
  have hf : gI S 37 5 ≠ -1 := by rw [h.2.1]; exact h.2.2
  by_cases w : k = 276
  · obtain ⟨S2, e2, g2⟩ := dead_c200 (X := X) (d := d) hd (q := q) (k := k) (x4 := x4) hq h hK
    refine ⟨S2, ?_, g2⟩
    rw [← e2]
    simp (disch := first | omega | assumption | exact b01_rng _ | exact st_5 | exact st_12 | exact st_19 | (simp only [isSt_sI, isSt_sJ, isSt_sF, isSt_sG, isSt_sA]; assumption)) only [↓B2_186, ↓B2_193, ↓o_37, ↓o_52, ↓o_53, ↓r_37_4, ↓r_52_0, ↓r_52_1, ↓r_53_3, c94a, i_lit, i_add, i_sub, i_mul, i_neg, i_lt, i_le, i_eq, i32_gI, i64_gJ, i32_id, i32_to, i64_to, sI_i32, sJ_i64, b01_t, b01_f, i32_b01, b01_0, ↓a_s0, ↓n_s0, ↓a_s1, ↓n_s1, Int.add_zero, t_lt, f_lt, t_le, f_le, t_eq, f_eq, true_and, and_true, false_and, and_false, and_self, ↓reduceIte, z_bool_of, or_true, true_or, or_false, false_or, Int.neg_neg, not_true_eq_false, not_false_eq_true, lg_lt, lg_le, lg_gt, lg_ge, lg_eq, j_lit, j_add, j_sub, j_mul, j_neg, j_eq, i64_id, ij, ji, z_rt, Nat.reduceEqDiff, Nat.reduceAdd, Int.reduceAdd, Int.reduceSub, Int.reduceMul, Int.reduceNeg, Int.reduceLT, Int.reduceLE, Int.reduceEq]
  · refine ⟨S, ?_, h, FrL.rf, hK⟩
    rw [← dead_c233 (X := X) (d := d) (by omega) (q := q) (k := k) (x4 := x4) hf hK]
    simp (disch := first | omega | assumption | exact b01_rng _ | exact st_5 | exact st_12 | exact st_19 | (simp only [isSt_sI, isSt_sJ, isSt_sF, isSt_sG, isSt_sA]; assumption)) only [↓B2_186, i_lit, i_add, i_sub, i_mul, i_neg, i_lt, i_le, i_eq, i32_gI, i64_gJ, i32_id, i32_to, i64_to, sI_i32, sJ_i64, b01_t, b01_f, i32_b01, b01_0, ↓a_s0, ↓n_s0, ↓a_s1, ↓n_s1, Int.add_zero, t_lt, f_lt, t_le, f_le, t_eq, f_eq, true_and, and_true, false_and, and_false, and_self, ↓reduceIte, z_bool_of, or_true, true_or, or_false, false_or, Int.neg_neg, not_true_eq_false, not_false_eq_true, lg_lt, lg_le, lg_gt, lg_ge, lg_eq, j_lit, j_add, j_sub, j_mul, j_neg, j_eq, i64_id, ij, ji, z_rt, Nat.reduceEqDiff, Nat.reduceAdd, Int.reduceAdd, Int.reduceSub, Int.reduceMul, Int.reduceNeg, Int.reduceLT, Int.reduceLE, Int.reduceEq, w]
theorem dead_c175 {X : zX} {d : Nat} (hd : 6 ≤ d) {b : Int → Int} {n : Int} {T t : Nat} {f ord q k x4 : Int} (hq : 0 ≤ q ∧ q < 12) (hkr : r32 k) {S : zS} (h : Dead S b n T t f) (hK : KB S ord) : ∃ S' : zS, z_ev X d (2, 175, L2 q k x4, [], mk S) = some (none, mk S') ∧ DL b n T t f ord S S' := by
  obtain ⟨S1, r1, w1, g1, -⟩ := dead_wr (X := X) (d := d) (by omega) h hK (op := 13) (ar := 0) (by omega) (by omega)
  obtain ⟨S2, e2, g2⟩ := dead_c186 (X := X) (d := d) hd (q := q) (k := k) (x4 := x4) hq hkr g1.1 g1.2.2
  refine ⟨S2, ?_, g1.l.tr g2⟩
  rw [← e2]
  simp (disch := first | omega | assumption | exact b01_rng _ | exact st_5 | exact st_12 | exact st_19 | (simp only [isSt_sI, isSt_sJ, isSt_sF, isSt_sG, isSt_sA]; assumption)) only [↓B2_175, ↓B2_185, ↓o_37, ↓o_52, ↓o_53, ↓r_37_4, ↓r_52_0, ↓r_52_1, ↓r_53_3, w1, i_lit, i_add, i_sub, i_mul, i_neg, i_lt, i_le, i_eq, i32_gI, i64_gJ, i32_id, i32_to, i64_to, sI_i32, sJ_i64, b01_t, b01_f, i32_b01, b01_0, ↓a_s0, ↓n_s0, ↓a_s1, ↓n_s1, Int.add_zero, t_lt, f_lt, t_le, f_le, t_eq, f_eq, true_and, and_true, false_and, and_false, and_self, ↓reduceIte, z_bool_of, or_true, true_or, or_false, false_or, Int.neg_neg, not_true_eq_false, not_false_eq_true, lg_lt, lg_le, lg_gt, lg_ge, lg_eq, j_lit, j_add, j_sub, j_mul, j_neg, j_eq, i64_id, ij, ji, z_rt, Nat.reduceEqDiff, Nat.reduceAdd, Int.reduceAdd, Int.reduceSub, Int.reduceMul, Int.reduceNeg, Int.reduceLT, Int.reduceLE, Int.reduceEq]
/-- a part of a clause in the code: nothing, or from f on up to a stop -/
def CSeg (I : Ins) (sz : Int) (x : Option Ev) (f : Int) : Prop := match x with
  | none => f = -1
  | some e => 0 ≤ f ∧ ∃ (m : Int) (k : Nat), k ≤ 50 ∧ Seg I f m k e ∧ I m = (13, 0) ∧ m < sz
theorem CSeg.cg {I I' : Ins} {sz sz' : Int} {x : Option Ev} {f : Int} (h : CSeg I sz x f) (hI : ∀ i, 0 ≤ i → i < sz → I' i = I i) (hs : sz ≤ sz') : CSeg I' sz' x f := by
  cases x with
  | none => exact h
  | some e =>
    obtain ⟨h0, m, k, h1, h2, h3, h4⟩ := h
    have := h2.1
    exact ⟨h0, m, k, h1, h2.cg (fun i q1 q2 => hI i (by omega) (by omega)), by rw [hI m (by omega) h4]; exact h3, by omega⟩
/-- a clause's place in the text -/
def CCl (I : Ins) (sz : Int) (g : Int → Int) (q : Int) (cl : Cl) : Prop := g (5 * q) = cl.1 ∧ g (5 * q + 1) = cl.2.1 ∧ CSeg I sz cl.2.2.1 (g (5 * q + 2)) ∧ CSeg I sz cl.2.2.2.1 (g (5 * q + 3)) ∧ CSeg I sz cl.2.2.2.2 (g (5 * q + 4))
def xOK (x : Option Ev) (z : Int) : Prop := ∀ e, x = some e → EB e ∧ (z = 0 → NS e)
theorem xOK.mono {x : Option Ev} {z z' : Int} (h : xOK x z) (hz : z' = 0 → z = 0) : xOK x z' := fun e q => ⟨(h e q).1, fun w => (h e q).2 (hz w)⟩
def ClOK (cl : Cl) (z : Int) : Prop := xOK cl.2.2.1 z ∧ xOK cl.2.2.2.1 z ∧ xOK cl.2.2.2.2 z ∧ (∀ e, cl.2.2.2.2 = some e → E01 e) ∧ 1 ≤ cl.2.1 ∧ cl.2.1 ≤ 20
theorem ClOK.mono {cl : Cl} {z z' : Int} (h : ClOK cl z) (hz : z' = 0 → z = 0) : ClOK cl z' := ⟨h.1.mono hz, h.2.1.mono hz, h.2.2.1.mono hz, h.2.2.2⟩
/-- .. while it is read: the code stays below, the fields but for this clause's -/
def GdL (b : Int → Int) (n : Int) (T : Nat) (S0 : zS) (t0 : Nat) (ord : Int) (p0 : Nat × Int) (q : Int) (p : Nat × Int) (t : Nat) (S : zS) (stops : Int) : Prop := AlT S b n T t ∧ FrL S0 S ∧ LK S ord p ∧ gI S0 53 3 ≤ gI S 53 3 ∧ gI S 53 3 + t0 ≤ gI S0 53 3 + t + stops ∧ Low S0 S (gI S0 53 3) ∧ p0.1 ≤ p.1 ∧ p0.2 ≤ p.2 ∧ (∀ i, ¬ (5 * q ≤ i ∧ i < 5 * q + 5) → gI S 55 i = gI S0 55 i) ∧ gI S 53 2 = gI S0 53 2
/-- one sum or test of a clause, alive: field f tells where it begins, a stop is behind it -/
theorem seg_step {b : Int → Int} {n : Int} {T : Nat} {S0 S1 S2 : zS} {t0 t t1 : Nat} {ord : Int} {p0 p p1 : Nat × Int} {q fl stops : Int} {e : Ev} (hq : 0 ≤ q ∧ q < 12) (hf : 0 ≤ fl ∧ fl < 5) (hg : GdL b n T S0 t0 ord p0 q p t S1 stops) (hk : 0 ≤ gI S0 53 3 ∧ gI S1 53 3 ≤ 436) (hG : GoodK b n T (sI S1 55 (5 * q + fl) (gI S1 53 3)) t ord p e p1 t1 S2) (hS : gI S2 53 3 < 436) : GdL b n T S0 t0 ord p0 q p1 t1 (wrS S2 13 0) (stops + 1) ∧ gI (wrS S2 13 0) 55 (5 * q + fl) = gI S1 53 3 ∧ (∀ i, i ≠ 5 * q + fl → gI (wrS S2 13 0) 55 i = gI S1 55 i) ∧ CSeg (IC (wrS S2 13 0)) (gI (wrS S2 13 0) 53 3) (some e) (gI S1 53 3) ∧ (∀ i, i < gI S1 53 3 → IC (wrS S2 13 0) i = IC S1 i) ∧ gI S1 53 3 ≤ gI (wrS S2 13 0) 53 3 := by
  obtain ⟨a1, a2, a3, a4, a5, a6, a7, a8, a9, a10⟩ := hg
  obtain ⟨g1, g2, g3, g4, g5, g6, g7, g8, g9, g10, g11⟩ := hG
  have e53 : gI (sI S1 55 (5 * q + fl) (gI S1 53 3)) 53 3 = gI S1 53 3 := by (repeat (first | rw [gI_sI, if_neg (by omega)] | rw [gI_sF, if_neg (by omega)] | rw [gI_sJ] | rw [gI_sG] | rw [gI_sQ]))
  have e54 : ∀ i, gI (sI S1 55 (5 * q + fl) (gI S1 53 3)) 54 i = gI S1 54 i := fun i => by (repeat (first | rw [gI_sI, if_neg (by omega)] | rw [gI_sF, if_neg (by omega)] | rw [gI_sJ] | rw [gI_sG] | rw [gI_sQ]))
  rw [e53] at g4 g5 g6 g9
  have hk2 : 0 ≤ gI S2 53 3 ∧ gI S2 53 3 ≤ 436 := by omega
  have ek := wrS_k (op := 13) (ar := 0) hk2
  have e55 : ∀ i, gI (wrS S2 13 0) 55 i = gI (sI S1 55 (5 * q + fl) (gI S1 53 3)) 55 i := fun i => by rw [wrS_o (by omega) (by omega), g2.2.1 55 i (by omega) (by omega) (by omega) (by omega)]
  have lowI : ∀ i, i < gI S1 53 3 → IC (wrS S2 13 0) i = IC S1 i := fun i hi => by rw [wrS_lo (by omega)]; unfold IC; rw [g6 i hi, e54, g3.1, a3.1]
  refine ⟨⟨g1.fr (fun a i w => wrS_o (by omega) (by omega)), ((a2.tr (FrL.I (Or.inl rfl))).tr g2.l).tr FrK.wr.l, g3.fr (wrS_o (by omega) (by omega)) (wrS_o (by omega) (by omega)) (wrS_o (by omega) (by omega)), by rw [ek]; omega, by rw [ek]; omega, fun i hi => by rw [wrS_c (by omega), g6 i (by omega), e54, a6 i hi], by omega, by omega, fun i hi => by rw [e55, gI_sI, if_neg (by omega)]; exact a9 i hi, ?_⟩, ?_, ?_, ?_, lowI, by rw [ek]; omega⟩
  · rw [wrS_o (by omega) (by omega), g2.2.1 53 2 (by omega) (by omega) (by omega) (by omega), gI_sI, if_neg (by omega)]; exact a10
  · rw [e55, gI_sI, if_pos ⟨rfl, rfl⟩, i32_gI]
  · intro i hi; rw [e55, gI_sI, if_neg (by omega)]
  · have l4 := g3.2.2.2.1
    refine ⟨by omega, gI S2 53 3, p1.1 - p.1, by omega, g9.cg (fun i _ hi => wrS_lo hi), wrS_i (by omega) (by omega) (by omega), by rw [ek]; omega⟩
