/-! the class reads a metre: as the grammar tells -/
noncomputable def tc (b : Int → Int) (n : Int) (t : Nat) : Int := tC b n (tpos b n t)
noncomputable def tv (b : Int → Int) (n : Int) (t : Nat) : Int := tval b n (tpos b n t)
theorem TokAll.rg {S : zS} {b : Int → Int} {n : Int} {T t : Nat} (h : TokAll S b n T) (ht : t ≤ T) : r32 (tc b n t) := by
  have hr := gI_rng S 38 t
  rw [(h.code ht).1] at hr
  exact hr
theorem a91 {X : zX} {d : Nat} {S : zS} (hd : 0 < d) (b : Int → Int) (n : Int) (T t : Nat) (h : TokAll S b n T) (ht : t ≤ T) {cm cp : Nat} {L : zL} {st : List Value} : z_evc X d 91 [.ref 37, .int (Int32.ofInt t)] (cm, cp, L, st, mk S) = z_ev X d (cm, cp, L, .int (Int32.ofInt (tc b n t)) :: st, mk S) := c91 hd b n T t h ht
theorem a95c {X : zX} {d : Nat} {S : zS} (hd : 0 < d) (b : Int → Int) (n : Int) (T t : Nat) (lo hi : Int) (h : CTok S b n T t) (hf : gI S 37 5 = -1) (hl : r32 lo) (hh : r32 hi) (hc : tc b n t = 300) (h1 : lo ≤ tv b n t ∧ tv b n t ≤ hi) {cm cp : Nat} {L : zL} {st : List Value} : z_evc X d 95 [.ref 37, .int (Int32.ofInt lo), .int (Int32.ofInt hi)] (cm, cp, L, st, mk S) = z_ev X d (cm, cp, L, .int (Int32.ofInt (tv b n t)) :: st, mk (sI S 37 4 (t + 1))) := c95c hd b n T t lo hi h hf hl hh hc h1
theorem a95b {X : zX} {d : Nat} {S : zS} (hd : 0 < d) (b : Int → Int) (n : Int) (T t : Nat) (lo hi : Int) (h : CTok S b n T t) (hf : gI S 37 5 = -1) (hl : r32 lo) (hh : r32 hi) (hne : ¬ (tc b n t = 300 ∧ lo ≤ tv b n t ∧ tv b n t ≤ hi)) {cm cp : Nat} {L : zL} {st : List Value} : z_evc X d 95 [.ref 37, .int (Int32.ofInt lo), .int (Int32.ofInt hi)] (cm, cp, L, st, mk S) = z_ev X d (cm, cp, L, .int (Int32.ofInt (-1)) :: st, mk S) := c95b hd b n T t lo hi h hf hl hh (by
  have : tc b n t ≠ 300 ∨ tv b n t < lo ∨ hi < tv b n t := by omega
  exact this)
/-- at token t, nothing has failed -/
def AlT (S : zS) (b : Int → Int) (n : Int) (T t : Nat) : Prop := CTok S b n T t ∧ gI S 37 5 = -1
theorem AlT.put {S : zS} {b : Int → Int} {n : Int} {T t : Nat} (h : AlT S b n T t) {a : Nat} {i x : Int} (ha : 42 ≤ a ∧ a ≤ 46) : AlT (sI S a i x) b n T t :=
  ⟨⟨h.1.1.fr (fun a' i' q => by rw [gI_sI, if_neg (by omega)]) (by rw [gI_sI, if_neg (by omega)]), by rw [gI_sI, if_neg (by omega)]; exact h.1.2.1, h.1.2.2⟩, by rw [gI_sI, if_neg (by omega)]; exact h.2⟩
theorem AlT.go {S : zS} {b : Int → Int} {n : Int} {T t t' : Nat} (h : AlT S b n T t) (ht : t' ≤ T) : AlT (sI S 37 4 t') b n T t' := by
  have h3 := h.1.1.2.2.1
  exact ⟨⟨h.1.1.fr (fun a' i' q => by rw [gI_sI, if_neg (by omega)]) (by rw [gI_sI, if_neg (by omega)]), by rw [gI_sI, if_pos ⟨rfl, rfl⟩, i32_id (by omega) (by omega)], ht⟩, by rw [gI_sI, if_neg (by omega)]; exact h.2⟩
theorem AlT.lt {S : zS} {b : Int → Int} {n : Int} {T t : Nat} (h : AlT S b n T t) (hc : tc b n t ≠ 301) : t < T := by
  have := h.1.2.2
  apply Classical.byContradiction
  intro w
  have e : t = T := by omega
  subst e
  apply hc
  show tC b n (tpos b n t) = 301
  unfold tC; rw [if_pos h.1.1.2.1]
/-- the class's fault -/
theorem AlT.die {S : zS} {b : Int → Int} {n : Int} {T t : Nat} (h : AlT S b n T t) (hn : 0 ≤ n ∧ n ≤ 400) : Dead (sI S 37 5 (tpos b n t)) b n T t (tpos b n t) := by
  have hr := tpos_rng (b := b) hn.1 t
  exact ⟨⟨h.1.1.fr (fun a' i' q => by rw [gI_sI, if_neg (by omega)]) (by rw [gI_sI, if_neg (by omega)]), by rw [gI_sI, if_neg (by omega)]; exact h.1.2.1, h.1.2.2⟩, by rw [gI_sI, if_pos ⟨rfl, rfl⟩, i32_id (by omega) (by omega)], by omega⟩
theorem FrR.go {S : zS} {i x : Int} (h : i = 4 ∨ i = 5) : FrR S (sI S 37 i x) := ⟨Dyn.sI (by omega) Dyn.rf, fun b j q1 q2 => by rw [gI_sI, if_neg (by omega)], fun _ _ => rfl, fun _ _ => rfl⟩
/-- what is read between two tokens is kept there (and under own) -/
def FrI (S S' : zS) (lo hi own : Int) : Prop := FrR S S' ∧ ∀ a i, 42 ≤ a ∧ a ≤ 46 → ¬ (lo ≤ i ∧ i < hi) → ¬ (a = 46 ∧ i = own) → gI S' a i = gI S a i
/-- how a part comes out: a fault at e, or signs up to t1 and what holds then -/
def Out (X : zX) (b : Int → Int) (n : Int) (T : Nat) (S : zS) (t : Nat) (own : Int) (p : pR) (r : Option (Option Value × zM)) (W : zS → Nat → T3 → Prop) : Prop := match p with
  | .inl e => ∃ (S' : zS) (t' : Nat) (st : Int), r = some (some (.int (Int32.ofInt st)), mk S') ∧ -201 ≤ st ∧ st ≤ 201 ∧ Dead S' b n T t' (tpos b n e) ∧ FrR S S'
  | .inr (ops, t1) => ∃ (S' : zS) (x : T3), Den3 ops x ∧ OK3 x ∧ t < t1 ∧ r = some (some (.int (Int32.ofInt (min 201 x.2.1))), mk S') ∧ AlT S' b n T t1 ∧ FrI S S' t t1 own ∧ W S' t1 x
/-- "times" behind a unit, nothing having failed -/
theorem tail_ok {X : zX} {d : Nat} {b : Int → Int} {n : Int} {T u t : Nat} {dp st : Int} (hd : 2 ≤ d) (hn : 0 ≤ n ∧ n ≤ 400) (hst : 0 ≤ st ∧ st ≤ 201) (hu : u < 402) {S : zS} (h : AlT S b n T t) :
  (tc b n t = 261 → (tc b n (t + 1) = 300 ∧ 1 ≤ tv b n (t + 1) ∧ tv b n (t + 1) ≤ 9) → z_ev X d (32, 72, [some (.ref 41), some (.ref 37), some (.int (Int32.ofInt u)), some (.int (Int32.ofInt dp)), some (.int (Int32.ofInt st)), none], [], mk S) = some (some (.int (Int32.ofInt (min 201 (st * tv b n (t + 1))))), mk (sI (sI (sI S 37 4 (t + 1 : Nat)) 37 4 (t + 2 : Nat)) 42 u (tv b n (t + 1))))) ∧
  (tc b n t = 261 → ¬ (tc b n (t + 1) = 300 ∧ 1 ≤ tv b n (t + 1) ∧ tv b n (t + 1) ≤ 9) → z_ev X d (32, 72, [some (.ref 41), some (.ref 37), some (.int (Int32.ofInt u)), some (.int (Int32.ofInt dp)), some (.int (Int32.ofInt st)), none], [], mk S) = some (some (.int (Int32.ofInt (min 201 (st * (-1))))), mk (sI (sI (sI S 37 4 (t + 1 : Nat)) 37 5 (tpos b n (t + 1))) 42 u (-1)))) ∧
  (tc b n t ≠ 261 → z_ev X d (32, 72, [some (.ref 41), some (.ref 37), some (.int (Int32.ofInt u)), some (.int (Int32.ofInt dp)), some (.int (Int32.ofInt st)), none], [], mk S) = some (some (.int (Int32.ofInt (min 201 st))), mk (sI S 42 u 1))) := by
  have hm : min 201 (st * 1) = min 201 st := by rw [Int.mul_one]
  refine ⟨fun q ⟨q1, q2, q3⟩ => ?_, fun q q1 => ?_, fun q => ?_⟩
  · have ht := h.lt (by omega)
    have h1 := h.go (t' := t + 1) (by omega)
    have k93 := fun {cm cp : Nat} {L : zL} {s : List Value} => c93c (X := X) (d := d) (S := S) (by omega) b n T t 261 h.1 h.2 q (by omega) (cm := cm) (cp := cp) (L := L) (st := s)
    have k95 := fun {cm cp : Nat} {L : zL} {s : List Value} => a95c (X := X) (d := d) (S := sI S 37 4 (t + 1 : Nat)) (by omega) b n T (t + 1) 1 9 h1.1 h1.2 (by omega) (by omega) q1 ⟨q2, q3⟩ (cm := cm) (cp := cp) (L := L) (st := s)
    rw [show ((t : Int) + 1) = ((t + 1 : Nat) : Int) by omega] at k93
    rw [show (((t + 1 : Nat) : Int) + 1) = ((t + 2 : Nat) : Int) by omega] at k95
    have hb : 0 ≤ st * tv b n (t + 1) ∧ st * tv b n (t + 1) ≤ 201 * 9 := ⟨Int.mul_nonneg hst.1 (by omega), Int.mul_le_mul hst.2 q3 (by omega) (by omega)⟩
    simp (disch := first | omega | assumption | exact b01_rng _ | exact st_5 | exact st_12 | exact st_19 | (simp only [isSt_sI, isSt_sJ, isSt_sF, isSt_sG, isSt_sA]; assumption)) only [↓B32_0, ↓B32_8, ↓B32_13, ↓B32_19, ↓B32_25, ↓B32_34, ↓B32_42, ↓B32_45, ↓B32_50, ↓B32_53, ↓B32_56, ↓B32_62, ↓B32_65, ↓B32_68, ↓B32_72, ↓B32_79, ↓B32_82, ↓B32_89, ↓B32_92, ↓B32_93, ↓B32_101, ↓B32_105, ↓B32_115, ↓B32_126, ↓a_42, ↓n_42, ↓o_37, ↓o_41, ↓r_41_0, ↓s_42, k93, k95, c39, c273, i_lit, i_add, i_sub, i_mul, i_neg, i_lt, i_le, i_eq, i32_gI, i64_gJ, i32_id, i32_to, i64_to, sI_i32, sJ_i64, b01_t, b01_f, i32_b01, b01_0, ↓a_s0, ↓n_s0, ↓a_s1, ↓n_s1, Int.add_zero, t_lt, f_lt, t_le, f_le, t_eq, f_eq, true_and, and_true, false_and, and_false, and_self, ↓reduceIte, z_bool_of, or_true, true_or, or_false, false_or, Int.neg_neg, not_true_eq_false, not_false_eq_true, lg_lt, lg_le, lg_gt, lg_ge, lg_eq, j_lit, j_add, j_sub, j_mul, j_neg, j_eq, i64_id, ij, ji, z_rt, Nat.reduceEqDiff, Nat.reduceAdd, Int.reduceAdd, Int.reduceSub, Int.reduceMul, Int.reduceNeg, Int.reduceLT, Int.reduceLE, Int.reduceEq]
  · have ht := h.lt (by omega)
    have h1 := h.go (t' := t + 1) (by omega)
    have hr := tpos_rng (b := b) hn.1 (t + 1)
    have k93 := fun {cm cp : Nat} {L : zL} {s : List Value} => c93c (X := X) (d := d) (S := S) (by omega) b n T t 261 h.1 h.2 q (by omega) (cm := cm) (cp := cp) (L := L) (st := s)
    have k95 := fun {cm cp : Nat} {L : zL} {s : List Value} => a95b (X := X) (d := d) (S := sI S 37 4 (t + 1 : Nat)) (by omega) b n T (t + 1) 1 9 h1.1 h1.2 (by omega) (by omega) q1 (cm := cm) (cp := cp) (L := L) (st := s)
    have k92 := fun {cm cp : Nat} {L : zL} {s : List Value} => c92b (X := X) (d := d) (S := sI S 37 4 (t + 1 : Nat)) (by omega) b n T (t + 1) h1.1 h1.2 hn (cm := cm) (cp := cp) (L := L) (st := s)
    rw [show ((t : Int) + 1) = ((t + 1 : Nat) : Int) by omega] at k93
    simp (disch := first | omega | assumption | exact b01_rng _ | exact st_5 | exact st_12 | exact st_19 | (simp only [isSt_sI, isSt_sJ, isSt_sF, isSt_sG, isSt_sA]; assumption)) only [↓B32_0, ↓B32_8, ↓B32_13, ↓B32_19, ↓B32_25, ↓B32_34, ↓B32_42, ↓B32_45, ↓B32_50, ↓B32_53, ↓B32_56, ↓B32_62, ↓B32_65, ↓B32_68, ↓B32_72, ↓B32_79, ↓B32_82, ↓B32_89, ↓B32_92, ↓B32_93, ↓B32_101, ↓B32_105, ↓B32_115, ↓B32_126, ↓a_42, ↓n_42, ↓o_37, ↓o_41, ↓r_41_0, ↓s_42, k93, k95, k92, c39, c273, i_lit, i_add, i_sub, i_mul, i_neg, i_lt, i_le, i_eq, i32_gI, i64_gJ, i32_id, i32_to, i64_to, sI_i32, sJ_i64, b01_t, b01_f, i32_b01, b01_0, ↓a_s0, ↓n_s0, ↓a_s1, ↓n_s1, Int.add_zero, t_lt, f_lt, t_le, f_le, t_eq, f_eq, true_and, and_true, false_and, and_false, and_self, ↓reduceIte, z_bool_of, or_true, true_or, or_false, false_or, Int.neg_neg, not_true_eq_false, not_false_eq_true, lg_lt, lg_le, lg_gt, lg_ge, lg_eq, j_lit, j_add, j_sub, j_mul, j_neg, j_eq, i64_id, ij, ji, z_rt, Nat.reduceEqDiff, Nat.reduceAdd, Int.reduceAdd, Int.reduceSub, Int.reduceMul, Int.reduceNeg, Int.reduceLT, Int.reduceLE, Int.reduceEq]
  · have hr : r32 (tc b n t) := h.1.1.rg h.1.2.2
    have k93 := fun {cm cp : Nat} {L : zL} {s : List Value} => c93b (X := X) (d := d) (S := S) (by omega) b n T t 261 h.1 h.2 (by omega) q (cm := cm) (cp := cp) (L := L) (st := s)
    simp (disch := first | omega | assumption | exact b01_rng _ | exact st_5 | exact st_12 | exact st_19 | (simp only [isSt_sI, isSt_sJ, isSt_sF, isSt_sG, isSt_sA]; assumption)) only [↓B32_0, ↓B32_8, ↓B32_13, ↓B32_19, ↓B32_25, ↓B32_34, ↓B32_42, ↓B32_45, ↓B32_50, ↓B32_53, ↓B32_56, ↓B32_62, ↓B32_65, ↓B32_68, ↓B32_72, ↓B32_79, ↓B32_82, ↓B32_89, ↓B32_92, ↓B32_93, ↓B32_101, ↓B32_105, ↓B32_115, ↓B32_126, ↓a_42, ↓n_42, ↓o_37, ↓o_41, ↓r_41_0, ↓s_42, k93, c39, c273, i_lit, i_add, i_sub, i_mul, i_neg, i_lt, i_le, i_eq, i32_gI, i64_gJ, i32_id, i32_to, i64_to, sI_i32, sJ_i64, b01_t, b01_f, i32_b01, b01_0, ↓a_s0, ↓n_s0, ↓a_s1, ↓n_s1, Int.add_zero, t_lt, f_lt, t_le, f_le, t_eq, f_eq, true_and, and_true, false_and, and_false, and_self, ↓reduceIte, z_bool_of, or_true, true_or, or_false, false_or, Int.neg_neg, not_true_eq_false, not_false_eq_true, lg_lt, lg_le, lg_gt, lg_ge, lg_eq, j_lit, j_add, j_sub, j_mul, j_neg, j_eq, i64_id, ij, ji, z_rt, Nat.reduceEqDiff, Nat.reduceAdd, Int.reduceAdd, Int.reduceSub, Int.reduceMul, Int.reduceNeg, Int.reduceLT, Int.reduceLE, Int.reduceEq, Int.mul_one]
/-- .. and behind a fault -/
theorem tail_dead {X : zX} {d : Nat} {u : Nat} {dp st : Int} (hd : 2 ≤ d) (hst : -201 ≤ st ∧ st ≤ 201) (hu : u < 402) {S : zS} (h : gI S 37 5 ≠ -1) : z_ev X d (32, 72, [some (.ref 41), some (.ref 37), some (.int (Int32.ofInt u)), some (.int (Int32.ofInt dp)), some (.int (Int32.ofInt st)), none], [], mk S) = some (some (.int (Int32.ofInt (min 201 st))), mk (sI S 42 u 1)) := by
  simp (disch := first | omega | assumption | exact b01_rng _ | exact st_5 | exact st_12 | exact st_19 | (simp only [isSt_sI, isSt_sJ, isSt_sF, isSt_sG, isSt_sA]; assumption)) only [↓B32_0, ↓B32_8, ↓B32_13, ↓B32_19, ↓B32_25, ↓B32_34, ↓B32_42, ↓B32_45, ↓B32_50, ↓B32_53, ↓B32_56, ↓B32_62, ↓B32_65, ↓B32_68, ↓B32_72, ↓B32_79, ↓B32_82, ↓B32_89, ↓B32_92, ↓B32_93, ↓B32_101, ↓B32_105, ↓B32_115, ↓B32_126, ↓a_42, ↓n_42, ↓o_37, ↓o_41, ↓r_41_0, ↓s_42, c93a, c39, c273, i_lit, i_add, i_sub, i_mul, i_neg, i_lt, i_le, i_eq, i32_gI, i64_gJ, i32_id, i32_to, i64_to, sI_i32, sJ_i64, b01_t, b01_f, i32_b01, b01_0, ↓a_s0, ↓n_s0, ↓a_s1, ↓n_s1, Int.add_zero, t_lt, f_lt, t_le, f_le, t_eq, f_eq, true_and, and_true, false_and, and_false, and_self, ↓reduceIte, z_bool_of, or_true, true_or, or_false, false_or, Int.neg_neg, not_true_eq_false, not_false_eq_true, lg_lt, lg_le, lg_gt, lg_ge, lg_eq, j_lit, j_add, j_sub, j_mul, j_neg, j_eq, i64_id, ij, ji, z_rt, Nat.reduceEqDiff, Nat.reduceAdd, Int.reduceAdd, Int.reduceSub, Int.reduceMul, Int.reduceNeg, Int.reduceLT, Int.reduceLE, Int.reduceEq, Int.mul_one]
theorem min201 (s k : Nat) (hk : 1 ≤ k ∧ k ≤ 9) : min 201 (min 201 (s : Int) * (k : Int)) = min 201 ((k * s : Nat) : Int) := by
  rcases (show k = 1 ∨ k = 2 ∨ k = 3 ∨ k = 4 ∨ k = 5 ∨ k = 6 ∨ k = 7 ∨ k = 8 ∨ k = 9 by omega) with rfl | rfl | rfl | rfl | rfl | rfl | rfl | rfl | rfl <;> omega
theorem often3_1 (x : T3) : often3 x 1 = x := by
  unfold often3
  rw [lpow_1, Nat.one_mul]
  rfl
theorem FrI.put {S0 S : zS} {lo hi own : Int} (h : FrI S0 S lo hi own) {hi' : Int} (hh : hi ≤ hi') {a : Nat} {i x : Int} (ha : 42 ≤ a ∧ a ≤ 46) (hi2 : lo ≤ i ∧ i < hi' ∨ a = 46 ∧ i = own) : FrI S0 (sI S a i x) lo hi' own :=
  ⟨h.1.tr (FrR.put ha), fun b j q1 q2 q3 => by
    rw [gI_sI, if_neg (by rintro ⟨rfl, rfl⟩; exact hi2.elim q2 q3)]
    exact h.2 b j q1 (by omega) q3⟩
theorem FrI.go {S0 S : zS} {lo hi own : Int} (h : FrI S0 S lo hi own) {hi' : Int} (hh : hi ≤ hi') {i x : Int} (hi2 : i = 4 ∨ i = 5) : FrI S0 (sI S 37 i x) lo hi' own :=
  ⟨h.1.tr (FrR.go hi2), fun b j q1 q2 q3 => by
    rw [gI_sI, if_neg (by omega)]
    exact h.2 b j q1 (by omega) q3⟩
/-- the end of a unit that was read up to t, out of y's signs -/
theorem unit_end {X : zX} {d : Nat} {b : Int → Int} {n : Int} {T u t : Nat} {dp : Int} {ops : List Int} {y : T3} (hd : 2 ≤ d) (hn : 0 ≤ n ∧ n ≤ 400) (hu : u < t) (hdp : 0 ≤ dp ∧ dp ≤ 8) (h3 : Den3 ops y) (hO : OK3 y) {S0 S : zS} (h : AlT S b n T t) (hF : FrI S0 S u t u)
  (hc : (256 ≤ tc b n u ∧ tc b n u ≤ 259 ∧ y.1 = l1 (tc b n u - 256)) ∨ (tc b n u = 40 ∧ dp < 8 ∧ WM X b n T S (u + 1) t u (dp + 1) y)) : Out X b n T S0 u u (pTimes (tc b n) (tv b n) ops t) (z_ev X d (32, 72, [some (.ref 41), some (.ref 37), some (.int (Int32.ofInt u)), some (.int (Int32.ofInt dp)), some (.int (Int32.ofInt (min 201 y.2.1))), none], [], mk S)) (fun S' t1 x => WU X b n T S' t1 u dp x) := by
  have hT4 := h.1.1.2.2.1
  have huT : u ≤ T := by have := h.1.2.2; omega
  obtain ⟨k1, k2, k3⟩ := tail_ok (X := X) (d := d) (u := u) (dp := dp) (st := min 201 y.2.1) hd hn (by omega) (by omega) h
  have hO2 := hO.2.1
  have put : ∀ (S1 : zS) (t1 : Nat) (tm : Nat), 1 ≤ tm → tm ≤ 9 → t ≤ t1 → (∀ a i, 42 ≤ a ∧ a ≤ 46 → gI S1 a i = gI S a i) → WU X b n T (sI S1 42 u tm) t1 u dp (often3 y tm) := by
    intro S1 t1 tm a1 a2 a3 a4
    refine wu_all (x := y) hO2 hdp (by omega) ⟨a1, a2⟩ (by rw [gI_sI, if_pos ⟨rfl, rfl⟩, i32_id (by omega) (by omega)]) ?_
    rcases hc with w | ⟨w1, w2, w3⟩
    · exact Or.inl w
    · refine Or.inr ⟨w1, w2, w3.mono ?_ ?_ (by omega) (by omega)⟩
      · intro a i q1 q2 q3 q4
        rw [gI_sI, if_neg (by omega), a4 a i q1]
      · rw [gI_sI, if_neg (by omega), a4 46 _ (by omega)]
  unfold pTimes
  by_cases q : tc b n t = 261
  · rw [if_pos q]
    have ht := h.lt (by omega)
    by_cases q1 : tc b n (t + 1) = 300 ∧ 1 ≤ tv b n (t + 1) ∧ tv b n (t + 1) ≤ 9
    · rw [if_pos q1]
      have h1 := h.go (t' := t + 1) (by omega)
      have ht1 := h1.lt (by omega)
      obtain ⟨tm, htm⟩ : ∃ tm : Nat, tv b n (t + 1) = tm := ⟨(tv b n (t + 1)).toNat, by omega⟩
      have k1' := k1 q q1
      rw [htm] at k1' q1 ⊢
      have := (h3.often (k := tm) (by omega))
      rw [Int.toNat_natCast] at this
      have hO' : OK3 (often3 y tm) := by
        obtain ⟨w, rfl⟩ : ∃ w : Nat, tm = w + 1 := ⟨tm - 1, by omega⟩
        exact hO.often w
      refine ⟨_, often3 y tm, this, hO', by omega, ?_, (h1.go (t' := t + 2) (by omega)).put (by omega), ((hF.go (hi' := t) (by omega) (Or.inl rfl)).go (hi' := t) (by omega) (Or.inl rfl)).put (hi' := (t + 2 : Nat)) (by omega) (by omega) (Or.inl (by omega)), put _ _ tm (by omega) (by omega) (by omega) (fun a i q => by rw [gI_sI, if_neg (by omega), gI_sI, if_neg (by omega)])⟩
      rw [k1', min201 _ _ (by omega)]
      rfl
    · rw [if_neg q1]
      have h1 := h.go (t' := t + 1) (by omega)
      exact ⟨_, t + 1, _, k2 q q1, by omega, by omega, (h1.die hn).put (by omega), hF.1.tr ((FrR.go (Or.inl rfl)).tr ((FrR.go (Or.inr rfl)).tr (FrR.put (by omega))))⟩
  · rw [if_neg q]
    refine ⟨sI S 42 u 1, y, h3, hO, hu, by rw [k3 q, show min 201 (min 201 (y.2.1 : Int)) = min 201 (y.2.1 : Int) by omega], h.put (by omega), hF.put (Int.le_refl _) (by omega) (Or.inl (by omega)), ?_⟩
    have := put S t 1 (by omega) (by omega) (by omega) (fun _ _ _ => rfl)
    rw [often3_1] at this
    exact this
/-- a metre in brackets is read by f -/
def AlvM (X : zX) (b : Int → Int) (n : Int) (T : Nat) (d : Nat) (dp : Int) (f : Nat → pR) : Prop := ∀ (S : zS) (t : Nat) (own : Int), AlT S b n T t → (0 ≤ own ∧ own < t ∨ own = 401) → Out X b n T S t own (f t) (z_ev X d (z_entry 30 [.ref 41, .ref 37, .int (Int32.ofInt own), .int (Int32.ofInt dp)] (mk S))) (fun S' t1 x => WM X b n T S' t t1 own dp x)
theorem unit_al {X : zX} {d : Nat} {b : Int → Int} {n : Int} {T t : Nat} {dp : Int} {M : Option (Nat → pR)} (hd : 3 ≤ d) (hn : 0 ≤ n ∧ n ≤ 400) (hdp : 0 ≤ dp ∧ dp ≤ 8) (hM : (dp = 8 ∧ M = none) ∨ (dp < 8 ∧ ∃ f, M = some f ∧ AlvM X b n T (d - 1) (dp + 1) f)) {S : zS} (h : AlT S b n T t) : Out X b n T S t t (pUnit (tc b n) (tv b n) M t) (z_ev X d (z_entry 32 [.ref 41, .ref 37, .int (Int32.ofInt t), .int (Int32.ofInt dp)] (mk S))) (fun S' t1 x => WU X b n T S' t1 t dp x) := by
  have hT4 := h.1.1.2.2.1
  have htT := h.1.2.2
  have hr : r32 (tc b n t) := h.1.1.rg h.1.2.2
  have e0 : z_ev X d (z_entry 32 [.ref 41, .ref 37, .int (Int32.ofInt t), .int (Int32.ofInt dp)] (mk S)) = z_ev X d (32, 0, [some (.ref 41), some (.ref 37), some (.int (Int32.ofInt t)), some (.int (Int32.ofInt dp)), none, none], [], mk S) := rfl
  have k91 := fun {cm cp : Nat} {L : zL} {st : List Value} => a91 (X := X) (d := d) (S := S) (by omega) b n T t h.1.1 h.1.2.2 (cm := cm) (cp := cp) (L := L) (st := st)
  by_cases q : tc b n t = 40 ∧ dp < 8
  · obtain ⟨q1, q2⟩ := q
    rcases hM with ⟨w, -⟩ | ⟨-, f, rfl, hf⟩
    · omega
    · have ht := h.lt (by omega)
      have h1 := h.go (t' := t + 1) (by omega)
      have k94 := fun {cm cp : Nat} {L : zL} {s : List Value} => c94c (X := X) (d := d) (S := S) (by omega) b n T t 40 h.1 h.2 q1 (by omega) (cm := cm) (cp := cp) (L := L) (st := s)
      rw [show ((t : Int) + 1) = ((t + 1 : Nat) : Int) by omega] at k94
      have hf1 := hf (sI S 37 4 (t + 1 : Nat)) (t + 1) t h1 (Or.inl (by omega))
      have eP : pUnit (tc b n) (tv b n) (some f) t = (match f (t + 1) with | .inl e => .inl e | .inr (r, t1) => if tc b n t1 = 41 then pTimes (tc b n) (tv b n) r (t1 + 1) else .inl t1) := by
        show (if tc b n t = 40 then _ else _) = _
        rw [if_pos q1]
        cases f (t + 1) with
        | inl e => rfl
        | inr p => rfl
      rw [eP, e0]
      cases hp : f (t + 1) with
      | inl e =>
        rw [hp] at hf1
        obtain ⟨S1, t', st, a1, a2, a3, a4, a5⟩ := hf1
        have k30 : ∀ {cm cp : Nat} {L : zL} {s : List Value}, z_evc X d 30 [.ref 41, .ref 37, .int (Int32.ofInt t), .int (Int32.ofInt (dp + 1))] (cm, cp, L, s, mk (sI S 37 4 (t + 1 : Nat))) = z_ev X d (cm, cp, L, .int (Int32.ofInt st) :: s, mk S1) := fun {cm cp L s} => z_evc_of (r := (some (.int (Int32.ofInt st)), mk S1)) (ck := (cm, cp, L, s, mk (sI S 37 4 (t + 1 : Nat)))) (show d - 1 < d by omega) a1
        have hf1 : gI S1 37 5 ≠ -1 := by rw [a4.2.1]; exact a4.2.2
        refine ⟨sI S1 42 t 1, t', min 201 st, ?_, by omega, by omega, a4.put (by omega), (FrR.go (Or.inl rfl)).tr (a5.tr (FrR.put (by omega)))⟩
        rw [← tail_dead (X := X) (d := d) (u := t) (dp := dp) (by omega) ⟨a2, a3⟩ (by omega) hf1]
        simp (disch := first | omega | assumption | exact b01_rng _ | exact st_5 | exact st_12 | exact st_19 | (simp only [isSt_sI, isSt_sJ, isSt_sF, isSt_sG, isSt_sA]; assumption)) only [↓B32_0, ↓B32_8, ↓B32_13, ↓B32_19, ↓B32_25, ↓B32_34, ↓B32_42, ↓B32_45, ↓B32_50, ↓B32_53, ↓B32_56, ↓B32_62, ↓B32_65, ↓B32_68, ↓B32_79, ↓B32_82, ↓B32_89, ↓B32_92, ↓B32_93, ↓B32_101, ↓B32_105, ↓B32_115, ↓B32_126, ↓a_42, ↓n_42, ↓o_37, ↓o_41, ↓r_41_0, ↓s_42, k91, k94, k30, c94a, i_lit, i_add, i_sub, i_mul, i_neg, i_lt, i_le, i_eq, i32_gI, i64_gJ, i32_id, i32_to, i64_to, sI_i32, sJ_i64, b01_t, b01_f, i32_b01, b01_0, ↓a_s0, ↓n_s0, ↓a_s1, ↓n_s1, Int.add_zero, t_lt, f_lt, t_le, f_le, t_eq, f_eq, true_and, and_true, false_and, and_false, and_self, ↓reduceIte, z_bool_of, or_true, true_or, or_false, false_or, Int.neg_neg, not_true_eq_false, not_false_eq_true, lg_lt, lg_le, lg_gt, lg_ge, lg_eq, j_lit, j_add, j_sub, j_mul, j_neg, j_eq, i64_id, ij, ji, z_rt, Nat.reduceEqDiff, Nat.reduceAdd, Int.reduceAdd, Int.reduceSub, Int.reduceMul, Int.reduceNeg, Int.reduceLT, Int.reduceLE, Int.reduceEq, q1]
      | inr p =>
        obtain ⟨r, t1⟩ := p
        rw [hp] at hf1
        obtain ⟨S1, y, b1, b2, b3, a1, a2, a3, a4⟩ := hf1
        have k30 : ∀ {cm cp : Nat} {L : zL} {s : List Value}, z_evc X d 30 [.ref 41, .ref 37, .int (Int32.ofInt t), .int (Int32.ofInt (dp + 1))] (cm, cp, L, s, mk (sI S 37 4 (t + 1 : Nat))) = z_ev X d (cm, cp, L, .int (Int32.ofInt (min 201 y.2.1)) :: s, mk S1) := fun {cm cp L s} => z_evc_of (r := (some (.int (Int32.ofInt (min 201 y.2.1))), mk S1)) (ck := (cm, cp, L, s, mk (sI S 37 4 (t + 1 : Nat)))) (show d - 1 < d by omega) a1
        simp only []
        by_cases q4 : tc b n t1 = 41
        · rw [if_pos q4]
          have ht1 := a2.lt (by omega)
          have h2 := a2.go (t' := t1 + 1) (by omega)
          have k94b := fun {cm cp : Nat} {L : zL} {s : List Value} => c94c (X := X) (d := d) (S := S1) (by omega) b n T t1 41 a2.1 a2.2 q4 (by omega) (cm := cm) (cp := cp) (L := L) (st := s)
          rw [show ((t1 : Int) + 1) = ((t1 + 1 : Nat) : Int) by omega] at k94b
          have := unit_end (X := X) (d := d) (u := t) (dp := dp) (t := t1 + 1) (S0 := S) (S := sI S1 37 4 (t1 + 1 : Nat)) (by omega) hn (by omega) hdp b1 b2 h2 ?_ (Or.inr ⟨q1, q2, a4.mono (fun a i w1 w2 w3 w4 => by rw [gI_sI, if_neg (by omega)]) (by rw [gI_sI, if_neg (by omega)]) (by omega) (by omega)⟩)
          · rw [show z_ev X d (32, 0, [some (.ref 41), some (.ref 37), some (.int (Int32.ofInt t)), some (.int (Int32.ofInt dp)), none, none], [], mk S) = z_ev X d (32, 72, [some (.ref 41), some (.ref 37), some (.int (Int32.ofInt t)), some (.int (Int32.ofInt dp)), some (.int (Int32.ofInt (min 201 y.2.1))), none], [], mk (sI S1 37 4 (t1 + 1 : Nat))) from by simp (disch := first | omega | assumption | exact b01_rng _ | exact st_5 | exact st_12 | exact st_19 | (simp only [isSt_sI, isSt_sJ, isSt_sF, isSt_sG, isSt_sA]; assumption)) only [↓B32_0, ↓B32_8, ↓B32_13, ↓B32_19, ↓B32_25, ↓B32_34, ↓B32_42, ↓B32_45, ↓B32_50, ↓B32_53, ↓B32_56, ↓B32_62, ↓B32_65, ↓B32_68, ↓B32_79, ↓B32_82, ↓B32_89, ↓B32_92, ↓B32_93, ↓B32_101, ↓B32_105, ↓B32_115, ↓B32_126, ↓a_42, ↓n_42, ↓o_37, ↓o_41, ↓r_41_0, ↓s_42, k91, k94, k30, k94b, i_lit, i_add, i_sub, i_mul, i_neg, i_lt, i_le, i_eq, i32_gI, i64_gJ, i32_id, i32_to, i64_to, sI_i32, sJ_i64, b01_t, b01_f, i32_b01, b01_0, ↓a_s0, ↓n_s0, ↓a_s1, ↓n_s1, Int.add_zero, t_lt, f_lt, t_le, f_le, t_eq, f_eq, true_and, and_true, false_and, and_false, and_self, ↓reduceIte, z_bool_of, or_true, true_or, or_false, false_or, Int.neg_neg, not_true_eq_false, not_false_eq_true, lg_lt, lg_le, lg_gt, lg_ge, lg_eq, j_lit, j_add, j_sub, j_mul, j_neg, j_eq, i64_id, ij, ji, z_rt, Nat.reduceEqDiff, Nat.reduceAdd, Int.reduceAdd, Int.reduceSub, Int.reduceMul, Int.reduceNeg, Int.reduceLT, Int.reduceLE, Int.reduceEq, q1]]
            exact this
          · refine ⟨(FrR.go (Or.inl rfl)).tr (a3.1.tr (FrR.go (Or.inl rfl))), fun a i w1 w2 w3 => ?_⟩
            rw [gI_sI, if_neg (by omega), a3.2 a i w1 (by omega) (by omega), gI_sI, if_neg (by omega)]
        · rw [if_neg q4]
          have hr1 : r32 (tc b n t1) := a2.1.1.rg a2.1.2.2
          have k94b := fun {cm cp : Nat} {L : zL} {s : List Value} => c94b (X := X) (d := d) (S := S1) (by omega) b n T t1 41 a2.1 a2.2 hn (by omega) q4 (cm := cm) (cp := cp) (L := L) (st := s)
          have hD := a2.die hn
          refine ⟨sI (sI S1 37 5 (tpos b n t1)) 42 t 1, t1, min 201 (min 201 y.2.1), ?_, by omega, by omega, hD.put (by omega), (FrR.go (Or.inl rfl)).tr (a3.1.tr ((FrR.go (Or.inr rfl)).tr (FrR.put (by omega))))⟩
          rw [← tail_dead (X := X) (d := d) (u := t) (dp := dp) (by omega) (by omega) (by omega) (by rw [hD.2.1]; exact hD.2.2)]
          simp (disch := first | omega | assumption | exact b01_rng _ | exact st_5 | exact st_12 | exact st_19 | (simp only [isSt_sI, isSt_sJ, isSt_sF, isSt_sG, isSt_sA]; assumption)) only [↓B32_0, ↓B32_8, ↓B32_13, ↓B32_19, ↓B32_25, ↓B32_34, ↓B32_42, ↓B32_45, ↓B32_50, ↓B32_53, ↓B32_56, ↓B32_62, ↓B32_65, ↓B32_68, ↓B32_79, ↓B32_82, ↓B32_89, ↓B32_92, ↓B32_93, ↓B32_101, ↓B32_105, ↓B32_115, ↓B32_126, ↓a_42, ↓n_42, ↓o_37, ↓o_41, ↓r_41_0, ↓s_42, k91, k94, k30, k94b, i_lit, i_add, i_sub, i_mul, i_neg, i_lt, i_le, i_eq, i32_gI, i64_gJ, i32_id, i32_to, i64_to, sI_i32, sJ_i64, b01_t, b01_f, i32_b01, b01_0, ↓a_s0, ↓n_s0, ↓a_s1, ↓n_s1, Int.add_zero, t_lt, f_lt, t_le, f_le, t_eq, f_eq, true_and, and_true, false_and, and_false, and_self, ↓reduceIte, z_bool_of, or_true, true_or, or_false, false_or, Int.neg_neg, not_true_eq_false, not_false_eq_true, lg_lt, lg_le, lg_gt, lg_ge, lg_eq, j_lit, j_add, j_sub, j_mul, j_neg, j_eq, i64_id, ij, ji, z_rt, Nat.reduceEqDiff, Nat.reduceAdd, Int.reduceAdd, Int.reduceSub, Int.reduceMul, Int.reduceNeg, Int.reduceLT, Int.reduceLE, Int.reduceEq, q1]
  · by_cases q3 : 256 ≤ tc b n t ∧ tc b n t ≤ 259
    · have ht := h.lt (by omega)
      have h1 := h.go (t' := t + 1) (by omega)
      have k94 := fun {cm cp : Nat} {L : zL} {s : List Value} => c94c (X := X) (d := d) (S := S) (by omega) b n T t (tc b n t) h.1 h.2 rfl (by omega) (cm := cm) (cp := cp) (L := L) (st := s)
      rw [show ((t : Int) + 1) = ((t + 1 : Nat) : Int) by omega] at k94
      have eP : pUnit (tc b n) (tv b n) M t = pTimes (tc b n) (tv b n) [tc b n t - 256] (t + 1) := by
        cases M with
        | none => show (if _ then _ else _) = _; rw [if_pos q3]
        | some f => show (if _ then _ else if _ then _ else _) = _; rw [if_neg (by omega), if_pos q3]
      have := unit_end (X := X) (d := d) (u := t) (dp := dp) (t := t + 1) (S0 := S) (S := sI S 37 4 (t + 1 : Nat)) (by omega) hn (by omega) hdp (Den3.step (s := tc b n t - 256) (by omega)) (OK3.step (by omega)) h1 ⟨FrR.go (Or.inl rfl), fun a i w1 w2 w3 => by rw [gI_sI, if_neg (by omega)]⟩ (Or.inl ⟨q3.1, q3.2, rfl⟩)
      rw [eP, e0, show z_ev X d (32, 0, [some (.ref 41), some (.ref 37), some (.int (Int32.ofInt t)), some (.int (Int32.ofInt dp)), none, none], [], mk S) = z_ev X d (32, 72, [some (.ref 41), some (.ref 37), some (.int (Int32.ofInt t)), some (.int (Int32.ofInt dp)), some (.int (Int32.ofInt (min 201 ((1 : Nat) : Int)))), none], [], mk (sI S 37 4 (t + 1 : Nat))) from by
        have e1 : min 201 ((1 : Nat) : Int) = 1 := rfl
        rw [e1]
        simp (disch := first | omega | assumption | exact b01_rng _ | exact st_5 | exact st_12 | exact st_19 | (simp only [isSt_sI, isSt_sJ, isSt_sF, isSt_sG, isSt_sA]; assumption)) only [↓B32_0, ↓B32_8, ↓B32_13, ↓B32_19, ↓B32_25, ↓B32_34, ↓B32_42, ↓B32_45, ↓B32_50, ↓B32_53, ↓B32_56, ↓B32_62, ↓B32_65, ↓B32_68, ↓B32_79, ↓B32_82, ↓B32_89, ↓B32_92, ↓B32_93, ↓B32_101, ↓B32_105, ↓B32_115, ↓B32_126, ↓a_42, ↓n_42, ↓o_37, ↓o_41, ↓r_41_0, ↓s_42, k91, k94, c33, i_lit, i_add, i_sub, i_mul, i_neg, i_lt, i_le, i_eq, i32_gI, i64_gJ, i32_id, i32_to, i64_to, sI_i32, sJ_i64, b01_t, b01_f, i32_b01, b01_0, ↓a_s0, ↓n_s0, ↓a_s1, ↓n_s1, Int.add_zero, t_lt, f_lt, t_le, f_le, t_eq, f_eq, true_and, and_true, false_and, and_false, and_self, ↓reduceIte, z_bool_of, or_true, true_or, or_false, false_or, Int.neg_neg, not_true_eq_false, not_false_eq_true, lg_lt, lg_le, lg_gt, lg_ge, lg_eq, j_lit, j_add, j_sub, j_mul, j_neg, j_eq, i64_id, ij, ji, z_rt, Nat.reduceEqDiff, Nat.reduceAdd, Int.reduceAdd, Int.reduceSub, Int.reduceMul, Int.reduceNeg, Int.reduceLT, Int.reduceLE, Int.reduceEq]]
      exact this
    · have eP : pUnit (tc b n) (tv b n) M t = .inl t := by
        rcases hM with ⟨-, rfl⟩ | ⟨w, f, rfl, -⟩
        · show (if _ then _ else _) = _; rw [if_neg q3]
        · show (if _ then _ else if _ then _ else _) = _; rw [if_neg (by omega), if_neg q3]
      have hD := h.die hn
      have k92 := fun {cm cp : Nat} {L : zL} {s : List Value} => c92b (X := X) (d := d) (S := S) (by omega) b n T t h.1 h.2 hn (cm := cm) (cp := cp) (L := L) (st := s)
      rw [eP, e0]
      refine ⟨sI (sI S 37 5 (tpos b n t)) 42 t 1, t, min 201 1, ?_, by omega, by omega, hD.put (by omega), (FrR.go (Or.inr rfl)).tr (FrR.put (by omega))⟩
      rw [← tail_dead (X := X) (d := d) (u := t) (dp := dp) (by omega) (by omega) (by omega) (by rw [hD.2.1]; exact hD.2.2)]
      by_cases q4 : tc b n t = 40
      · simp (disch := first | omega | assumption | exact b01_rng _ | exact st_5 | exact st_12 | exact st_19 | (simp only [isSt_sI, isSt_sJ, isSt_sF, isSt_sG, isSt_sA]; assumption)) only [↓B32_0, ↓B32_8, ↓B32_13, ↓B32_19, ↓B32_25, ↓B32_34, ↓B32_42, ↓B32_45, ↓B32_50, ↓B32_53, ↓B32_56, ↓B32_62, ↓B32_65, ↓B32_68, ↓B32_79, ↓B32_82, ↓B32_89, ↓B32_92, ↓B32_93, ↓B32_101, ↓B32_105, ↓B32_115, ↓B32_126, ↓a_42, ↓n_42, ↓o_37, ↓o_41, ↓r_41_0, ↓s_42, k91, k92, c33, i_lit, i_add, i_sub, i_mul, i_neg, i_lt, i_le, i_eq, i32_gI, i64_gJ, i32_id, i32_to, i64_to, sI_i32, sJ_i64, b01_t, b01_f, i32_b01, b01_0, ↓a_s0, ↓n_s0, ↓a_s1, ↓n_s1, Int.add_zero, t_lt, f_lt, t_le, f_le, t_eq, f_eq, true_and, and_true, false_and, and_false, and_self, ↓reduceIte, z_bool_of, or_true, true_or, or_false, false_or, Int.neg_neg, not_true_eq_false, not_false_eq_true, lg_lt, lg_le, lg_gt, lg_ge, lg_eq, j_lit, j_add, j_sub, j_mul, j_neg, j_eq, i64_id, ij, ji, z_rt, Nat.reduceEqDiff, Nat.reduceAdd, Int.reduceAdd, Int.reduceSub, Int.reduceMul, Int.reduceNeg, Int.reduceLT, Int.reduceLE, Int.reduceEq, q4]
      · simp (disch := first | omega | assumption | exact b01_rng _ | exact st_5 | exact st_12 | exact st_19 | (simp only [isSt_sI, isSt_sJ, isSt_sF, isSt_sG, isSt_sA]; assumption)) only [↓B32_0, ↓B32_8, ↓B32_13, ↓B32_19, ↓B32_25, ↓B32_34, ↓B32_42, ↓B32_45, ↓B32_50, ↓B32_53, ↓B32_56, ↓B32_62, ↓B32_65, ↓B32_68, ↓B32_79, ↓B32_82, ↓B32_89, ↓B32_92, ↓B32_93, ↓B32_101, ↓B32_105, ↓B32_115, ↓B32_126, ↓a_42, ↓n_42, ↓o_37, ↓o_41, ↓r_41_0, ↓s_42, k91, k92, c33, i_lit, i_add, i_sub, i_mul, i_neg, i_lt, i_le, i_eq, i32_gI, i64_gJ, i32_id, i32_to, i64_to, sI_i32, sJ_i64, b01_t, b01_f, i32_b01, b01_0, ↓a_s0, ↓n_s0, ↓a_s1, ↓n_s1, Int.add_zero, t_lt, f_lt, t_le, f_le, t_eq, f_eq, true_and, and_true, false_and, and_false, and_self, ↓reduceIte, z_bool_of, or_true, true_or, or_false, false_or, Int.neg_neg, not_true_eq_false, not_false_eq_true, lg_lt, lg_le, lg_gt, lg_ge, lg_eq, j_lit, j_add, j_sub, j_mul, j_neg, j_eq, i64_id, ij, ji, z_rt, Nat.reduceEqDiff, Nat.reduceAdd, Int.reduceAdd, Int.reduceSub, Int.reduceMul, Int.reduceNeg, Int.reduceLT, Int.reduceLE, Int.reduceEq, q3]
/-- a choice: its units, one by one -/
theorem choice_row {X : zX} {d : Nat} {b : Int → Int} {n : Int} {T c0 : Nat} {dp : Int} {M : Option (Nat → pR)} (hd : 4 ≤ d) (hn : 0 ≤ n ∧ n ≤ 400) (hdp : 0 ≤ dp ∧ dp ≤ 8) (hM : (dp = 8 ∧ M = none) ∨ (dp < 8 ∧ ∃ f, M = some f ∧ AlvM X b n T (d - 2) (dp + 1) f)) {S0 : zS} : ∀ (m : Nat) (acc : List Int) (t : Nat) (S : zS) (st before k : Int) (x8 : Option Value), 500 ≤ m + t → AlT S b n T t → FrI S0 S c0 t c0 → 0 ≤ k → k < 400 → k + c0 ≤ t → ((acc = [] ∧ before = -1 ∧ st = 0 ∧ t = c0) ∨ ∃ (x : T3) (v : Nat), Den3 acc x ∧ OK3 x ∧ st = min 201 (x.2.1 : Int) ∧ before = ((v : Nat) : Int) ∧ c0 < t ∧ v < t ∧ WCh X b n T S c0 t v dp x) → Out X b n T S0 c0 c0 (pRow (pUnit (tc b n) (tv b n) M) (moreU (tc b n)) 4 m acc t) (z_ev X d (31, 12, [some (.ref 41), some (.ref 37), some (.int (Int32.ofInt c0)), some (.int (Int32.ofInt dp)), some (.int (Int32.ofInt st)), some (.int (Int32.ofInt before)), some (.int (Int32.ofInt 1)), some (.int (Int32.ofInt k)), x8], [], mk S)) (fun S' t1 x => WC X b n T S' t1 c0 dp x) := by
  intro m
  induction m with
  | zero =>
    intro acc t S st before k x8 h1 h2
    have := h2.1.2.2
    have := h2.1.1.2.2.1
    omega
  | succ m ih =>
    intro acc t S st before k x8 h1 h2 h3 hk0 hk1 hk2 h4
    have hT4 := h2.1.1.2.2.1
    have htT := h2.1.2.2
    have h5 := h2.1.2.1
    have hst : 0 ≤ st ∧ st ≤ 201 := by
      rcases h4 with ⟨-, -, w, -⟩ | ⟨x, v, -, -, w, -⟩ <;> omega
    have hbf : -1 ≤ before ∧ before < 402 := by
      rcases h4 with ⟨-, w, -⟩ | ⟨x, v, -, -, -, w, w2, w3, -⟩ <;> omega
    have hu := unit_al (X := X) (d := d - 1) (t := t) (dp := dp) (M := M) (by omega) hn hdp (by rw [show d - 1 - 1 = d - 2 by omega]; exact hM) h2
    have eP : pRow (pUnit (tc b n) (tv b n) M) (moreU (tc b n)) 4 (m + 1) acc t = (match pUnit (tc b n) (tv b n) M t with
      | .inl e => .inl e
      | .inr (r, t1) => match moreU (tc b n) t1 with
        | some t2 => pRow (pUnit (tc b n) (tv b n) M) (moreU (tc b n)) 4 m (if acc = [] then r else acc ++ r ++ [4]) t2
        | none => .inr (if acc = [] then r else acc ++ r ++ [4], t1)) := rfl
    rw [eP]
    cases hp : pUnit (tc b n) (tv b n) M t with
    | inl e =>
      clear h4
      rw [hp] at hu
      obtain ⟨S1, t', st1, a1, a2, a3, a4, a5⟩ := hu
      have k32 : ∀ {cm cp : Nat} {L : zL} {s : List Value}, z_evc X d 32 [.ref 41, .ref 37, .int (Int32.ofInt t), .int (Int32.ofInt dp)] (cm, cp, L, s, mk S) = z_ev X d (cm, cp, L, .int (Int32.ofInt st1) :: s, mk S1) := fun {cm cp L s} => z_evc_of (r := (some (.int (Int32.ofInt st1)), mk S1)) (ck := (cm, cp, L, s, mk S)) (show d - 1 < d by omega) a1
      have g6 := (a4.put (a := 43) (i := t) (x := before) (by omega))
      have hf1 : gI (sI S1 43 t before) 37 5 ≠ -1 := by rw [g6.2.1]; exact g6.2.2
      refine ⟨sI (sI S1 43 t before) 44 c0 t, t', min 201 (st + st1), ?_, by omega, by omega, g6.put (by omega), h3.1.tr (a5.tr ((FrR.put (by omega)).tr (FrR.put (by omega))))⟩
      have hne : ¬ (gI (sI S1 43 t before) 37 5 = -1) := hf1
      rw [B31_12]
      simp (disch := first | omega | assumption | exact b01_rng _ | exact st_5 | exact st_12 | exact st_19 | (simp only [isSt_sI, isSt_sJ, isSt_sF, isSt_sG, isSt_sA]; assumption)) only [↓B31_0, ↓B31_17, ↓B31_25, ↓B31_44, ↓B31_48, ↓B31_61, ↓B31_73, ↓B31_81, ↓B31_84, ↓B31_87, ↓B31_91, ↓B31_92, ↓B31_100, ↓B31_110, ↓a_43, ↓a_44, ↓n_43, ↓n_44, ↓o_37, ↓o_41, ↓r_37_4, ↓r_37_5, ↓r_41_1, ↓r_41_2, ↓s_43, ↓s_44, k32, c39, c273, i_lit, i_add, i_sub, i_mul, i_neg, i_lt, i_le, i_eq, i32_gI, i64_gJ, i32_id, i32_to, i64_to, sI_i32, sJ_i64, b01_t, b01_f, i32_b01, b01_0, ↓a_s0, ↓n_s0, ↓a_s1, ↓n_s1, Int.add_zero, t_lt, f_lt, t_le, f_le, t_eq, f_eq, true_and, and_true, false_and, and_false, and_self, ↓reduceIte, z_bool_of, or_true, true_or, or_false, false_or, Int.neg_neg, not_true_eq_false, not_false_eq_true, lg_lt, lg_le, lg_gt, lg_ge, lg_eq, j_lit, j_add, j_sub, j_mul, j_neg, j_eq, i64_id, ij, ji, z_rt, Nat.reduceEqDiff, Nat.reduceAdd, Int.reduceAdd, Int.reduceSub, Int.reduceMul, Int.reduceNeg, Int.reduceLT, Int.reduceLE, Int.reduceEq, h5, hne]
      rw [B31_12]
      simp (disch := first | omega | assumption | exact b01_rng _ | exact st_5 | exact st_12 | exact st_19 | (simp only [isSt_sI, isSt_sJ, isSt_sF, isSt_sG, isSt_sA]; assumption)) only [↓B31_0, ↓B31_17, ↓B31_25, ↓B31_44, ↓B31_48, ↓B31_61, ↓B31_73, ↓B31_81, ↓B31_84, ↓B31_87, ↓B31_91, ↓B31_92, ↓B31_100, ↓B31_110, ↓a_43, ↓a_44, ↓n_43, ↓n_44, ↓o_37, ↓o_41, ↓r_37_4, ↓r_37_5, ↓r_41_1, ↓r_41_2, ↓s_43, ↓s_44, c39, i_lit, i_add, i_sub, i_mul, i_neg, i_lt, i_le, i_eq, i32_gI, i64_gJ, i32_id, i32_to, i64_to, sI_i32, sJ_i64, b01_t, b01_f, i32_b01, b01_0, ↓a_s0, ↓n_s0, ↓a_s1, ↓n_s1, Int.add_zero, t_lt, f_lt, t_le, f_le, t_eq, f_eq, true_and, and_true, false_and, and_false, and_self, ↓reduceIte, z_bool_of, or_true, true_or, or_false, false_or, Int.neg_neg, not_true_eq_false, not_false_eq_true, lg_lt, lg_le, lg_gt, lg_ge, lg_eq, j_lit, j_add, j_sub, j_mul, j_neg, j_eq, i64_id, ij, ji, z_rt, Nat.reduceEqDiff, Nat.reduceAdd, Int.reduceAdd, Int.reduceSub, Int.reduceMul, Int.reduceNeg, Int.reduceLT, Int.reduceLE, Int.reduceEq]
    | inr p =>
      obtain ⟨r, t1⟩ := p
      rw [hp] at hu
      obtain ⟨S1, y, b1, b2, b3, a1, a2, a3, a4⟩ := hu
      have k32 : ∀ {cm cp : Nat} {L : zL} {s : List Value}, z_evc X d 32 [.ref 41, .ref 37, .int (Int32.ofInt t), .int (Int32.ofInt dp)] (cm, cp, L, s, mk S) = z_ev X d (cm, cp, L, .int (Int32.ofInt (min 201 y.2.1)) :: s, mk S1) := fun {cm cp L s} => z_evc_of (r := (some (.int (Int32.ofInt (min 201 y.2.1))), mk S1)) (ck := (cm, cp, L, s, mk S)) (show d - 1 < d by omega) a1
      have hO2 := b2.2.1
      have g2 := a2.put (a := 43) (i := t) (x := before) (by omega)
      have g3 : FrI S0 (sI S1 43 t before) c0 t1 c0 := by
        refine FrI.put (hi := t1) ⟨h3.1.tr a3.1, fun a i w1 w2 w3 => ?_⟩ (Int.le_refl _) (by omega) (Or.inl (by omega))
        rw [a3.2 a i w1 (by omega) (by omega)]
        exact h3.2 a i w1 (by omega) w3
      have g4 : WU X b n T (sI S1 43 t before) t1 t dp y := a4.mono (fun a i w1 w2 w3 w4 => by rw [gI_sI, if_neg (by rintro ⟨rfl, rfl⟩; exact w4 ⟨rfl, Or.inl rfl⟩)]) (Int.le_refl _)
      have e43 : gI (sI S1 43 t before) 43 t = before := by rw [gI_sI, if_pos ⟨rfl, rfl⟩, i32_id (by omega) (by omega)]
      have g5 : ∃ x : T3, Den3 (if acc = [] then r else acc ++ r ++ [4]) x ∧ OK3 x ∧ min 201 (st + min 201 (y.2.1 : Int)) = min 201 (x.2.1 : Int) ∧ WCh X b n T (sI S1 43 t before) c0 t1 t dp x := by
        rcases h4 with ⟨w1, w2, w3, w4⟩ | ⟨x, v, w1, w2, w3, w4, w5, w6, w7⟩
        · subst w4
          rw [if_pos w1]
          exact ⟨y, b1, b2, by omega, WCh.one hO2 g4 (by omega) (by rw [e43]; exact w2)⟩
        · rw [if_neg w1.ne]
          refine ⟨cat3 x y, w1.cat b1, w2.cat b2, ?_, WCh.cons w2.2.1 hO2 w7 (fun a i z1 z2 z3 z4 => ?_) (by omega) g4 (by omega) (by rw [e43]; exact w4)⟩
          · show _ = min 201 (((x.2.1 + y.2.1 : Nat) : Nat) : Int)
            omega
          · rw [gI_sI, if_neg (by omega), a3.2 a i z1 (by omega) (by omega)]
      clear h4
      obtain ⟨x, x1, x2, x3, x4⟩ := g5
      have k91 := fun {cm cp : Nat} {L : zL} {s : List Value} => a91 (X := X) (d := d) (S := sI S1 43 t before) (by omega) b n T t1 g2.1.1 g2.1.2.2 (cm := cm) (cp := cp) (L := L) (st := s)
      have hr : r32 (tc b n t1) := g2.1.1.rg g2.1.2.2
      have h6 := g2.1.2.1
      have h7 := g2.2
      simp only []
      by_cases q : begU (tc b n t1)
      · have eM : moreU (tc b n) t1 = some t1 := by unfold moreU; rw [if_pos q]
        rw [eM]
        have ht1 : t1 < T := g2.lt (by unfold begU at q; omega)
        have := ih (if acc = [] then r else acc ++ r ++ [4]) t1 (sI S1 43 t before) (min 201 (st + min 201 (y.2.1 : Int))) t (k + 1) (some (.int (Int32.ofInt t))) (by omega) g2 g3 (by omega) (by omega) (by omega) (Or.inr ⟨x, t, x1, x2, x3, rfl, by omega, b3, x4⟩)
        rw [show z_ev X d (31, 12, [some (.ref 41), some (.ref 37), some (.int (Int32.ofInt c0)), some (.int (Int32.ofInt dp)), some (.int (Int32.ofInt st)), some (.int (Int32.ofInt before)), some (.int (Int32.ofInt 1)), some (.int (Int32.ofInt k)), x8], [], mk S) = z_ev X d (31, 12, [some (.ref 41), some (.ref 37), some (.int (Int32.ofInt c0)), some (.int (Int32.ofInt dp)), some (.int (Int32.ofInt (min 201 (st + min 201 (y.2.1 : Int))))), some (.int (Int32.ofInt t)), some (.int (Int32.ofInt 1)), some (.int (Int32.ofInt (k + 1))), some (.int (Int32.ofInt t))], [], mk (sI S1 43 t before)) from by
          rw [B31_12]
          have q' : tc b n t1 = 40 ∨ 256 ≤ tc b n t1 ∧ tc b n t1 ≤ 259 := q
          have k34 : ∀ {cm cp : Nat} {L : zL} {s : List Value}, z_evc X d 34 [.int (Int32.ofInt (tc b n t1))] (cm, cp, L, s, mk (sI S1 43 t before)) = z_ev X d (cm, cp, L, .int (Int32.ofInt 1) :: s, mk (sI S1 43 t before)) := fun {cm cp L s} => by
            rw [c34 (by omega) _ hr, show b01 (tc b n t1 = 40 ∨ 256 ≤ tc b n t1 ∧ tc b n t1 ≤ 259) = 1 from if_pos q']
          simp (disch := first | omega | assumption | exact b01_rng _ | exact st_5 | exact st_12 | exact st_19 | (simp only [isSt_sI, isSt_sJ, isSt_sF, isSt_sG, isSt_sA]; assumption)) only [↓B31_0, ↓B31_17, ↓B31_25, ↓B31_44, ↓B31_48, ↓B31_61, ↓B31_73, ↓B31_81, ↓B31_84, ↓B31_87, ↓B31_91, ↓B31_92, ↓B31_100, ↓B31_110, ↓a_43, ↓a_44, ↓n_43, ↓n_44, ↓o_37, ↓o_41, ↓r_37_4, ↓r_37_5, ↓r_41_1, ↓r_41_2, ↓s_43, ↓s_44, k32, k91, k34, c39, c273, i_lit, i_add, i_sub, i_mul, i_neg, i_lt, i_le, i_eq, i32_gI, i64_gJ, i32_id, i32_to, i64_to, sI_i32, sJ_i64, b01_t, b01_f, i32_b01, b01_0, ↓a_s0, ↓n_s0, ↓a_s1, ↓n_s1, Int.add_zero, t_lt, f_lt, t_le, f_le, t_eq, f_eq, true_and, and_true, false_and, and_false, and_self, ↓reduceIte, z_bool_of, or_true, true_or, or_false, false_or, Int.neg_neg, not_true_eq_false, not_false_eq_true, lg_lt, lg_le, lg_gt, lg_ge, lg_eq, j_lit, j_add, j_sub, j_mul, j_neg, j_eq, i64_id, ij, ji, z_rt, Nat.reduceEqDiff, Nat.reduceAdd, Int.reduceAdd, Int.reduceSub, Int.reduceMul, Int.reduceNeg, Int.reduceLT, Int.reduceLE, Int.reduceEq, h5, h6, h7]]
        exact this
      · have eM : moreU (tc b n) t1 = none := by unfold moreU; rw [if_neg q]
        rw [eM]
        have g6 := g2.put (a := 44) (i := c0) (x := t) (by omega)
        refine ⟨sI (sI S1 43 t before) 44 c0 t, x, x1, x2, by omega, ?_, g6, g3.put (Int.le_refl _) (by omega) (Or.inl (by omega)), WC.of (u := t) hdp (x4.mono (fun a i z1 z2 z3 z4 => by rw [gI_sI, if_neg (by rintro ⟨rfl, rfl⟩; exact z4 ⟨rfl, Or.inl rfl⟩)]) (Int.le_refl _)) (by omega) (by rw [gI_sI, if_pos ⟨rfl, rfl⟩, i32_id (by omega) (by omega)])⟩
        have q' : ¬ (tc b n t1 = 40 ∨ 256 ≤ tc b n t1 ∧ tc b n t1 ≤ 259) := q
        have k34 : ∀ {cm cp : Nat} {L : zL} {s : List Value}, z_evc X d 34 [.int (Int32.ofInt (tc b n t1))] (cm, cp, L, s, mk (sI S1 43 t before)) = z_ev X d (cm, cp, L, .int (Int32.ofInt 0) :: s, mk (sI S1 43 t before)) := fun {cm cp L s} => by
          rw [c34 (by omega) _ hr, show b01 (tc b n t1 = 40 ∨ 256 ≤ tc b n t1 ∧ tc b n t1 ≤ 259) = 0 from if_neg q']
        rw [← x3, B31_12]
        simp (disch := first | omega | assumption | exact b01_rng _ | exact st_5 | exact st_12 | exact st_19 | (simp only [isSt_sI, isSt_sJ, isSt_sF, isSt_sG, isSt_sA]; assumption)) only [↓B31_0, ↓B31_17, ↓B31_25, ↓B31_44, ↓B31_48, ↓B31_61, ↓B31_73, ↓B31_81, ↓B31_84, ↓B31_87, ↓B31_91, ↓B31_92, ↓B31_100, ↓B31_110, ↓a_43, ↓a_44, ↓n_43, ↓n_44, ↓o_37, ↓o_41, ↓r_37_4, ↓r_37_5, ↓r_41_1, ↓r_41_2, ↓s_43, ↓s_44, k32, k91, k34, c39, c273, i_lit, i_add, i_sub, i_mul, i_neg, i_lt, i_le, i_eq, i32_gI, i64_gJ, i32_id, i32_to, i64_to, sI_i32, sJ_i64, b01_t, b01_f, i32_b01, b01_0, ↓a_s0, ↓n_s0, ↓a_s1, ↓n_s1, Int.add_zero, t_lt, f_lt, t_le, f_le, t_eq, f_eq, true_and, and_true, false_and, and_false, and_self, ↓reduceIte, z_bool_of, or_true, true_or, or_false, false_or, Int.neg_neg, not_true_eq_false, not_false_eq_true, lg_lt, lg_le, lg_gt, lg_ge, lg_eq, j_lit, j_add, j_sub, j_mul, j_neg, j_eq, i64_id, ij, ji, z_rt, Nat.reduceEqDiff, Nat.reduceAdd, Int.reduceAdd, Int.reduceSub, Int.reduceMul, Int.reduceNeg, Int.reduceLT, Int.reduceLE, Int.reduceEq, h5, h6, h7]
        rw [B31_12]
        simp (disch := first | omega | assumption | exact b01_rng _ | exact st_5 | exact st_12 | exact st_19 | (simp only [isSt_sI, isSt_sJ, isSt_sF, isSt_sG, isSt_sA]; assumption)) only [↓B31_0, ↓B31_17, ↓B31_25, ↓B31_44, ↓B31_48, ↓B31_61, ↓B31_73, ↓B31_81, ↓B31_84, ↓B31_87, ↓B31_91, ↓B31_92, ↓B31_100, ↓B31_110, ↓a_43, ↓a_44, ↓n_43, ↓n_44, ↓o_37, ↓o_41, ↓r_37_4, ↓r_37_5, ↓r_41_1, ↓r_41_2, ↓s_43, ↓s_44, c39, i_lit, i_add, i_sub, i_mul, i_neg, i_lt, i_le, i_eq, i32_gI, i64_gJ, i32_id, i32_to, i64_to, sI_i32, sJ_i64, b01_t, b01_f, i32_b01, b01_0, ↓a_s0, ↓n_s0, ↓a_s1, ↓n_s1, Int.add_zero, t_lt, f_lt, t_le, f_le, t_eq, f_eq, true_and, and_true, false_and, and_false, and_self, ↓reduceIte, z_bool_of, or_true, true_or, or_false, false_or, Int.neg_neg, not_true_eq_false, not_false_eq_true, lg_lt, lg_le, lg_gt, lg_ge, lg_eq, j_lit, j_add, j_sub, j_mul, j_neg, j_eq, i64_id, ij, ji, z_rt, Nat.reduceEqDiff, Nat.reduceAdd, Int.reduceAdd, Int.reduceSub, Int.reduceMul, Int.reduceNeg, Int.reduceLT, Int.reduceLE, Int.reduceEq]
theorem choice_al {X : zX} {d : Nat} {b : Int → Int} {n : Int} {T t : Nat} {dp : Int} {M : Option (Nat → pR)} (hd : 4 ≤ d) (hn : 0 ≤ n ∧ n ≤ 400) (hdp : 0 ≤ dp ∧ dp ≤ 8) (hM : (dp = 8 ∧ M = none) ∨ (dp < 8 ∧ ∃ f, M = some f ∧ AlvM X b n T (d - 2) (dp + 1) f)) {S : zS} (h : AlT S b n T t) : Out X b n T S t t (pCh (tc b n) (tv b n) M t) (z_ev X d (z_entry 31 [.ref 41, .ref 37, .int (Int32.ofInt t), .int (Int32.ofInt dp)] (mk S))) (fun S' t1 x => WC X b n T S' t1 t dp x) := by
  have := choice_row (X := X) (d := d) (c0 := t) (dp := dp) (M := M) hd hn hdp hM (S0 := S) 500 [] t S 0 (-1) 0 none (by omega) h ⟨FrR.rf, fun _ _ _ _ _ => rfl⟩ (by omega) (by omega) (by omega) (Or.inl ⟨rfl, rfl, rfl, rfl⟩)
  have e0 : z_ev X d (z_entry 31 [.ref 41, .ref 37, .int (Int32.ofInt t), .int (Int32.ofInt dp)] (mk S)) = z_ev X d (31, 0, [some (.ref 41), some (.ref 37), some (.int (Int32.ofInt t)), some (.int (Int32.ofInt dp)), none, none, none, none, none], [], mk S) := rfl
  rw [e0, B31_0]
  exact this
/-- a metre: its choices, one by one -/
theorem metre_row {X : zX} {d : Nat} {b : Int → Int} {n : Int} {T lo : Nat} {dp own : Int} {M : Option (Nat → pR)} (hd : 5 ≤ d) (hn : 0 ≤ n ∧ n ≤ 400) (hdp : 0 ≤ dp ∧ dp ≤ 8) (hown : 0 ≤ own ∧ own < lo ∨ own = 401) (hM : (dp = 8 ∧ M = none) ∨ (dp < 8 ∧ ∃ f, M = some f ∧ AlvM X b n T (d - 3) (dp + 1) f)) {S0 : zS} : ∀ (m : Nat) (acc : List Int) (t : Nat) (S : zS) (st before k : Int) (x8 : Option Value), 500 ≤ m + t → AlT S b n T t → FrI S0 S lo t own → 0 ≤ k → k < 400 → k + lo ≤ t → ((acc = [] ∧ before = -1 ∧ st = 0 ∧ t = lo) ∨ ∃ (x : T3) (v : Nat), Den3 acc x ∧ OK3 x ∧ st = min 201 (x.2.1 : Int) ∧ before = ((v : Nat) : Int) ∧ lo < t ∧ v < t ∧ WMh X b n T S lo t v dp x) → Out X b n T S0 lo own (pRow (pCh (tc b n) (tv b n) M) (moreC (tc b n)) 5 m acc t) (z_ev X d (30, 12, [some (.ref 41), some (.ref 37), some (.int (Int32.ofInt own)), some (.int (Int32.ofInt dp)), some (.int (Int32.ofInt st)), some (.int (Int32.ofInt before)), some (.int (Int32.ofInt 1)), some (.int (Int32.ofInt k)), x8], [], mk S)) (fun S' t1 x => WM X b n T S' lo t1 own dp x) := by
  intro m
  induction m with
  | zero =>
    intro acc t S st before k x8 h1 h2
    have := h2.1.2.2
    have := h2.1.1.2.2.1
    omega
  | succ m ih =>
    intro acc t S st before k x8 h1 h2 h3 hk0 hk1 hk2 h4
    have hT4 := h2.1.1.2.2.1
    have htT := h2.1.2.2
    have h5 := h2.1.2.1
    have hst : 0 ≤ st ∧ st ≤ 201 := by
      rcases h4 with ⟨-, -, w, -⟩ | ⟨x, v, -, -, w, -⟩ <;> omega
    have hbf : -1 ≤ before ∧ before < 402 := by
      rcases h4 with ⟨-, w, -⟩ | ⟨x, v, -, -, -, w, w2, w3, -⟩ <;> omega
    have hu := choice_al (X := X) (d := d - 1) (t := t) (dp := dp) (M := M) (by omega) hn hdp (by rw [show d - 1 - 2 = d - 3 by omega]; exact hM) h2
    have eP : pRow (pCh (tc b n) (tv b n) M) (moreC (tc b n)) 5 (m + 1) acc t = (match pCh (tc b n) (tv b n) M t with
      | .inl e => .inl e
      | .inr (r, t1) => match moreC (tc b n) t1 with
        | some t2 => pRow (pCh (tc b n) (tv b n) M) (moreC (tc b n)) 5 m (if acc = [] then r else acc ++ r ++ [5]) t2
        | none => .inr (if acc = [] then r else acc ++ r ++ [5], t1)) := rfl
    rw [eP]
    cases hp : pCh (tc b n) (tv b n) M t with
    | inl e =>
      clear h4
      rw [hp] at hu
      obtain ⟨S1, t', st1, a1, a2, a3, a4, a5⟩ := hu
      have k31 : ∀ {cm cp : Nat} {L : zL} {s : List Value}, z_evc X d 31 [.ref 41, .ref 37, .int (Int32.ofInt t), .int (Int32.ofInt dp)] (cm, cp, L, s, mk S) = z_ev X d (cm, cp, L, .int (Int32.ofInt st1) :: s, mk S1) := fun {cm cp L s} => z_evc_of (r := (some (.int (Int32.ofInt st1)), mk S1)) (ck := (cm, cp, L, s, mk S)) (show d - 1 < d by omega) a1
      have g6 := (a4.put (a := 45) (i := t) (x := before) (by omega))
      have hf1 : gI (sI S1 45 t before) 37 5 ≠ -1 := by rw [g6.2.1]; exact g6.2.2
      refine ⟨sI (sI S1 45 t before) 46 own t, t', min 201 (st + st1), ?_, by omega, by omega, g6.put (by omega), h3.1.tr (a5.tr ((FrR.put (by omega)).tr (FrR.put (by omega))))⟩
      rw [B30_12]
      simp (disch := first | omega | assumption | exact b01_rng _ | exact st_5 | exact st_12 | exact st_19 | (simp only [isSt_sI, isSt_sJ, isSt_sF, isSt_sG, isSt_sA]; assumption)) only [↓B30_0, ↓B30_17, ↓B30_25, ↓B30_44, ↓B30_48, ↓B30_61, ↓B30_72, ↓B30_80, ↓B30_90, ↓a_45, ↓a_46, ↓n_45, ↓n_46, ↓o_37, ↓o_41, ↓r_37_4, ↓r_41_3, ↓r_41_4, ↓s_45, ↓s_46, k31, c39, c93a, c273, i_lit, i_add, i_sub, i_mul, i_neg, i_lt, i_le, i_eq, i32_gI, i64_gJ, i32_id, i32_to, i64_to, sI_i32, sJ_i64, b01_t, b01_f, i32_b01, b01_0, ↓a_s0, ↓n_s0, ↓a_s1, ↓n_s1, Int.add_zero, t_lt, f_lt, t_le, f_le, t_eq, f_eq, true_and, and_true, false_and, and_false, and_self, ↓reduceIte, z_bool_of, or_true, true_or, or_false, false_or, Int.neg_neg, not_true_eq_false, not_false_eq_true, lg_lt, lg_le, lg_gt, lg_ge, lg_eq, j_lit, j_add, j_sub, j_mul, j_neg, j_eq, i64_id, ij, ji, z_rt, Nat.reduceEqDiff, Nat.reduceAdd, Int.reduceAdd, Int.reduceSub, Int.reduceMul, Int.reduceNeg, Int.reduceLT, Int.reduceLE, Int.reduceEq, h5]
      rw [B30_12]
      simp (disch := first | omega | assumption | exact b01_rng _ | exact st_5 | exact st_12 | exact st_19 | (simp only [isSt_sI, isSt_sJ, isSt_sF, isSt_sG, isSt_sA]; assumption)) only [↓B30_0, ↓B30_17, ↓B30_25, ↓B30_44, ↓B30_48, ↓B30_61, ↓B30_72, ↓B30_80, ↓B30_90, ↓a_45, ↓a_46, ↓n_45, ↓n_46, ↓o_37, ↓o_41, ↓r_37_4, ↓r_41_3, ↓r_41_4, ↓s_45, ↓s_46, c39, i_lit, i_add, i_sub, i_mul, i_neg, i_lt, i_le, i_eq, i32_gI, i64_gJ, i32_id, i32_to, i64_to, sI_i32, sJ_i64, b01_t, b01_f, i32_b01, b01_0, ↓a_s0, ↓n_s0, ↓a_s1, ↓n_s1, Int.add_zero, t_lt, f_lt, t_le, f_le, t_eq, f_eq, true_and, and_true, false_and, and_false, and_self, ↓reduceIte, z_bool_of, or_true, true_or, or_false, false_or, Int.neg_neg, not_true_eq_false, not_false_eq_true, lg_lt, lg_le, lg_gt, lg_ge, lg_eq, j_lit, j_add, j_sub, j_mul, j_neg, j_eq, i64_id, ij, ji, z_rt, Nat.reduceEqDiff, Nat.reduceAdd, Int.reduceAdd, Int.reduceSub, Int.reduceMul, Int.reduceNeg, Int.reduceLT, Int.reduceLE, Int.reduceEq]
    | inr p =>
      obtain ⟨r, t1⟩ := p
      rw [hp] at hu
      obtain ⟨S1, y, b1, b2, b3, a1, a2, a3, a4⟩ := hu
      have k31 : ∀ {cm cp : Nat} {L : zL} {s : List Value}, z_evc X d 31 [.ref 41, .ref 37, .int (Int32.ofInt t), .int (Int32.ofInt dp)] (cm, cp, L, s, mk S) = z_ev X d (cm, cp, L, .int (Int32.ofInt (min 201 y.2.1)) :: s, mk S1) := fun {cm cp L s} => z_evc_of (r := (some (.int (Int32.ofInt (min 201 y.2.1))), mk S1)) (ck := (cm, cp, L, s, mk S)) (show d - 1 < d by omega) a1
      have hO2 := b2.2.1
      have ht1T := a2.1.2.2
      have g2 := a2.put (a := 45) (i := t) (x := before) (by omega)
      have g3 : FrI S0 (sI S1 45 t before) lo t1 own := by
        refine FrI.put (hi := t1) ⟨h3.1.tr a3.1, fun a i w1 w2 w3 => ?_⟩ (Int.le_refl _) (by omega) (Or.inl (by omega))
        rw [a3.2 a i w1 (by omega) (by omega)]
        exact h3.2 a i w1 (by omega) w3
      have g4 : WC X b n T (sI S1 45 t before) t1 t dp y := a4.mono (fun a i w1 w2 w3 w4 => by rw [gI_sI, if_neg (by rintro ⟨rfl, rfl⟩; exact w4 ⟨rfl, rfl⟩)]) (Int.le_refl _)
      have e45 : gI (sI S1 45 t before) 45 t = before := by rw [gI_sI, if_pos ⟨rfl, rfl⟩, i32_id (by omega) (by omega)]
      have g5 : ∃ x : T3, Den3 (if acc = [] then r else acc ++ r ++ [5]) x ∧ OK3 x ∧ min 201 (st + min 201 (y.2.1 : Int)) = min 201 (x.2.1 : Int) ∧ WMh X b n T (sI S1 45 t before) lo t1 t dp x := by
        rcases h4 with ⟨w1, w2, w3, w4⟩ | ⟨x, v, w1, w2, w3, w4, w5, w6, w7⟩
        · subst w4
          rw [if_pos w1]
          exact ⟨y, b1, b2, by omega, WMh.one hO2 hdp (by omega) g4 (by rw [e45]; exact w2)⟩
        · rw [if_neg w1.ne]
          refine ⟨or3 x y, w1.or b1, w2.or b2, ?_, WMh.cons w2.2.1 hO2 hdp w7 (fun a i z1 z2 z3 z4 => ?_) (by omega) (by omega) g4 (by rw [e45]; exact w4)⟩
          · show _ = min 201 (((x.2.1 + y.2.1 : Nat) : Nat) : Int)
            omega
          · rw [gI_sI, if_neg (by omega), a3.2 a i z1 (by omega) (by omega)]
      clear h4
      obtain ⟨x, x1, x2, x3, x4⟩ := g5
      have hr : r32 (tc b n t1) := g2.1.1.rg g2.1.2.2
      simp only []
      by_cases q : tc b n t1 = 260
      · have eM : moreC (tc b n) t1 = some (t1 + 1) := by unfold moreC; rw [if_pos q]
        rw [eM]
        have ht1 : t1 < T := g2.lt (by omega)
        have g7 := g2.go (t' := t1 + 1) (by omega)
        have k93 := fun {cm cp : Nat} {L : zL} {s : List Value} => c93c (X := X) (d := d) (S := sI S1 45 t before) (by omega) b n T t1 260 g2.1 g2.2 q (by omega) (cm := cm) (cp := cp) (L := L) (st := s)
        rw [show ((t1 : Int) + 1) = ((t1 + 1 : Nat) : Int) by omega] at k93
        have := ih (if acc = [] then r else acc ++ r ++ [5]) (t1 + 1) (sI (sI S1 45 t before) 37 4 (t1 + 1 : Nat)) (min 201 (st + min 201 (y.2.1 : Int))) t (k + 1) (some (.int (Int32.ofInt t))) (by omega) g7 (g3.go (by omega) (Or.inl rfl)) (by omega) (by omega) (by omega) (Or.inr ⟨x, t, x1, x2, x3, rfl, by omega, by omega, x4.mono (fun a i z1 z2 z3 z4 => by rw [gI_sI, if_neg (by omega)]) (by omega)⟩)
        rw [show z_ev X d (30, 12, [some (.ref 41), some (.ref 37), some (.int (Int32.ofInt own)), some (.int (Int32.ofInt dp)), some (.int (Int32.ofInt st)), some (.int (Int32.ofInt before)), some (.int (Int32.ofInt 1)), some (.int (Int32.ofInt k)), x8], [], mk S) = z_ev X d (30, 12, [some (.ref 41), some (.ref 37), some (.int (Int32.ofInt own)), some (.int (Int32.ofInt dp)), some (.int (Int32.ofInt (min 201 (st + min 201 (y.2.1 : Int))))), some (.int (Int32.ofInt t)), some (.int (Int32.ofInt 1)), some (.int (Int32.ofInt (k + 1))), some (.int (Int32.ofInt t))], [], mk (sI (sI S1 45 t before) 37 4 (t1 + 1 : Nat))) from by
          rw [B30_12]
          simp (disch := first | omega | assumption | exact b01_rng _ | exact st_5 | exact st_12 | exact st_19 | (simp only [isSt_sI, isSt_sJ, isSt_sF, isSt_sG, isSt_sA]; assumption)) only [↓B30_0, ↓B30_17, ↓B30_25, ↓B30_44, ↓B30_48, ↓B30_61, ↓B30_72, ↓B30_80, ↓B30_90, ↓a_45, ↓a_46, ↓n_45, ↓n_46, ↓o_37, ↓o_41, ↓r_37_4, ↓r_41_3, ↓r_41_4, ↓s_45, ↓s_46, k31, k93, c39, c273, i_lit, i_add, i_sub, i_mul, i_neg, i_lt, i_le, i_eq, i32_gI, i64_gJ, i32_id, i32_to, i64_to, sI_i32, sJ_i64, b01_t, b01_f, i32_b01, b01_0, ↓a_s0, ↓n_s0, ↓a_s1, ↓n_s1, Int.add_zero, t_lt, f_lt, t_le, f_le, t_eq, f_eq, true_and, and_true, false_and, and_false, and_self, ↓reduceIte, z_bool_of, or_true, true_or, or_false, false_or, Int.neg_neg, not_true_eq_false, not_false_eq_true, lg_lt, lg_le, lg_gt, lg_ge, lg_eq, j_lit, j_add, j_sub, j_mul, j_neg, j_eq, i64_id, ij, ji, z_rt, Nat.reduceEqDiff, Nat.reduceAdd, Int.reduceAdd, Int.reduceSub, Int.reduceMul, Int.reduceNeg, Int.reduceLT, Int.reduceLE, Int.reduceEq, h5]]
        exact this
      · have eM : moreC (tc b n) t1 = none := by unfold moreC; rw [if_neg q]
        rw [eM]
        have g6 := g2.put (a := 46) (i := own) (x := t) (by omega)
        have k93 := fun {cm cp : Nat} {L : zL} {s : List Value} => c93b (X := X) (d := d) (S := sI S1 45 t before) (by omega) b n T t1 260 g2.1 g2.2 (by omega) q (cm := cm) (cp := cp) (L := L) (st := s)
        refine ⟨sI (sI S1 45 t before) 46 own t, x, x1, x2, by omega, ?_, g6, g3.put (Int.le_refl _) (by omega) (Or.inr ⟨rfl, rfl⟩), WM.of (c := t) hdp (x4.mono (fun a i z1 z2 z3 z4 => by rw [gI_sI, if_neg (by omega)]) (Int.le_refl _)) (by omega) (by rw [gI_sI, if_pos ⟨rfl, rfl⟩, i32_id (by omega) (by omega)])⟩
        rw [← x3, B30_12]
        simp (disch := first | omega | assumption | exact b01_rng _ | exact st_5 | exact st_12 | exact st_19 | (simp only [isSt_sI, isSt_sJ, isSt_sF, isSt_sG, isSt_sA]; assumption)) only [↓B30_0, ↓B30_17, ↓B30_25, ↓B30_44, ↓B30_48, ↓B30_61, ↓B30_72, ↓B30_80, ↓B30_90, ↓a_45, ↓a_46, ↓n_45, ↓n_46, ↓o_37, ↓o_41, ↓r_37_4, ↓r_41_3, ↓r_41_4, ↓s_45, ↓s_46, k31, k93, c39, c273, i_lit, i_add, i_sub, i_mul, i_neg, i_lt, i_le, i_eq, i32_gI, i64_gJ, i32_id, i32_to, i64_to, sI_i32, sJ_i64, b01_t, b01_f, i32_b01, b01_0, ↓a_s0, ↓n_s0, ↓a_s1, ↓n_s1, Int.add_zero, t_lt, f_lt, t_le, f_le, t_eq, f_eq, true_and, and_true, false_and, and_false, and_self, ↓reduceIte, z_bool_of, or_true, true_or, or_false, false_or, Int.neg_neg, not_true_eq_false, not_false_eq_true, lg_lt, lg_le, lg_gt, lg_ge, lg_eq, j_lit, j_add, j_sub, j_mul, j_neg, j_eq, i64_id, ij, ji, z_rt, Nat.reduceEqDiff, Nat.reduceAdd, Int.reduceAdd, Int.reduceSub, Int.reduceMul, Int.reduceNeg, Int.reduceLT, Int.reduceLE, Int.reduceEq, h5]
        rw [B30_12]
        simp (disch := first | omega | assumption | exact b01_rng _ | exact st_5 | exact st_12 | exact st_19 | (simp only [isSt_sI, isSt_sJ, isSt_sF, isSt_sG, isSt_sA]; assumption)) only [↓B30_0, ↓B30_17, ↓B30_25, ↓B30_44, ↓B30_48, ↓B30_61, ↓B30_72, ↓B30_80, ↓B30_90, ↓a_45, ↓a_46, ↓n_45, ↓n_46, ↓o_37, ↓o_41, ↓r_37_4, ↓r_41_3, ↓r_41_4, ↓s_45, ↓s_46, c39, i_lit, i_add, i_sub, i_mul, i_neg, i_lt, i_le, i_eq, i32_gI, i64_gJ, i32_id, i32_to, i64_to, sI_i32, sJ_i64, b01_t, b01_f, i32_b01, b01_0, ↓a_s0, ↓n_s0, ↓a_s1, ↓n_s1, Int.add_zero, t_lt, f_lt, t_le, f_le, t_eq, f_eq, true_and, and_true, false_and, and_false, and_self, ↓reduceIte, z_bool_of, or_true, true_or, or_false, false_or, Int.neg_neg, not_true_eq_false, not_false_eq_true, lg_lt, lg_le, lg_gt, lg_ge, lg_eq, j_lit, j_add, j_sub, j_mul, j_neg, j_eq, i64_id, ij, ji, z_rt, Nat.reduceEqDiff, Nat.reduceAdd, Int.reduceAdd, Int.reduceSub, Int.reduceMul, Int.reduceNeg, Int.reduceLT, Int.reduceLE, Int.reduceEq]
theorem metre_al {X : zX} {d : Nat} {b : Int → Int} {n : Int} {T : Nat} {dp : Int} {M : Option (Nat → pR)} (hd : 5 ≤ d) (hn : 0 ≤ n ∧ n ≤ 400) (hdp : 0 ≤ dp ∧ dp ≤ 8) (hM : (dp = 8 ∧ M = none) ∨ (dp < 8 ∧ ∃ f, M = some f ∧ AlvM X b n T (d - 3) (dp + 1) f)) : AlvM X b n T d dp (pMe (tc b n) (tv b n) M) := by
  intro S t own h ho
  have := metre_row (X := X) (d := d) (lo := t) (dp := dp) (own := own) (M := M) hd hn hdp ho hM (S0 := S) 500 [] t S 0 (-1) 0 none (by omega) h ⟨FrR.rf, fun _ _ _ _ _ => rfl⟩ (by omega) (by omega) (by omega) (Or.inl ⟨rfl, rfl, rfl, rfl⟩)
  have e0 : z_ev X d (z_entry 30 [.ref 41, .ref 37, .int (Int32.ofInt own), .int (Int32.ofInt dp)] (mk S)) = z_ev X d (30, 0, [some (.ref 41), some (.ref 37), some (.int (Int32.ofInt own)), some (.int (Int32.ofInt dp)), none, none, none, none, none], [], mk S) := rfl
  rw [e0, B30_0]
  exact this
theorem metre_all {X : zX} {b : Int → Int} {n : Int} {T : Nat} (hn : 0 ≤ n ∧ n ≤ 400) : ∀ (k d : Nat), 5 + 3 * k ≤ d → k ≤ 8 → AlvM X b n T d (8 - k) (pM (tc b n) (tv b n) k) := by
  intro k
  induction k with
  | zero => intro d hd hk; exact metre_al (by omega) hn (by omega) (Or.inl ⟨by omega, rfl⟩)
  | succ k ih =>
    intro d hd hk
    refine metre_al (by omega) hn (by omega) (Or.inr ⟨by omega, _, rfl, ?_⟩)
    have := ih (d - 3) (by omega) (by omega)
    rwa [show (8 : Int) - ((k + 1 : Nat) : Int) + 1 = 8 - (k : Int) by omega]
