/-! the reference's loop over an expression -/
noncomputable def hd6 (X : zX) (d : Nat) (ts tn : Int) (S : zS) : Option (Option Value × zM) := z_ev X d (196, 20, [some (.ref 72), some (.int (Int32.ofInt ts)), some (.int (Int32.ofInt tn))], [], mk S)
theorem pile_cut (least : Int) : ∀ P : List En, ∃ Q R : List En, P = Q ++ R ∧ (∀ y ∈ Q, least ≤ bnd y.1) ∧ (∀ y r, R = y :: r → bnd y.1 < least) := by
  intro P
  induction P with
  | nil => exact ⟨[], [], rfl, (fun _ w => by cases w), (fun _ _ w => by cases w)⟩
  | cons y P ih =>
    obtain ⟨Q, R, h1, h2, h3⟩ := ih
    by_cases q : least ≤ bnd y.1
    · refine ⟨y :: Q, R, by rw [h1]; rfl, fun z hz => ?_, h3⟩
      rcases List.mem_cons.mp hz with w | w
      · rw [w]; exact q
      · exact h2 z w
    · refine ⟨[], y :: P, rfl, (fun _ w => by cases w), fun z r w => ?_⟩
      cases w; omega
theorem hd6_bad {X : zX} {d : Nat} (hd : 2 ≤ d) {S : zS} {f ts tn : Int} (h : RBd S f) : ∃ S' : zS, hd6 X d ts tn S = some (none, mk S') ∧ RBad S' f ∧ FrE S S' := by
  obtain ⟨⟨h19, h18⟩, P, k, r1, r2, r3, r4, r5, r6⟩ := h
  obtain ⟨Q, R, e1, e2, e3⟩ := pile_cut 1 P
  subst e1
  have hea := emi_app Q R
  obtain ⟨S', b1, -, -, -, -, b6, -⟩ := l185 (X := X) (d := 1) (by omega) (ord := 0) (least := 1) (by omega) Q R S k r1 r6 r2 r3 r4 (by omega) e2 e3
  have k185 : ∀ {cm cp : Nat} {L : zL} {st : List Value}, z_evc X d 185 [.ref 72, .int (Int32.ofInt 1)] (cm, cp, L, st, mk S) = z_ev X d (cm, cp, L, st, mk S') := fun {cm cp L st} => z_evc_of (r := (none, mk S')) (ck := (cm, cp, L, st, mk S)) (show 1 < d by omega) b1
  refine ⟨S', ?_, ⟨by rw [b6.all _ _ (by omega)]; exact h19, by rw [b6.all _ _ (by omega)]; exact h18⟩, b6.e⟩
  unfold hd6
  rw [B196_20]
  simp (disch := first | omega | assumption | exact b01_rng _ | exact st_5 | exact st_12 | exact st_19 | (simp only [isSt_sI, isSt_sJ, isSt_sF, isSt_sG, isSt_sA]; assumption)) only [↓B196_0, ↓B196_14, ↓B196_18, ↓B196_19, ↓B196_27, ↓B196_32, ↓B196_36, ↓B196_40, ↓B196_43, ↓B196_48, ↓B196_52, ↓B196_55, ↓B196_60, ↓B196_65, ↓B196_68, ↓B196_72, ↓B196_76, ↓B196_81, ↓o_72, ↓r_72_19, ↓w_72_29, ↓w_72_30, k185, i_lit, i_add, i_sub, i_mul, i_neg, i_lt, i_le, i_eq, i32_gI, i64_gJ, i32_id, i32_to, i64_to, sI_i32, sJ_i64, b01_t, b01_f, i32_b01, b01_0, ↓a_s0, ↓n_s0, ↓a_s1, ↓n_s1, Int.add_zero, t_lt, f_lt, t_le, f_le, t_eq, f_eq, true_and, and_true, false_and, and_false, and_self, ↓reduceIte, z_bool_of, or_true, true_or, or_false, false_or, Int.neg_neg, not_true_eq_false, not_false_eq_true, lg_lt, lg_le, lg_gt, lg_ge, lg_eq, j_lit, j_add, j_sub, j_mul, j_neg, j_eq, i64_id, ij, ji, z_rt, Nat.reduceEqDiff, Nat.reduceAdd, Int.reduceAdd, Int.reduceSub, Int.reduceMul, Int.reduceNeg, Int.reduceLT, Int.reduceLE, Int.reduceEq, h19]
theorem hd6_1 {X : zX} {d : Nat} {S S' : zS} {ts v : Int} (h19 : gI S 72 19 = 0) (h : ∀ {cm cp : Nat} {L : zL} {st : List Value}, z_evc X d 192 [.ref 72] (cm, cp, L, st, mk S) = z_ev X d (cm, cp, L, .int (Int32.ofInt v) :: st, mk S')) : hd6 X d ts 1 S = hd6 X d ts v S' := by
  unfold hd6
  rw [B196_20]
  simp (disch := first | omega | assumption | exact b01_rng _ | exact st_5 | exact st_12 | exact st_19 | (simp only [isSt_sI, isSt_sJ, isSt_sF, isSt_sG, isSt_sA]; assumption)) only [↓B196_0, ↓B196_14, ↓B196_18, ↓B196_19, ↓B196_27, ↓B196_32, ↓B196_36, ↓B196_40, ↓B196_43, ↓B196_48, ↓B196_52, ↓B196_55, ↓B196_60, ↓B196_65, ↓B196_68, ↓B196_72, ↓B196_76, ↓B196_81, ↓o_72, ↓r_72_19, ↓w_72_29, ↓w_72_30, h, i_lit, i_add, i_sub, i_mul, i_neg, i_lt, i_le, i_eq, i32_gI, i64_gJ, i32_id, i32_to, i64_to, sI_i32, sJ_i64, b01_t, b01_f, i32_b01, b01_0, ↓a_s0, ↓n_s0, ↓a_s1, ↓n_s1, Int.add_zero, t_lt, f_lt, t_le, f_le, t_eq, f_eq, true_and, and_true, false_and, and_false, and_self, ↓reduceIte, z_bool_of, or_true, true_or, or_false, false_or, Int.neg_neg, not_true_eq_false, not_false_eq_true, lg_lt, lg_le, lg_gt, lg_ge, lg_eq, j_lit, j_add, j_sub, j_mul, j_neg, j_eq, i64_id, ij, ji, z_rt, Nat.reduceEqDiff, Nat.reduceAdd, Int.reduceAdd, Int.reduceSub, Int.reduceMul, Int.reduceNeg, Int.reduceLT, Int.reduceLE, Int.reduceEq, h19]
theorem hd6_3 {X : zX} {d : Nat} {S S' : zS} {ts v : Int} (h19 : gI S 72 19 = 0) (h : ∀ {cm cp : Nat} {L : zL} {st : List Value}, z_evc X d 194 [.ref 72, .int (Int32.ofInt ts)] (cm, cp, L, st, mk S) = z_ev X d (cm, cp, L, .int (Int32.ofInt v) :: st, mk S')) : hd6 X d ts 3 S = hd6 X d ts v S' := by
  unfold hd6
  rw [B196_20]
  simp (disch := first | omega | assumption | exact b01_rng _ | exact st_5 | exact st_12 | exact st_19 | (simp only [isSt_sI, isSt_sJ, isSt_sF, isSt_sG, isSt_sA]; assumption)) only [↓B196_0, ↓B196_14, ↓B196_18, ↓B196_19, ↓B196_27, ↓B196_32, ↓B196_36, ↓B196_40, ↓B196_43, ↓B196_48, ↓B196_52, ↓B196_55, ↓B196_60, ↓B196_65, ↓B196_68, ↓B196_72, ↓B196_76, ↓B196_81, ↓o_72, ↓r_72_19, ↓w_72_29, ↓w_72_30, h, i_lit, i_add, i_sub, i_mul, i_neg, i_lt, i_le, i_eq, i32_gI, i64_gJ, i32_id, i32_to, i64_to, sI_i32, sJ_i64, b01_t, b01_f, i32_b01, b01_0, ↓a_s0, ↓n_s0, ↓a_s1, ↓n_s1, Int.add_zero, t_lt, f_lt, t_le, f_le, t_eq, f_eq, true_and, and_true, false_and, and_false, and_self, ↓reduceIte, z_bool_of, or_true, true_or, or_false, false_or, Int.neg_neg, not_true_eq_false, not_false_eq_true, lg_lt, lg_le, lg_gt, lg_ge, lg_eq, j_lit, j_add, j_sub, j_mul, j_neg, j_eq, i64_id, ij, ji, z_rt, Nat.reduceEqDiff, Nat.reduceAdd, Int.reduceAdd, Int.reduceSub, Int.reduceMul, Int.reduceNeg, Int.reduceLT, Int.reduceLE, Int.reduceEq, h19]
theorem hd6_0 {X : zX} {d : Nat} {S S' : zS} {ts v : Int} (h19 : gI S 72 19 = 0) (h : ∀ {cm cp : Nat} {L : zL} {st : List Value}, z_evc X d 193 [.ref 72] (cm, cp, L, st, mk S) = z_ev X d (cm, cp, L, .int (Int32.ofInt v) :: st, mk S')) : hd6 X d ts 0 S = hd6 X d ts v S' := by
  unfold hd6
  rw [B196_20]
  simp (disch := first | omega | assumption | exact b01_rng _ | exact st_5 | exact st_12 | exact st_19 | (simp only [isSt_sI, isSt_sJ, isSt_sF, isSt_sG, isSt_sA]; assumption)) only [↓B196_0, ↓B196_14, ↓B196_18, ↓B196_19, ↓B196_27, ↓B196_32, ↓B196_36, ↓B196_40, ↓B196_43, ↓B196_48, ↓B196_52, ↓B196_55, ↓B196_60, ↓B196_65, ↓B196_68, ↓B196_72, ↓B196_76, ↓B196_81, ↓o_72, ↓r_72_19, ↓w_72_29, ↓w_72_30, h, i_lit, i_add, i_sub, i_mul, i_neg, i_lt, i_le, i_eq, i32_gI, i64_gJ, i32_id, i32_to, i64_to, sI_i32, sJ_i64, b01_t, b01_f, i32_b01, b01_0, ↓a_s0, ↓n_s0, ↓a_s1, ↓n_s1, Int.add_zero, t_lt, f_lt, t_le, f_le, t_eq, f_eq, true_and, and_true, false_and, and_false, and_self, ↓reduceIte, z_bool_of, or_true, true_or, or_false, false_or, Int.neg_neg, not_true_eq_false, not_false_eq_true, lg_lt, lg_le, lg_gt, lg_ge, lg_eq, j_lit, j_add, j_sub, j_mul, j_neg, j_eq, i64_id, ij, ji, z_rt, Nat.reduceEqDiff, Nat.reduceAdd, Int.reduceAdd, Int.reduceSub, Int.reduceMul, Int.reduceNeg, Int.reduceLT, Int.reduceLE, Int.reduceEq, h19]
theorem hd6_2 {X : zX} {d : Nat} {S S' : zS} {ts v : Int} (h19 : gI S 72 19 = 0) (h : ∀ {cm cp : Nat} {L : zL} {st : List Value}, z_evc X d 195 [.ref 72] (cm, cp, L, st, mk S) = z_ev X d (cm, cp, L, .int (Int32.ofInt v) :: st, mk S')) : hd6 X d ts 2 S = hd6 X d ts v S' := by
  unfold hd6
  rw [B196_20]
  simp (disch := first | omega | assumption | exact b01_rng _ | exact st_5 | exact st_12 | exact st_19 | (simp only [isSt_sI, isSt_sJ, isSt_sF, isSt_sG, isSt_sA]; assumption)) only [↓B196_0, ↓B196_14, ↓B196_18, ↓B196_19, ↓B196_27, ↓B196_32, ↓B196_36, ↓B196_40, ↓B196_43, ↓B196_48, ↓B196_52, ↓B196_55, ↓B196_60, ↓B196_65, ↓B196_68, ↓B196_72, ↓B196_76, ↓B196_81, ↓o_72, ↓r_72_19, ↓w_72_29, ↓w_72_30, h, i_lit, i_add, i_sub, i_mul, i_neg, i_lt, i_le, i_eq, i32_gI, i64_gJ, i32_id, i32_to, i64_to, sI_i32, sJ_i64, b01_t, b01_f, i32_b01, b01_0, ↓a_s0, ↓n_s0, ↓a_s1, ↓n_s1, Int.add_zero, t_lt, f_lt, t_le, f_le, t_eq, f_eq, true_and, and_true, false_and, and_false, and_self, ↓reduceIte, z_bool_of, or_true, true_or, or_false, false_or, Int.neg_neg, not_true_eq_false, not_false_eq_true, lg_lt, lg_le, lg_gt, lg_ge, lg_eq, j_lit, j_add, j_sub, j_mul, j_neg, j_eq, i64_id, ij, ji, z_rt, Nat.reduceEqDiff, Nat.reduceAdd, Int.reduceAdd, Int.reduceSub, Int.reduceMul, Int.reduceNeg, Int.reduceLT, Int.reduceLE, Int.reduceEq, h19]
/-- sums, parts, as the loop reads them -/
def TopB (P : List En) (m : Int) : Prop := ∀ y r, P = y :: r → bnd y.1 < m
def RdP (X : zX) (d : Nat) (b : Int → Int) (n : Int) (T : Nat) (ord ts dp : Int) (f : Rdr) : Prop := ∀ (S : zS) (t : Nat) (p : Nat × Int) (P : List En) (k : Int), RX S b n T t ord p P dp k → KW S → match f p t with
  | .inl e => ∃ S' : zS, hd6 X d ts 1 S = some (none, mk S') ∧ RBad S' (tpos b n e) ∧ FrE S S'
  | .inr (e, p1, t1) => ∃ (S' : zS) (k1 : Int) (m : Nat), hd6 X d ts 1 S = hd6 X d ts 3 S' ∧ RX S' b n T t1 ord p1 P dp k1 ∧ Seg (IM ord S') k k1 m e ∧ p.1 + m ≤ p1.1 ∧ (∀ i, i < k → IM ord S' i = IM ord S i) ∧ t < t1 ∧ FrE S S'
def RdS (X : zX) (d : Nat) (b : Int → Int) (n : Int) (T : Nat) (ord ts dp : Int) (f : Rdr) : Prop := ∀ (S : zS) (t : Nat) (p : Nat × Int) (P : List En) (k : Int), RX S b n T t ord p P dp k → KW S → TopB P 5 → match f p t with
  | .inl e => ∃ S' : zS, hd6 X d ts 1 S = some (none, mk S') ∧ RBad S' (tpos b n e) ∧ FrE S S'
  | .inr (e, p1, t1) => ∃ (S' : zS) (Q : List En) (k1 : Int) (m : Nat), hd6 X d ts 1 S = hd6 X d ts 3 S' ∧ RX S' b n T t1 ord p1 (Q ++ P) dp k1 ∧ Pend ord (IM ord S') k k1 Q m e ∧ p.1 + m ≤ p1.1 ∧ (∀ i, i < k → IM ord S' i = IM ord S i) ∧ t < t1 ∧ FrE S S' ∧ (∀ y ∈ Q, 20 ≤ y.1 ∧ y.1 ≤ 24) ∧ ops (tc b n t1) = -1 ∧ k ≤ k1
theorem pLeaf_91 {c v : Nat → Int} {ord : Int} {p : Nat × Int} {t : Nat} (h : c t = 91) : pLeaf c v ord p t = .inl t := by
  unfold pLeaf
  by_cases q : 50 ≤ p.1
  · rw [if_pos q]
  rw [if_neg q, if_neg (by omega)]
  by_cases q0 : ord = 0
  · rw [if_pos q0, if_neg (by omega)]
  rw [if_neg q0, if_neg (by omega), if_neg (by omega), if_neg (by omega), if_neg (by omega), if_neg (by omega), if_neg (by omega)]
theorem pLeaf_p {c v : Nat → Int} {ord : Int} {p : Nat × Int} {t : Nat} {e : Ev} {p1 : Nat × Int} {t1 : Nat} (h : pLeaf c v ord p t = .inr (e, p1, t1)) : p1.1 = p.1 + 1 := by
  unfold pLeaf at h
  repeat' split at h
  all_goals (first | (cases h; done) | (cases h; rfl))
theorem leaf_rd {X : zX} {d : Nat} (hd : 5 < d) {b : Int → Int} {n : Int} {T t : Nat} (hT : RTape b n T) {S : zS} (hK : KW S) {ord ts dp k : Int} {p : Nat × Int} {P : List En} (h : RX S b n T t ord p P dp k) (q : tc b n t ≠ 91) : match pLeaf (tc b n) (tv b n) ord p t with
  | .inl e => ∃ S' : zS, hd6 X d ts 1 S = some (none, mk S') ∧ RBad S' (tpos b n e) ∧ FrE S S'
  | .inr (e, p1, t1) => ∃ (S' : zS) (k1 : Int) (m : Nat), hd6 X d ts 1 S = hd6 X d ts 3 S' ∧ RX S' b n T t1 ord p1 P dp k1 ∧ Seg (IM ord S') k k1 m e ∧ p.1 + m ≤ p1.1 ∧ (∀ i, i < k → IM ord S' i = IM ord S i) ∧ t < t1 ∧ FrE S S' := by
  have h19 := h.1.2.2.2
  have := z192 (X := X) hT hK h q
  cases hr : pLeaf (tc b n) (tv b n) ord p t with
  | inl e =>
    rw [hr] at this
    obtain ⟨S1, a1, a2, a3⟩ := this
    obtain ⟨S2, b1, b2, b3⟩ := hd6_bad (X := X) (d := d) (by omega) (ts := ts) (tn := 3) a2
    exact ⟨S2, by rw [hd6_1 h19 (ev192 hd a1)]; exact b1, b2, a3.tr b3⟩
  | inr x =>
    obtain ⟨e, p1, t1⟩ := x
    rw [hr] at this
    obtain ⟨S1, a1, a2, a3, a4, a5, a6⟩ := this
    exact ⟨S1, k + 1, 1, hd6_1 h19 (ev192 hd a1), a2, a3, by rw [pLeaf_p hr]; exact Nat.le_refl _, a4, a5, a6⟩
