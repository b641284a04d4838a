/-! the reference: leaves and parts -/
def RBd (S : zS) (f : Int) : Prop := RBad S f ∧ ∃ (P : List En) (k : Int), RP S P k 400
theorem RX.bad {S : zS} {b : Int → Int} {n : Int} {T t : Nat} {ord dp k : Int} {p : Nat × Int} {P : List En} (h : RX S b n T t ord p P dp k) (hT : RTape b n T) : RBd (badS S) (tpos b n t) ∧ FrE S (badS S) := by
  have hp := h.2.2.2.2.1
  have h1 := h.2.1.1
  have h2 := hT.2.2
  refine ⟨⟨(badS_bad h.1 hT.1.1).1, P, k, hp.fr ?_ ?_ ?_ (by omega)⟩, (FrE.I (by omega)).tr (FrE.I (by omega))⟩
  · unfold badS; (repeat (first | rw [gI_sI, if_neg (by omega)] | rw [gI_sF, if_neg (by omega)] | rw [gI_sJ] | rw [gI_sG] | rw [gI_sQ]))
  · unfold badS; (repeat (first | rw [gI_sI, if_neg (by omega)] | rw [gI_sF, if_neg (by omega)] | rw [gI_sJ] | rw [gI_sG] | rw [gI_sQ]))
  · intro a i q; unfold badS; (repeat (first | rw [gI_sI, if_neg (by omega)] | rw [gI_sF, if_neg (by omega)] | rw [gI_sJ] | rw [gI_sG] | rw [gI_sQ]))
theorem RX.em {S : zS} {b : Int → Int} {n : Int} {T t : Nat} {ord dp k : Int} {p : Nat × Int} {P : List En} (h : RX S b n T t ord p P dp k) {op ar : Int} (hk : k + emi P + 1 ≤ t) (hT : T ≤ 400) : RX (emS S op ar) b n T t ord p P dp (k + 1) := by
  obtain ⟨a1, a2, a3, a4, ⟨r1, r2, r3, r4, r5, r6⟩, a6⟩ := h
  have e : ∀ a i, ¬ (a = 72 ∧ i = 23) → a ≠ 83 → a ≠ 84 → gI (emS S op ar) a i = gI S a i := fun a i q1 q2 q3 => by unfold emS; rw [gI_sI, if_neg (by omega), gI_sI, if_neg (by omega), gI_sI, if_neg (by omega)]
  refine ⟨a1.fr (fun i q => e _ _ (by omega) (by omega) (by omega)) (fun i => e _ _ (by omega) (by omega) (by omega)) rfl, ⟨a2.1, by rw [e _ _ (by omega) (by omega) (by omega)]; exact a2.2⟩, ⟨by rw [e _ _ (by omega) (by omega) (by omega)]; exact a3.1, a3.2⟩, ⟨by rw [e _ _ (by omega) (by omega) (by omega)]; exact a4.1, a4.2⟩, ⟨by rw [e _ _ (by omega) (by omega) (by omega)]; exact r1, r2.fr (by omega) (fun i _ _ => ⟨e _ _ (by omega) (by omega) (by omega), e _ _ (by omega) (by omega) (by omega)⟩) (fun i q1 q2 => ?_), ?_, by omega, by omega, r6⟩, ⟨by rw [e _ _ (by omega) (by omega) (by omega)]; exact a6.1, a6.2⟩⟩
  · unfold emS; rw [gI_sI, if_neg (by omega), gI_sI, if_neg (by omega), gI_sI, if_neg (by omega)]
  · unfold emS; rw [gI_sI, if_pos ⟨rfl, rfl⟩, r3, i32_id (by omega) (by omega)]
theorem RX.p26 {S : zS} {b : Int → Int} {n : Int} {T t : Nat} {ord dp k : Int} {p : Nat × Int} {P : List En} (h : RX S b n T t ord p P dp k) (hp : p.1 < 50) (x : Int) : RX (sI S 72 26 (p.1 + 1)) b n T t ord (p.1 + 1, x) P dp k := by
  obtain ⟨a1, a2, a3, a4, a5, a6⟩ := h
  refine ⟨a1.fr (fun i q => by rw [gI_sI, if_neg (by omega)]) (fun i => by rw [gI_sI, if_neg (by omega)]) rfl, ⟨a2.1, by rw [gI_sI, if_neg (by omega)]; exact a2.2⟩, ⟨by rw [gI_sI, if_neg (by omega)]; exact a3.1, a3.2⟩, ⟨?_, by show p.1 + 1 ≤ 50; omega⟩, a5.fr (by rw [gI_sI, if_neg (by omega)]) (by rw [gI_sI, if_neg (by omega)]) (fun a i q => by rw [gI_sI, if_neg (by omega)]) (Nat.le_refl _), ⟨by rw [gI_sI, if_neg (by omega)]; exact a6.1, a6.2⟩⟩
  rw [gI_sI, if_pos ⟨rfl, rfl⟩, i32_id (by omega) (by omega)]
  show (p.1 : Int) + 1 = ((p.1 + 1 : Nat) : Int)
  omega
/-- leaf -/
theorem z191 {X : zX} {d : Nat} (hd : 3 < d) {b : Int → Int} {n : Int} {T t : Nat} (hT : RTape b n T) {S : zS} {ord dp k : Int} {p : Nat × Int} {P : List En} (h : RX S b n T t ord p P dp k) (hp : p.1 < 50) (ht : tc b n t ≠ 301) {op ar : Int} (h1 : r32 op) (h2 : r32 ar) (x : Int) : ∃ S' : zS, (∀ {cm cp : Nat} {L : zL} {st : List Value}, z_evc X d 191 [.ref 72, .int (Int32.ofInt 1), .int (Int32.ofInt op), .int (Int32.ofInt ar)] (cm, cp, L, st, mk S) = z_ev X d (cm, cp, L, st, mk S')) ∧ RX S' b n T (t + 1) ord (p.1 + 1, x) P dp (k + 1) ∧ IM ord S' = upI (IM ord S) k (dM ord op ar) ∧ FrE S S' ∧ gI S' 83 k = op ∧ gI S' 84 k = ar := by
  obtain ⟨S1, a1, a2, a3⟩ := z179 (X := X) (d := 3) (by omega) hT.1 h.1
  have htT := tc_lt hT.2.1 ht
  have hS1 := h.nx a2 a3 (by omega) (by omega)
  have h26 := h.2.2.2.1
  have h23 := h.2.2.2.2.1.2.2
  have h23' := hS1.2.2.2.2.1.2.2.1
  have h26' := hS1.2.2.2.1.1
  have h19 := a2.2.2.2
  have ht3 := hT.2.2
  have hS2 := hS1.em (op := op) (ar := ar) (by omega) ht3
  have hS3 := hS2.p26 hp x
  have h26'' := hS2.2.2.2.1.1
  refine ⟨_, fun {cm cp L st} => z_evc_of (r := (none, mk (sI (emS S1 op ar) 72 26 (p.1 + 1)))) (ck := (cm, cp, L, st, mk S)) hd ?_, hS3, ?_, (a3.e.tr FrE.em).tr (FrE.I (by omega)), ?_, ?_⟩
  · show z_ev X 3 (191, 0, [some (.ref 72), some (.int (Int32.ofInt 1)), some (.int (Int32.ofInt op)), some (.int (Int32.ofInt ar))], [], mk S) = _
    have h26a := h26.1
    simp (disch := first | omega | assumption | exact b01_rng _ | exact st_5 | exact st_12 | exact st_19 | (simp only [isSt_sI, isSt_sJ, isSt_sF, isSt_sG, isSt_sA]; assumption)) only [↓B191_0, ↓B191_5, ↓B191_14, ↓B191_18, ↓B191_19, ↓B191_22, ↓B191_29, ↓B191_35, ↓B191_45, ↓o_72, ↓r_72_19, ↓r_72_26, ↓w_72_26, a1, c182, i_lit, i_add, i_sub, i_mul, i_neg, i_lt, i_le, i_eq, i32_gI, i64_gJ, i32_id, i32_to, i64_to, sI_i32, sJ_i64, b01_t, b01_f, i32_b01, b01_0, ↓a_s0, ↓n_s0, ↓a_s1, ↓n_s1, Int.add_zero, t_lt, f_lt, t_le, f_le, t_eq, f_eq, true_and, and_true, false_and, and_false, and_self, ↓reduceIte, z_bool_of, or_true, true_or, or_false, false_or, Int.neg_neg, not_true_eq_false, not_false_eq_true, lg_lt, lg_le, lg_gt, lg_ge, lg_eq, j_lit, j_add, j_sub, j_mul, j_neg, j_eq, i64_id, ij, ji, z_rt, Nat.reduceEqDiff, Nat.reduceAdd, Int.reduceAdd, Int.reduceSub, Int.reduceMul, Int.reduceNeg, Int.reduceLT, Int.reduceLE, Int.reduceEq, h26a, h19, h26'']
  · rw [IM_fr (S := emS S1 op ar) (fun a i q => by rw [gI_sI, if_neg (by omega)]), emS_I h1 h2, h23', IM_fr (S := S) (fun a i q => a3.2.1 _ _ (by omega))]
  · rw [gI_sI, if_neg (by omega)]
    unfold emS
    rw [h23', gI_sI, if_neg (by omega), gI_sI, if_neg (by omega), gI_sI, if_pos ⟨rfl, rfl⟩, i32_id (by omega) (by omega)]
  · rw [gI_sI, if_neg (by omega)]
    unfold emS
    rw [h23', gI_sI, if_neg (by omega), gI_sI, if_pos ⟨rfl, rfl⟩, i32_id (by omega) (by omega)]
theorem y191 {X : zX} {d : Nat} (hd : 3 < d) {S : zS} (h19 : gI S 72 19 = 0) {p : Nat} (h26 : gI S 72 26 = p) (hp : p ≤ 50) {ok op ar : Int} (hok : ok = 0 ∨ ok = 1) (hq : ok = 1 → 50 ≤ p) {cm cp : Nat} {L : zL} {st : List Value} : z_evc X d 191 [.ref 72, .int (Int32.ofInt ok), .int (Int32.ofInt op), .int (Int32.ofInt ar)] (cm, cp, L, st, mk S) = z_ev X d (cm, cp, L, st, mk (badS S)) := by
  refine z_evc_of (r := (none, mk (badS S))) (ck := (cm, cp, L, st, mk S)) hd ?_
  show z_ev X 3 (191, 0, [some (.ref 72), some (.int (Int32.ofInt ok)), some (.int (Int32.ofInt op)), some (.int (Int32.ofInt ar))], [], mk S) = _
  have h19' : gI (sI (sI S 72 19 1) 72 18 (gI S 72 14)) 72 19 = 1 := by simp (disch := first | omega | assumption | exact b01_rng _ | exact st_5 | exact st_12 | exact st_19 | (simp only [isSt_sI, isSt_sJ, isSt_sF, isSt_sG, isSt_sA]; assumption)) only [gI_sI, i_lit, i_add, i_sub, i_mul, i_neg, i_lt, i_le, i_eq, i32_gI, i64_gJ, i32_id, i32_to, i64_to, sI_i32, sJ_i64, b01_t, b01_f, i32_b01, b01_0, ↓a_s0, ↓n_s0, ↓a_s1, ↓n_s1, Int.add_zero, t_lt, f_lt, t_le, f_le, t_eq, f_eq, true_and, and_true, false_and, and_false, and_self, ↓reduceIte, z_bool_of, or_true, true_or, or_false, false_or, Int.neg_neg, not_true_eq_false, not_false_eq_true, lg_lt, lg_le, lg_gt, lg_ge, lg_eq, j_lit, j_add, j_sub, j_mul, j_neg, j_eq, i64_id, ij, ji, z_rt, Nat.reduceEqDiff, Nat.reduceAdd, Int.reduceAdd, Int.reduceSub, Int.reduceMul, Int.reduceNeg, Int.reduceLT, Int.reduceLE, Int.reduceEq]
  unfold badS
  rcases hok with rfl | rfl
  · simp (disch := first | omega | assumption | exact b01_rng _ | exact st_5 | exact st_12 | exact st_19 | (simp only [isSt_sI, isSt_sJ, isSt_sF, isSt_sG, isSt_sA]; assumption)) only [↓B191_0, ↓B191_5, ↓B191_14, ↓B191_18, ↓B191_19, ↓B191_22, ↓B191_29, ↓B191_35, ↓B191_45, ↓o_72, ↓r_72_19, ↓r_72_26, ↓w_72_26, c179b, i_lit, i_add, i_sub, i_mul, i_neg, i_lt, i_le, i_eq, i32_gI, i64_gJ, i32_id, i32_to, i64_to, sI_i32, sJ_i64, b01_t, b01_f, i32_b01, b01_0, ↓a_s0, ↓n_s0, ↓a_s1, ↓n_s1, Int.add_zero, t_lt, f_lt, t_le, f_le, t_eq, f_eq, true_and, and_true, false_and, and_false, and_self, ↓reduceIte, z_bool_of, or_true, true_or, or_false, false_or, Int.neg_neg, not_true_eq_false, not_false_eq_true, lg_lt, lg_le, lg_gt, lg_ge, lg_eq, j_lit, j_add, j_sub, j_mul, j_neg, j_eq, i64_id, ij, ji, z_rt, Nat.reduceEqDiff, Nat.reduceAdd, Int.reduceAdd, Int.reduceSub, Int.reduceMul, Int.reduceNeg, Int.reduceLT, Int.reduceLE, Int.reduceEq, h19']
  · have := hq rfl
    simp (disch := first | omega | assumption | exact b01_rng _ | exact st_5 | exact st_12 | exact st_19 | (simp only [isSt_sI, isSt_sJ, isSt_sF, isSt_sG, isSt_sA]; assumption)) only [↓B191_0, ↓B191_5, ↓B191_14, ↓B191_18, ↓B191_19, ↓B191_22, ↓B191_29, ↓B191_35, ↓B191_45, ↓o_72, ↓r_72_19, ↓r_72_26, ↓w_72_26, c179b, i_lit, i_add, i_sub, i_mul, i_neg, i_lt, i_le, i_eq, i32_gI, i64_gJ, i32_id, i32_to, i64_to, sI_i32, sJ_i64, b01_t, b01_f, i32_b01, b01_0, ↓a_s0, ↓n_s0, ↓a_s1, ↓n_s1, Int.add_zero, t_lt, f_lt, t_le, f_le, t_eq, f_eq, true_and, and_true, false_and, and_false, and_self, ↓reduceIte, z_bool_of, or_true, true_or, or_false, false_or, Int.neg_neg, not_true_eq_false, not_false_eq_true, lg_lt, lg_le, lg_gt, lg_ge, lg_eq, j_lit, j_add, j_sub, j_mul, j_neg, j_eq, i64_id, ij, ji, z_rt, Nat.reduceEqDiff, Nat.reduceAdd, Int.reduceAdd, Int.reduceSub, Int.reduceMul, Int.reduceNeg, Int.reduceLT, Int.reduceLE, Int.reduceEq, h26, h19']
