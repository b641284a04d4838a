/-! compare in pairs -/
theorem StRel.law2 {S : zS} {s : Nat} {g : Int → Int} (h : StRel PM QL S s g) (hs : isSt S s) {k : Int} (hk : 0 ≤ k ∧ k < g 3) : ∃ (a : Nat) (cls : List Cl), LawC S (some a) cls ∧ LawR g k cls ∧ ∀ {X : zX} {d : Nat}, 0 < d → ∀ {cm cp : Nat} {L : zL} {st : List Value}, z_evc X d 78 [.ref s, .int (Int32.ofInt k)] (cm, cp, L, st, mk S) = z_ev X d (cm, cp, L, lv (some a) :: st, mk S) := by
  obtain ⟨-, -, -, a4, -, -, -, -, -, a10⟩ := h
  obtain ⟨a, e1, e2⟩ := a10 k (by omega) hk.2
  obtain ⟨cls, e3, e4, e5⟩ := QL_R e2
  refine ⟨a, cls, e3, ⟨e5, Or.inr ⟨by omega, e4⟩⟩, fun {X d} hd {cm cp L st} => ?_⟩
  exact c78a hd k hs (by omega) (by omega) e1
theorem e60 {X : zX} {d : Nat} (hd : 0 ≤ d) {S : zS} (v : Int) (hv : 0 ≤ v ∧ v < 1152921504606846976) : z_ev X d (z_entry 60 [.long (Int64.ofInt v)] (mk S)) = some (some (.int (Int32.ofInt (v / 1099511627776))), mk S) := by
  show z_ev X d (60, 0, [some (.long (Int64.ofInt v)), none], [], mk S) = _
  have s1 := shr_j (u := v) (k := 40) hv.1 (by omega) (by omega)
  rw [show (2 : Int) ^ 40 = 1099511627776 from rfl, show (((40 : Nat) : Int)) = (40 : Int) from rfl] at s1
  simp (disch := first | omega | assumption | exact b01_rng _ | exact st_5 | exact st_12 | exact st_19 | (simp only [isSt_sI, isSt_sJ, isSt_sF, isSt_sG, isSt_sA]; assumption)) only [↓B60_0, i_lit, i_add, i_sub, i_mul, i_neg, i_lt, i_le, i_eq, i32_gI, i64_gJ, i32_id, i32_to, i64_to, sI_i32, sJ_i64, b01_t, b01_f, i32_b01, b01_0, ↓a_s0, ↓n_s0, ↓a_s1, ↓n_s1, Int.add_zero, t_lt, f_lt, t_le, f_le, t_eq, f_eq, true_and, and_true, false_and, and_false, and_self, ↓reduceIte, z_bool_of, or_true, true_or, or_false, false_or, Int.neg_neg, not_true_eq_false, not_false_eq_true, lg_lt, lg_le, lg_gt, lg_ge, lg_eq, j_lit, j_add, j_sub, j_mul, j_neg, j_eq, i64_id, ij, ji, z_rt, Nat.reduceEqDiff, Nat.reduceAdd, Int.reduceAdd, Int.reduceSub, Int.reduceMul, Int.reduceNeg, Int.reduceLT, Int.reduceLE, Int.reduceEq, s1]
theorem c60 {X : zX} {d : Nat} (hd : 0 < d) {S : zS} (v : Int) (hv : 0 ≤ v ∧ v < 1152921504606846976) {cm cp : Nat} {L : zL} {st : List Value} : z_evc X d 60 [.long (Int64.ofInt v)] (cm, cp, L, st, mk S) = z_ev X d (cm, cp, L, .int (Int32.ofInt (v / 1099511627776)) :: st, mk S) := z_evc_of (r := (some (.int (Int32.ofInt (v / 1099511627776))), mk S)) (ck := (cm, cp, L, st, mk S)) hd (e60 (X := X) (Nat.le_refl _) v hv)
section
variable {X : zX} {S : zS} {d : Nat}
/-- the class's best reading in a metre by a law -/
theorem x139 {m c : Int} (hm : 0 ≤ m ∧ m < gI S 74 1) (hd : 20 < d) (hI : Inv PM QL S) {cls : List Cl} {o : Option Nat} (l1 : LawC S o cls) (l2 : LawR (gI S 74) c cls) (l3 : ∀ {cm cp : Nat} {L : zL} {st : List Value}, z_evc X d 78 [.ref 5, .int (Int32.ofInt c)] (cm, cp, L, st, mk S) = z_ev X d (cm, cp, L, lv o :: st, mk S)) {x : T3} {a : Nat} (e1 : gQ S 10 m = some a) (e2 : MetC S a x) : ∃ (S2 : zS) (v : Int), z_ev X d (z_entry 139 [.ref 4, .int (Int32.ofInt m), .int (Int32.ofInt c)] (mk S)) = some (some (.long (Int64.ofInt v)), mk S2) ∧ FrQc S S2 ∧ FxC S2 ∧ (0 ≤ v ∧ v ≤ 1152921504606846976) ∧ Mn 1152921504606846976 (Rd (LnH 0 cls (gI S 74)) x.1 0) (ct (fC 0 cls (gI S 74)) 0) v := by
  obtain ⟨b1, b2, b3⟩ := hI.1.2.1
  have hk := l2.1.1
  obtain ⟨S1, y1, y2, y3⟩ := look5 (X := X) (d0 := 9) (by omega) hI l1
  obtain ⟨S2, v, z1, z2, z3, z4, z5⟩ := least5 (X := X) (d0 := 9) (by omega) hI.1.gb hk y3 (hI.fxc.keep y2.2.2.1 y2.2.2.2) (e2.fa y2.1) (how := 0) (by omega)
  have c77 := fun {cm cp : Nat} {L : zL} {st : List Value} => c77a (X := X) (d := d) (by omega) (cm := cm) (cp := cp) (L := L) (st := st) m (S := S) (s := 5) st_5 (by omega) (by omega) e1
  have ev1 := fun {cm cp : Nat} {L : zL} {st : List Value} => evV (X := X) (d := d) (by omega) y1 (cm := cm) (cp := cp) (L := L) (st := st)
  have ev2 := fun {cm cp : Nat} {L : zL} {st : List Value} => evJ (X := X) (d := d) (by omega) z1 (cm := cm) (cp := cp) (L := L) (st := st)
  refine ⟨S2, v, ?_, y2.q.tr z2.q, z3, z4, z5⟩
  show z_ev X d (139, 0, [some (.ref 4), some (.int (Int32.ofInt m)), some (.int (Int32.ofInt c)), none], [], mk S) = _
  cases o with
  | none => simp (disch := first | omega | assumption | exact b01_rng _ | exact st_5 | exact st_12 | exact st_19 | (simp only [isSt_sI, isSt_sJ, isSt_sF, isSt_sG, isSt_sA]; assumption)) only [↓B139_0, ↓B139_8, ↓B139_17, ↓B139_33_ns0, ↓B139_36, ↓B139_45, ↓o_19, ↓o_5, ↓o_58, ↓r_4_0, ↓r_4_11, ↓o_5, ↓o_58, c77, l3, ev1, ev2, lv, i_lit, i_add, i_sub, i_mul, i_neg, i_lt, i_le, i_eq, i32_gI, i64_gJ, i32_id, i32_to, i64_to, sI_i32, sJ_i64, b01_t, b01_f, i32_b01, b01_0, ↓a_s0, ↓n_s0, ↓a_s1, ↓n_s1, Int.add_zero, t_lt, f_lt, t_le, f_le, t_eq, f_eq, true_and, and_true, false_and, and_false, and_self, ↓reduceIte, z_bool_of, or_true, true_or, or_false, false_or, Int.neg_neg, not_true_eq_false, not_false_eq_true, lg_lt, lg_le, lg_gt, lg_ge, lg_eq, j_lit, j_add, j_sub, j_mul, j_neg, j_eq, i64_id, ij, ji, z_rt, Nat.reduceEqDiff, Nat.reduceAdd, Int.reduceAdd, Int.reduceSub, Int.reduceMul, Int.reduceNeg, Int.reduceLT, Int.reduceLE, Int.reduceEq]
  | some b => simp (disch := first | omega | assumption | exact b01_rng _ | exact st_5 | exact st_12 | exact st_19 | (simp only [isSt_sI, isSt_sJ, isSt_sF, isSt_sG, isSt_sA]; assumption)) only [↓B139_0, ↓B139_8, ↓B139_17, ↓B139_33, ↓B139_36, ↓B139_45, ↓o_19, ↓o_5, ↓o_58, ↓r_4_0, ↓r_4_11, ↓o_5, ↓o_58, c77, l3, ev1, ev2, lv, i_lit, i_add, i_sub, i_mul, i_neg, i_lt, i_le, i_eq, i32_gI, i64_gJ, i32_id, i32_to, i64_to, sI_i32, sJ_i64, b01_t, b01_f, i32_b01, b01_0, ↓a_s0, ↓n_s0, ↓a_s1, ↓n_s1, Int.add_zero, t_lt, f_lt, t_le, f_le, t_eq, f_eq, true_and, and_true, false_and, and_false, and_self, ↓reduceIte, z_bool_of, or_true, true_or, or_false, false_or, Int.neg_neg, not_true_eq_false, not_false_eq_true, lg_lt, lg_le, lg_gt, lg_ge, lg_eq, j_lit, j_add, j_sub, j_mul, j_neg, j_eq, i64_id, ij, ji, z_rt, Nat.reduceEqDiff, Nat.reduceAdd, Int.reduceAdd, Int.reduceSub, Int.reduceMul, Int.reduceNeg, Int.reduceLT, Int.reduceLE, Int.reduceEq]
theorem y139 {m c : Int} (hm : r32 m) (q : ¬ (0 ≤ m ∧ m < gI S 74 1)) (hd : 20 < d) (hI : Inv PM QL S) : z_ev X d (z_entry 139 [.ref 4, .int (Int32.ofInt m), .int (Int32.ofInt c)] (mk S)) = some (some (.long (Int64.ofInt 1152921504606846976)), mk S) := by
  obtain ⟨b1, b2, b3⟩ := hI.1.2.1
  have c77 := fun {cm cp : Nat} {L : zL} {st : List Value} => c77b (X := X) (d := d) (by omega) (cm := cm) (cp := cp) (L := L) (st := st) m (S := S) (s := 5) st_5 (by omega) hm (by omega)
  show z_ev X d (139, 0, [some (.ref 4), some (.int (Int32.ofInt m)), some (.int (Int32.ofInt c)), none], [], mk S) = _
  simp (disch := first | omega | assumption | exact b01_rng _ | exact st_5 | exact st_12 | exact st_19 | (simp only [isSt_sI, isSt_sJ, isSt_sF, isSt_sG, isSt_sA]; assumption)) only [↓B139_0, ↓B139_8_ns0, ↓B139_13_nl3, ↓o_19, ↓o_5, ↓o_58, ↓r_4_0, ↓r_4_11, ↓o_5, c77, i_lit, i_add, i_sub, i_mul, i_neg, i_lt, i_le, i_eq, i32_gI, i64_gJ, i32_id, i32_to, i64_to, sI_i32, sJ_i64, b01_t, b01_f, i32_b01, b01_0, ↓a_s0, ↓n_s0, ↓a_s1, ↓n_s1, Int.add_zero, t_lt, f_lt, t_le, f_le, t_eq, f_eq, true_and, and_true, false_and, and_false, and_self, ↓reduceIte, z_bool_of, or_true, true_or, or_false, false_or, Int.neg_neg, not_true_eq_false, not_false_eq_true, lg_lt, lg_le, lg_gt, lg_ge, lg_eq, j_lit, j_add, j_sub, j_mul, j_neg, j_eq, i64_id, ij, ji, z_rt, Nat.reduceEqDiff, Nat.reduceAdd, Int.reduceAdd, Int.reduceSub, Int.reduceMul, Int.reduceNeg, Int.reduceLT, Int.reduceLE, Int.reduceEq]
/-- the class compares -/
theorem x127 {m c v : Int} {S2 : zS} (hd : 100 < d) (hI : Inv PM QL S) (hc : -1 ≤ c ∧ c < gI S 74 3) (h1 : z_ev X 30 (z_entry 139 [.ref 4, .int (Int32.ofInt m), .int (Int32.ofInt c)] (mk S)) = some (some (.long (Int64.ofInt v)), mk S2)) (hv : 0 ≤ v ∧ v ≤ 1152921504606846976) : z_ev X d (z_entry 127 [.ref 4, .int (Int32.ofInt c), .int (Int32.ofInt m)] (mk S)) = some (vI (if v < 1152921504606846976 then v / 1099511627776 else -1), mk S2) := by
  have a4 := hI.1.2.2.2.1
  have ev1 := fun {cm cp : Nat} {L : zL} {st : List Value} => evJ (X := X) (d := d) (by omega) h1 (cm := cm) (cp := cp) (L := L) (st := st)
  show z_ev X d (127, 0, [some (.ref 4), some (.int (Int32.ofInt c)), some (.int (Int32.ofInt m)), none, none], [], mk S) = _
  by_cases q : c = -1
  · subst q
    by_cases w : v < 1152921504606846976
    · have c60' := fun {cm cp : Nat} {L : zL} {st : List Value} => c60 (X := X) (d := d) (by omega) (cm := cm) (cp := cp) (L := L) (st := st) (S := S2) v ⟨hv.1, w⟩
      rw [if_pos w]
      simp (disch := first | omega | assumption | exact b01_rng _ | exact st_5 | exact st_12 | exact st_19 | (simp only [isSt_sI, isSt_sJ, isSt_sF, isSt_sG, isSt_sA]; assumption)) only [↓B127_0, ↓B127_18, ↓B127_24, ↓B127_37, ↓B127_41, ↓o_19, ↓o_4, ↓o_5, ↓r_4_0, ↓o_4, ev1, c60', i_lit, i_add, i_sub, i_mul, i_neg, i_lt, i_le, i_eq, i32_gI, i64_gJ, i32_id, i32_to, i64_to, sI_i32, sJ_i64, b01_t, b01_f, i32_b01, b01_0, ↓a_s0, ↓n_s0, ↓a_s1, ↓n_s1, Int.add_zero, t_lt, f_lt, t_le, f_le, t_eq, f_eq, true_and, and_true, false_and, and_false, and_self, ↓reduceIte, z_bool_of, or_true, true_or, or_false, false_or, Int.neg_neg, not_true_eq_false, not_false_eq_true, lg_lt, lg_le, lg_gt, lg_ge, lg_eq, j_lit, j_add, j_sub, j_mul, j_neg, j_eq, i64_id, ij, ji, z_rt, Nat.reduceEqDiff, Nat.reduceAdd, Int.reduceAdd, Int.reduceSub, Int.reduceMul, Int.reduceNeg, Int.reduceLT, Int.reduceLE, Int.reduceEq]
    · rw [if_neg w]
      simp (disch := first | omega | assumption | exact b01_rng _ | exact st_5 | exact st_12 | exact st_19 | (simp only [isSt_sI, isSt_sJ, isSt_sF, isSt_sG, isSt_sA]; assumption)) only [↓B127_0, ↓B127_18, ↓B127_24, ↓B127_33, ↓B127_41, ↓o_19, ↓o_4, ↓o_5, ↓r_4_0, ↓o_4, ev1, i_lit, i_add, i_sub, i_mul, i_neg, i_lt, i_le, i_eq, i32_gI, i64_gJ, i32_id, i32_to, i64_to, sI_i32, sJ_i64, b01_t, b01_f, i32_b01, b01_0, ↓a_s0, ↓n_s0, ↓a_s1, ↓n_s1, Int.add_zero, t_lt, f_lt, t_le, f_le, t_eq, f_eq, true_and, and_true, false_and, and_false, and_self, ↓reduceIte, z_bool_of, or_true, true_or, or_false, false_or, Int.neg_neg, not_true_eq_false, not_false_eq_true, lg_lt, lg_le, lg_gt, lg_ge, lg_eq, j_lit, j_add, j_sub, j_mul, j_neg, j_eq, i64_id, ij, ji, z_rt, Nat.reduceEqDiff, Nat.reduceAdd, Int.reduceAdd, Int.reduceSub, Int.reduceMul, Int.reduceNeg, Int.reduceLT, Int.reduceLE, Int.reduceEq]
  · obtain ⟨a, cls, l1, l2, l3⟩ := hI.1.law2 st_5 (k := c) (by omega)
    have c78 := fun {cm cp : Nat} {L : zL} {st : List Value} => l3 (X := X) (d := d) (by omega) (cm := cm) (cp := cp) (L := L) (st := st)
    by_cases w : v < 1152921504606846976
    · have c60' := fun {cm cp : Nat} {L : zL} {st : List Value} => c60 (X := X) (d := d) (by omega) (cm := cm) (cp := cp) (L := L) (st := st) (S := S2) v ⟨hv.1, w⟩
      rw [if_pos w]
      simp (disch := first | omega | assumption | exact b01_rng _ | exact st_5 | exact st_12 | exact st_19 | (simp only [isSt_sI, isSt_sJ, isSt_sF, isSt_sG, isSt_sA]; assumption)) only [↓B127_0, ↓B127_5, ↓B127_13, ↓B127_18, ↓B127_24, ↓B127_37, ↓B127_41, ↓o_19, ↓o_4, ↓o_5, ↓r_4_0, ↓o_4, ↓o_5, c78, lv, ev1, c60', i_lit, i_add, i_sub, i_mul, i_neg, i_lt, i_le, i_eq, i32_gI, i64_gJ, i32_id, i32_to, i64_to, sI_i32, sJ_i64, b01_t, b01_f, i32_b01, b01_0, ↓a_s0, ↓n_s0, ↓a_s1, ↓n_s1, Int.add_zero, t_lt, f_lt, t_le, f_le, t_eq, f_eq, true_and, and_true, false_and, and_false, and_self, ↓reduceIte, z_bool_of, or_true, true_or, or_false, false_or, Int.neg_neg, not_true_eq_false, not_false_eq_true, lg_lt, lg_le, lg_gt, lg_ge, lg_eq, j_lit, j_add, j_sub, j_mul, j_neg, j_eq, i64_id, ij, ji, z_rt, Nat.reduceEqDiff, Nat.reduceAdd, Int.reduceAdd, Int.reduceSub, Int.reduceMul, Int.reduceNeg, Int.reduceLT, Int.reduceLE, Int.reduceEq, q]
    · rw [if_neg w]
      simp (disch := first | omega | assumption | exact b01_rng _ | exact st_5 | exact st_12 | exact st_19 | (simp only [isSt_sI, isSt_sJ, isSt_sF, isSt_sG, isSt_sA]; assumption)) only [↓B127_0, ↓B127_5, ↓B127_13, ↓B127_18, ↓B127_24, ↓B127_33, ↓B127_41, ↓o_19, ↓o_4, ↓o_5, ↓r_4_0, ↓o_4, ↓o_5, c78, lv, ev1, i_lit, i_add, i_sub, i_mul, i_neg, i_lt, i_le, i_eq, i32_gI, i64_gJ, i32_id, i32_to, i64_to, sI_i32, sJ_i64, b01_t, b01_f, i32_b01, b01_0, ↓a_s0, ↓n_s0, ↓a_s1, ↓n_s1, Int.add_zero, t_lt, f_lt, t_le, f_le, t_eq, f_eq, true_and, and_true, false_and, and_false, and_self, ↓reduceIte, z_bool_of, or_true, true_or, or_false, false_or, Int.neg_neg, not_true_eq_false, not_false_eq_true, lg_lt, lg_le, lg_gt, lg_ge, lg_eq, j_lit, j_add, j_sub, j_mul, j_neg, j_eq, i64_id, ij, ji, z_rt, Nat.reduceEqDiff, Nat.reduceAdd, Int.reduceAdd, Int.reduceSub, Int.reduceMul, Int.reduceNeg, Int.reduceLT, Int.reduceLE, Int.reduceEq, q]
theorem up4_s {c : Int} (hc : r32 c) : gI (sI S 74 4 c) 74 = up4 (gI S 74) c := by
  funext i
  unfold up4
  rw [gI_sI]
  by_cases q : i = 4
  · rw [if_pos ⟨rfl, q⟩, if_pos q, i32_id hc.1 (by omega)]
  · rw [if_neg (fun z => q z.2), if_neg q]
theorem p_compare {m c : Int} (hm : r32 m) (hc : r32 c) (hd : 200 ≤ d) (hI : Inv PM QL S) : PairAt PM QL X 127 243 [.int (Int32.ofInt c), .int (Int32.ofInt m)] S d := by
  obtain ⟨b1, b2, b3⟩ := hI.1.2.1
  obtain ⟨d1, d2, d3⟩ := hI.1.2.2.2.1
  have eM : gI (sI S 72 0 0) 74 = gI S 74 := funext fun i => by rw [gI_sI, if_neg (by omega)]
  have c201' := fun (T : zS) (hT : gI T 74 = gI S 74) {cm cp : Nat} {L : zL} {st : List Value} => c201 (X := X) (d := d) (by omega) (cm := cm) (cp := cp) (L := L) (st := st) (S := T) c hc (by rw [hT]; omega)
  have c163' := fun (T : zS) (hT : gI T 74 = gI S 74) {cm cp : Nat} {L : zL} {st : List Value} => c163 (X := X) (d := d) (by omega) (cm := cm) (cp := cp) (L := L) (st := st) (S := T) m hm (by rw [hT]; omega)
  by_cases q : -1 ≤ c ∧ c < gI S 74 3
  · by_cases q2 : 0 ≤ m ∧ m < gI S 74 1
    · obtain ⟨a, x, e1, e2, e3⟩ := hI.1.met q2
      obtain ⟨o, cls, l1, l2, l3⟩ := hI.1.law st_5 (k := c) (by omega)
      obtain ⟨S2, v, w1, w2, w3, w4, w5⟩ := x139 (X := X) (d := 30) q2 (by omega) hI l1 l2 (l3 (by omega)) e1 e2
      have r1 := x127 (X := X) (d := d) (by omega) hI q w1 w4
      have g2 : gI (sI S2 72 0 0) 74 = gI S 74 := by rw [(FrQm.th (S := S2)).g, w2.g]
      have g3 : gI (sI (sI S2 72 0 0) 74 4 c) 74 = up4 (gI S 74) c := by rw [up4_s hc, g2]
      have hQ : RefQ (sI (sI S2 72 0 0) 74 4 c) cls := by
        unfold RefQ
        rw [g3]
        refine ⟨hI.1.gb.up4, by rw [up4_n (by omega)]; exact ⟨b2, b3⟩, ?_, ?_⟩
        · rw [gI_sI, if_neg (by omega), gI_sI, if_neg (by omega), w2.2.1 72 20 (by omega)]
          exact hI.2.2.2.2.2.2.2.2.1
        · rw [show up4 (gI S 74) c 4 = c from if_pos rfl]; exact l2.up4
      obtain ⟨S3, u1, u2, u3, u4, u5⟩ := x228 (X := X) (d := 30) (cls := cls) (how := 0) (by omega) (by omega) hQ (m := m) (by omega) (x := x) (by rw [g3]; exact e3.up4 (by omega))
      rw [g3, LnH_4] at u5
      obtain ⟨p1, p2⟩ := LfR.beg u3 u5 hI.1.gb.1.1
      have p3 : Mn 100000000 (Rd (LnH 0 cls (gI S 74)) x.1 0) (ct (fH 0 cls (gI S 74)) 0) (gI S3 104 0) := by
        rw [show ct (fH 0 cls (gI S 74)) 0 = ct (fH 0 cls (up4 (gI S 74) c)) 0 from funext fun vs => (ct_4 vs 0 (by omega)).symm]
        exact p2
      have hv : (if v < 1152921504606846976 then v / 1099511627776 else -1) = (if gI S3 104 0 < 100000000 then gI S3 104 0 else -1) := by
        by_cases z : v < 1152921504606846976
        · obtain ⟨k1, k2, -⟩ := best_C hI.1.gb.1 w5 p3 z
          rw [if_pos z, if_pos k1]; exact k2
        · rw [if_neg z, if_neg (fun y => z (w5.lt.mpr (p3.lt.mp y)))]
      rw [← hv] at u1
      have ev2 := fun {cm cp : Nat} {L : zL} {st : List Value} => evI (X := X) (d := d) (by omega) u1 (cm := cm) (cp := cp) (L := L) (st := st)
      have f3 : FrQm S2 (sI S3 74 4 (gI S 74 4)) := by
        refine ⟨Dyn.sI (by decide) ((Dyn.sI (by decide) (Dyn.sI (by decide) Dyn.rf)).tr u2.1), fun b i z1 z2 z3 => ?_, fun b i z1 z2 => (u2.2.2.1 b i z1 z2), fun b i => u2.2.2.2 b i⟩
        rw [gI_sI]
        by_cases z4 : b = 74 ∧ i = 4
        · rw [if_pos z4, z4.1, z4.2, w2.2.1 74 4 (by omega), i32_gI]
        · rw [if_neg z4, u2.2.1 b i z1 z2 z3, gI_sI, if_neg z4, gI_sI, if_neg (by omega)]
      have cA := fun {cm cp : Nat} {L : zL} {st : List Value} => c201' (sI S2 72 0 0) g2 (cm := cm) (cp := cp) (L := L) (st := st)
      have cB := fun {cm cp : Nat} {L : zL} {st : List Value} => c163' (sI S2 72 0 0) g2 (cm := cm) (cp := cp) (L := L) (st := st)
      rw [g2, show b01 (-1 ≤ c ∧ c < gI S 74 3) = 1 from if_pos q] at cA
      rw [g2, show b01 (0 ≤ m ∧ m < gI S 74 1) = 1 from if_pos q2] at cB
      have h4 : gI (sI S2 72 0 0) 74 4 = gI S 74 4 := by rw [g2]
      refine pair_q hI (S1 := S2) (S2 := sI S3 74 4 (gI S 74 4)) r1 w2 w3 ?_ f3
      show z_ev X d (243, 0, [some (.ref 72), some (.int (Int32.ofInt c)), some (.int (Int32.ofInt m)), none, none], [], mk S2) = _
      simp (disch := first | omega | assumption | exact b01_rng _ | exact st_5 | exact st_12 | exact st_19 | (simp only [isSt_sI, isSt_sJ, isSt_sF, isSt_sG, isSt_sA]; assumption)) only [↓B243_0, ↓B243_10, ↓B243_13, ↓B243_18, ↓B243_23, ↓B243_43, ↓a_74, ↓n_74, ↓o_72, ↓r_72_3, ↓s_74, ↓w_72_0, ↓o_72, cA, cB, ev2, h4, i_lit, i_add, i_sub, i_mul, i_neg, i_lt, i_le, i_eq, i32_gI, i64_gJ, i32_id, i32_to, i64_to, sI_i32, sJ_i64, b01_t, b01_f, i32_b01, b01_0, ↓a_s0, ↓n_s0, ↓a_s1, ↓n_s1, Int.add_zero, t_lt, f_lt, t_le, f_le, t_eq, f_eq, true_and, and_true, false_and, and_false, and_self, ↓reduceIte, z_bool_of, or_true, true_or, or_false, false_or, Int.neg_neg, not_true_eq_false, not_false_eq_true, lg_lt, lg_le, lg_gt, lg_ge, lg_eq, j_lit, j_add, j_sub, j_mul, j_neg, j_eq, i64_id, ij, ji, z_rt, Nat.reduceEqDiff, Nat.reduceAdd, Int.reduceAdd, Int.reduceSub, Int.reduceMul, Int.reduceNeg, Int.reduceLT, Int.reduceLE, Int.reduceEq]
    · have r1 := x127 (X := X) (d := d) (by omega) hI q (y139 (X := X) (d := 30) (c := c) hm q2 (by omega) hI) ⟨by omega, Int.le_refl _⟩
      rw [if_neg (by omega)] at r1
      have cA := fun {cm cp : Nat} {L : zL} {st : List Value} => c201' (sI S 72 0 0) eM (cm := cm) (cp := cp) (L := L) (st := st)
      have cB := fun {cm cp : Nat} {L : zL} {st : List Value} => c163' (sI S 72 0 0) eM (cm := cm) (cp := cp) (L := L) (st := st)
      rw [eM, show b01 (-1 ≤ c ∧ c < gI S 74 3) = 1 from if_pos q] at cA
      rw [eM, show b01 (0 ≤ m ∧ m < gI S 74 1) = 0 from if_neg q2] at cB
      refine pair_q hI (S1 := S) (S2 := sI S 72 0 0) r1 FrQc.rf hI.fxc ?_ FrQm.th
      show z_ev X d (243, 0, [some (.ref 72), some (.int (Int32.ofInt c)), some (.int (Int32.ofInt m)), none, none], [], mk S) = _
      simp (disch := first | omega | assumption | exact b01_rng _ | exact st_5 | exact st_12 | exact st_19 | (simp only [isSt_sI, isSt_sJ, isSt_sF, isSt_sG, isSt_sA]; assumption)) only [↓B243_0, ↓B243_10, ↓B243_13, ↓B243_18, ↓B243_21, ↓a_74, ↓n_74, ↓o_72, ↓r_72_3, ↓s_74, ↓w_72_0, ↓o_72, cA, cB, i_lit, i_add, i_sub, i_mul, i_neg, i_lt, i_le, i_eq, i32_gI, i64_gJ, i32_id, i32_to, i64_to, sI_i32, sJ_i64, b01_t, b01_f, i32_b01, b01_0, ↓a_s0, ↓n_s0, ↓a_s1, ↓n_s1, Int.add_zero, t_lt, f_lt, t_le, f_le, t_eq, f_eq, true_and, and_true, false_and, and_false, and_self, ↓reduceIte, z_bool_of, or_true, true_or, or_false, false_or, Int.neg_neg, not_true_eq_false, not_false_eq_true, lg_lt, lg_le, lg_gt, lg_ge, lg_eq, j_lit, j_add, j_sub, j_mul, j_neg, j_eq, i64_id, ij, ji, z_rt, Nat.reduceEqDiff, Nat.reduceAdd, Int.reduceAdd, Int.reduceSub, Int.reduceMul, Int.reduceNeg, Int.reduceLT, Int.reduceLE, Int.reduceEq]
  · have cA := fun {cm cp : Nat} {L : zL} {st : List Value} => c201' (sI S 72 0 0) eM (cm := cm) (cp := cp) (L := L) (st := st)
    rw [eM, show b01 (-1 ≤ c ∧ c < gI S 74 3) = 0 from if_neg q] at cA
    have c78 := fun {cm cp : Nat} {L : zL} {st : List Value} => c78b (X := X) (d := d) (by omega) (cm := cm) (cp := cp) (L := L) (st := st) c (S := S) (s := 5) st_5 (by omega) hc (by omega)
    refine pair_q (v := -1) hI (S1 := S) (S2 := sI S 72 0 0) ?_ FrQc.rf hI.fxc ?_ FrQm.th
    · show z_ev X d (127, 0, [some (.ref 4), some (.int (Int32.ofInt c)), some (.int (Int32.ofInt m)), none, none], [], mk S) = _
      have qn : c ≠ -1 := by omega
      simp (disch := first | omega | assumption | exact b01_rng _ | exact st_5 | exact st_12 | exact st_19 | (simp only [isSt_sI, isSt_sJ, isSt_sF, isSt_sG, isSt_sA]; assumption)) only [↓B127_0, ↓B127_5, ↓B127_13_ns0, ↓B127_16, ↓o_19, ↓o_4, ↓o_5, ↓r_4_0, ↓o_4, ↓o_5, c78, i_lit, i_add, i_sub, i_mul, i_neg, i_lt, i_le, i_eq, i32_gI, i64_gJ, i32_id, i32_to, i64_to, sI_i32, sJ_i64, b01_t, b01_f, i32_b01, b01_0, ↓a_s0, ↓n_s0, ↓a_s1, ↓n_s1, Int.add_zero, t_lt, f_lt, t_le, f_le, t_eq, f_eq, true_and, and_true, false_and, and_false, and_self, ↓reduceIte, z_bool_of, or_true, true_or, or_false, false_or, Int.neg_neg, not_true_eq_false, not_false_eq_true, lg_lt, lg_le, lg_gt, lg_ge, lg_eq, j_lit, j_add, j_sub, j_mul, j_neg, j_eq, i64_id, ij, ji, z_rt, Nat.reduceEqDiff, Nat.reduceAdd, Int.reduceAdd, Int.reduceSub, Int.reduceMul, Int.reduceNeg, Int.reduceLT, Int.reduceLE, Int.reduceEq, qn]
    · show z_ev X d (243, 0, [some (.ref 72), some (.int (Int32.ofInt c)), some (.int (Int32.ofInt m)), none, none], [], mk S) = _
      simp (disch := first | omega | assumption | exact b01_rng _ | exact st_5 | exact st_12 | exact st_19 | (simp only [isSt_sI, isSt_sJ, isSt_sF, isSt_sG, isSt_sA]; assumption)) only [↓B243_0, ↓B243_10, ↓B243_21, ↓a_74, ↓n_74, ↓o_72, ↓r_72_3, ↓s_74, ↓w_72_0, ↓o_72, cA, i_lit, i_add, i_sub, i_mul, i_neg, i_lt, i_le, i_eq, i32_gI, i64_gJ, i32_id, i32_to, i64_to, sI_i32, sJ_i64, b01_t, b01_f, i32_b01, b01_0, ↓a_s0, ↓n_s0, ↓a_s1, ↓n_s1, Int.add_zero, t_lt, f_lt, t_le, f_le, t_eq, f_eq, true_and, and_true, false_and, and_false, and_self, ↓reduceIte, z_bool_of, or_true, true_or, or_false, false_or, Int.neg_neg, not_true_eq_false, not_false_eq_true, lg_lt, lg_le, lg_gt, lg_ge, lg_eq, j_lit, j_add, j_sub, j_mul, j_neg, j_eq, i64_id, ij, ji, z_rt, Nat.reduceEqDiff, Nat.reduceAdd, Int.reduceAdd, Int.reduceSub, Int.reduceMul, Int.reduceNeg, Int.reduceLT, Int.reduceLE, Int.reduceEq]
end
