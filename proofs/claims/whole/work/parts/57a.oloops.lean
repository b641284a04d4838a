/-! ORDERS: turns and clauses, on both sides -/
def FrOd (S S' : zS) : Prop := Dyn S S' ∧ (∀ a i, a ≠ 6 → a ≠ 7 → ¬ (27 ≤ a ∧ a ≤ 30) → ¬ (57 ≤ a ∧ a ≤ 65) → a ≠ 68 → ¬ (a = 4 ∧ i = 19) → gI S' a i = gI S a i) ∧ (∀ a i, ¬ (64 ≤ a ∧ a ≤ 67) → a ≠ 69 → gJ S' a i = gJ S a i) ∧ (∀ a i, a ≠ 58 → gQ S' a i = gQ S a i)
theorem FrOd.rf {S : zS} : FrOd S S := ⟨Dyn.rf, fun _ _ _ _ _ _ _ _ => rfl, fun _ _ _ _ => rfl, fun _ _ _ => rfl⟩
theorem FrOd.tr {A B C : zS} (h1 : FrOd A B) (h2 : FrOd B C) : FrOd A C := ⟨h1.1.tr h2.1, fun a i q r s t u v => (h2.2.1 a i q r s t u v).trans (h1.2.1 a i q r s t u v), fun a i q r => (h2.2.2.1 a i q r).trans (h1.2.2.1 a i q r), fun a i q => (h2.2.2.2 a i q).trans (h1.2.2.2 a i q)⟩
theorem FrOc.od {S S' : zS} (h : FrOc S S') : FrOd S S' := ⟨h.1, fun a i q r s t u _ => h.2.1 a i q r s t u, h.2.2.1, h.2.2.2⟩
theorem FrOd.I {S : zS} {x : Int} : FrOd S (sI S 4 19 x) := ⟨Dyn.sI (by decide) Dyn.rf, fun b j _ _ _ _ _ q => by rw [gI_sI, if_neg q], fun _ _ _ _ => rfl, fun _ _ _ => rfl⟩
/-- the text, as the class has read it -/
def CK (S : zS) (cls : List Cl) (asks : Int) : Prop := gI S 52 1 = 1 ∧ (0 ≤ gI S 53 3 ∧ gI S 53 3 ≤ 436) ∧ CTx (IC S) (gI S 53 3) (gI S 55) cls ∧ AllOK cls asks ∧ (∀ cl ∈ cls, OrK cl) ∧ gI S 53 4 = asks ∧ gI S 53 2 = cls.length ∧ cls.length ≤ 12 ∧ (asks = 0 ∨ asks = 1)
theorem CK.fr {S S' : zS} {cls : List Cl} {asks : Int} (h : CK S cls asks) (hF : FrOd S S') : CK S' cls asks := by
  have k : ∀ a i, 52 ≤ a → a ≤ 55 → gI S' a i = gI S a i := fun a i q1 q2 => hF.2.1 a i (by omega) (by omega) (by omega) (by omega) (by omega) (by omega)
  obtain ⟨h1, h2, h3, h4, h5, h6, h7, h8, h9⟩ := h
  have eI : IC S' = IC S := IC_fr (fun i => k 54 i (by omega) (by omega)) (k 52 1 (by omega) (by omega))
  have e55 : gI S' 55 = gI S 55 := funext fun i => k 55 i (by omega) (by omega)
  exact ⟨by rw [k 52 1 (by omega) (by omega)]; exact h1, by rw [k 53 3 (by omega) (by omega)]; exact h2, by rw [eI, e55, k 53 3 (by omega) (by omega)]; exact h3, h4, h5, by rw [k 53 4 (by omega) (by omega)]; exact h6, by rw [k 53 2 (by omega) (by omega)]; exact h7, h8, h9⟩
/-- the text, as the reference has read it -/
def RK2 (T : zS) (cls : List Cl) : Prop := (∃ kk : Int, kk ≤ 400 ∧ ROx T kk cls) ∧ gI T 72 21 = cls.length
theorem RK2.fr {T T' : zS} {cls : List Cl} (h : RK2 T cls) (hF : FrOm T T') : RK2 T' cls := by
  obtain ⟨⟨kk, h1, h2⟩, h3⟩ := h
  have k : ∀ a i, 79 ≤ a → a ≠ 97 → ¬ (99 ≤ a ∧ a ≤ 109) → gI T' a i = gI T a i := fun a i q1 q2 q3 => hF.2.1 a i (by omega) (by omega) q2 q3 (by omega) (by omega)
  have eI : IM 1 T' = IM 1 T := by funext i; unfold IM; rw [k 83 i (by omega) (by omega) (by omega), k 84 i (by omega) (by omega) (by omega)]
  have e112 : gI T' 112 = gI T 112 := funext fun i => k 112 i (by omega) (by omega) (by omega)
  refine ⟨⟨kk, h1, fun j cl hj => ?_⟩, ?_⟩
  · rw [eI, e112]; exact h2 j cl hj
  · rw [hF.2.1 72 21 (by omega) (by omega) (by omega) (by omega) (by omega) (by omega)]; exact h3
section
variable {X : zX} {d : Nat}
abbrev L106 (j : Int) (x4 x5 : Option Value) : zL := [some (.ref 4), some (.int (Int32.ofInt 1)), some (.ref 53), some (.int (Int32.ofInt j)), x4, x5]
abbrev L264b (had j : Int) (x3 : Option Value) : zL := [some (.ref 72), some (.int (Int32.ofInt had)), some (.int (Int32.ofInt j)), x3]
/-- turns of one clause -/
theorem turns (hd : 200 ≤ d) {cls : List Cl} {asks : Int} {cl : Cl} {j : Nat} (hjc : cls[j]? = some cl) (hj : j < 12) : ∀ (c : Nat) (t : Int) (S T0 : zS) (done latest : Int), t + c = cl.2.1 → 0 ≤ t → CK S cls asks → OR S T0 done latest asks → done ≤ 20 * j + t → gI S 4 19 = -1 → ∃ (S' : zS) (x5 : Int), z_ev X d (106, 140, L106 j (vI cl.2.1) (vI t), [], mk S) = z_ev X d (106, 175, L106 j (vI cl.2.1) (vI x5), [], mk S') ∧ FrOd S S' ∧ ((gI S' 4 19 = -1 ∧ ∃ (T0' : zS) (done' latest' : Int), OR S' T0' done' latest' asks ∧ done' ≤ 20 * j + 20 ∧ ∀ (T : zS) (had : Int), r32 had → ORS T0 T done latest → RK2 T cls → ∃ T' : zS, z_ev X d (264, 150, L264b had j (vI t), [], mk T) = z_ev X d (264, 200, L264b had j (vI cl.2.1), [], mk T') ∧ FrOm T T' ∧ ORS T0' T' done' latest') ∨ (gI S' 4 19 = j ∧ FxC S' ∧ ∀ (T : zS) (had : Int), r32 had → ORS T0 T done latest → RK2 T cls → ∃ (T' : zS) (t' : Int), z_ev X d (264, 150, L264b had j (vI t), [], mk T) = z_ev X d (264, 177, L264b had j (vI t'), [], mk T') ∧ FrOm T T' ∧ gI T' 72 20 = 0)) := by
  have hr7 : ∀ T : zS, RK2 T cls → gI T 112 (8 * (j : Int) + 7) = cl.2.1 := fun T hT => by
    obtain ⟨⟨kk, -, h2⟩, -⟩ := hT
    exact (h2 j cl hjc).2.2.2.2.2.1
  intro c
  induction c with
  | zero =>
    intro t S T0 done latest hc ht hK hO hdn h19
    have htt : t = cl.2.1 := by omega
    subst htt
    have hok := hK.2.2.2.1 cl (List.mem_of_getElem? hjc)
    have hb := hok.2.2.2.2
    refine ⟨S, cl.2.1, ?_, FrOd.rf, Or.inl ⟨h19, T0, done, latest, hO, by omega, fun T had hh hS hT => ⟨T, ?_, FrOm.rf, hS⟩⟩⟩
    · rw [B106_140]
      simp (disch := first | omega | assumption | exact b01_rng _ | exact st_5 | exact st_12 | exact st_19 | (simp only [isSt_sI, isSt_sJ, isSt_sF, isSt_sG, isSt_sA]; assumption)) only [i_lit, i_add, i_sub, i_mul, i_neg, i_lt, i_le, i_eq, i32_gI, i64_gJ, i32_id, i32_to, i64_to, sI_i32, sJ_i64, b01_t, b01_f, i32_b01, b01_0, ↓a_s0, ↓n_s0, ↓a_s1, ↓n_s1, Int.add_zero, t_lt, f_lt, t_le, f_le, t_eq, f_eq, true_and, and_true, false_and, and_false, and_self, ↓reduceIte, z_bool_of, or_true, true_or, or_false, false_or, Int.neg_neg, not_true_eq_false, not_false_eq_true, lg_lt, lg_le, lg_gt, lg_ge, lg_eq, j_lit, j_add, j_sub, j_mul, j_neg, j_eq, i64_id, ij, ji, z_rt, Nat.reduceEqDiff, Nat.reduceAdd, Int.reduceAdd, Int.reduceSub, Int.reduceMul, Int.reduceNeg, Int.reduceLT, Int.reduceLE, Int.reduceEq]
    · have e7 := hr7 T hT
      rw [B264_150]
      simp (disch := first | omega | assumption | exact b01_rng _ | exact st_5 | exact st_12 | exact st_19 | (simp only [isSt_sI, isSt_sJ, isSt_sF, isSt_sG, isSt_sA]; assumption)) only [↓a_112, ↓a_77, ↓a_78, ↓a_79, ↓a_80, ↓n_112, ↓n_77, ↓n_78, ↓n_79, ↓n_80, ↓o_72, ↓r_72_10, ↓r_72_19, ↓r_72_21, ↓r_72_6, ↓r_72_64, ↓r_72_65, ↓r_72_7, ↓r_72_8, ↓r_72_9, ↓s_112, ↓s_77, ↓s_78, ↓s_79, ↓s_80, ↓w_72_0, ↓w_72_65, ↓w_72_66, ↓w_72_67, e7, i_lit, i_add, i_sub, i_mul, i_neg, i_lt, i_le, i_eq, i32_gI, i64_gJ, i32_id, i32_to, i64_to, sI_i32, sJ_i64, b01_t, b01_f, i32_b01, b01_0, ↓a_s0, ↓n_s0, ↓a_s1, ↓n_s1, Int.add_zero, t_lt, f_lt, t_le, f_le, t_eq, f_eq, true_and, and_true, false_and, and_false, and_self, ↓reduceIte, z_bool_of, or_true, true_or, or_false, false_or, Int.neg_neg, not_true_eq_false, not_false_eq_true, lg_lt, lg_le, lg_gt, lg_ge, lg_eq, j_lit, j_add, j_sub, j_mul, j_neg, j_eq, i64_id, ij, ji, z_rt, Nat.reduceEqDiff, Nat.reduceAdd, Int.reduceAdd, Int.reduceSub, Int.reduceMul, Int.reduceNeg, Int.reduceLT, Int.reduceLE, Int.reduceEq]
  | succ c ih =>
    intro t S T0 done latest hc ht hK hO hdn h19
    obtain ⟨k1, k2, k3, k4, k5, k6, k7, k8, k9⟩ := id hK
    have hmem := List.mem_of_getElem? hjc
    have hok := k4 cl hmem
    have hb := hok.2.2.2.2
    obtain ⟨S1, ok, w1, w2, w3⟩ := turn (X := X) (d := 150) (by omega) hj k1 k2.2 (k3 j cl hjc) hok (k5 cl hmem) k9 k6 hO (by omega)
    have ev1 := fun {cm cp : Nat} {L : zL} {st : List Value} => evI (X := X) (d := d) (by omega) w1 (cm := cm) (cp := cp) (L := L) (st := st)
    have e19 : gI S1 4 19 = -1 := by rw [w2.2.1 4 19 (by omega) (by omega) (by omega) (by omega) (by omega)]; exact h19
    have hjr : 0 ≤ (j : Int) ∧ (j : Int) < 12 := by omega
    -- the reference's turn
    have refT : ∀ (T T1 : zS) (had r : Int), r32 had → RK2 T cls → (r = 0 ∨ r = -3) → z_ev X 150 (z_entry 263 [.ref 72, .int (Int32.ofInt (8 * (j : Int)))] (mk T)) = some (vI r, mk T1) → z_ev X d (264, 150, L264b had j (vI t), [], mk T) = if r = 0 then z_ev X d (264, 150, L264b had j (vI (t + 1)), [], mk T1) else z_ev X d (264, 177, L264b had j (vI t), [], mk T1) := fun T T1 had r hh hT hr h => by
      have e7 := hr7 T hT
      have ev2 := fun {cm cp : Nat} {L : zL} {st : List Value} => evI (X := X) (d := d) (by omega) h (cm := cm) (cp := cp) (L := L) (st := st)
      rcases hr with rfl | rfl
      · rw [if_pos rfl, B264_150]
        simp (disch := first | omega | assumption | exact b01_rng _ | exact st_5 | exact st_12 | exact st_19 | (simp only [isSt_sI, isSt_sJ, isSt_sF, isSt_sG, isSt_sA]; assumption)) only [↓B264_166, ↓B264_174, ↓B264_194, ↓a_112, ↓a_77, ↓a_78, ↓a_79, ↓a_80, ↓n_112, ↓n_77, ↓n_78, ↓n_79, ↓n_80, ↓o_72, ↓r_72_10, ↓r_72_19, ↓r_72_21, ↓r_72_6, ↓r_72_64, ↓r_72_65, ↓r_72_7, ↓r_72_8, ↓r_72_9, ↓s_112, ↓s_77, ↓s_78, ↓s_79, ↓s_80, ↓w_72_0, ↓w_72_65, ↓w_72_66, ↓w_72_67, ↓o_72, e7, ev2, i_lit, i_add, i_sub, i_mul, i_neg, i_lt, i_le, i_eq, i32_gI, i64_gJ, i32_id, i32_to, i64_to, sI_i32, sJ_i64, b01_t, b01_f, i32_b01, b01_0, ↓a_s0, ↓n_s0, ↓a_s1, ↓n_s1, Int.add_zero, t_lt, f_lt, t_le, f_le, t_eq, f_eq, true_and, and_true, false_and, and_false, and_self, ↓reduceIte, z_bool_of, or_true, true_or, or_false, false_or, Int.neg_neg, not_true_eq_false, not_false_eq_true, lg_lt, lg_le, lg_gt, lg_ge, lg_eq, j_lit, j_add, j_sub, j_mul, j_neg, j_eq, i64_id, ij, ji, z_rt, Nat.reduceEqDiff, Nat.reduceAdd, Int.reduceAdd, Int.reduceSub, Int.reduceMul, Int.reduceNeg, Int.reduceLT, Int.reduceLE, Int.reduceEq]
      · rw [if_neg (by omega), B264_150]
        simp (disch := first | omega | assumption | exact b01_rng _ | exact st_5 | exact st_12 | exact st_19 | (simp only [isSt_sI, isSt_sJ, isSt_sF, isSt_sG, isSt_sA]; assumption)) only [↓B264_166, ↓B264_174, ↓a_112, ↓a_77, ↓a_78, ↓a_79, ↓a_80, ↓n_112, ↓n_77, ↓n_78, ↓n_79, ↓n_80, ↓o_72, ↓r_72_10, ↓r_72_19, ↓r_72_21, ↓r_72_6, ↓r_72_64, ↓r_72_65, ↓r_72_7, ↓r_72_8, ↓r_72_9, ↓s_112, ↓s_77, ↓s_78, ↓s_79, ↓s_80, ↓w_72_0, ↓w_72_65, ↓w_72_66, ↓w_72_67, ↓o_72, e7, ev2, i_lit, i_add, i_sub, i_mul, i_neg, i_lt, i_le, i_eq, i32_gI, i64_gJ, i32_id, i32_to, i64_to, sI_i32, sJ_i64, b01_t, b01_f, i32_b01, b01_0, ↓a_s0, ↓n_s0, ↓a_s1, ↓n_s1, Int.add_zero, t_lt, f_lt, t_le, f_le, t_eq, f_eq, true_and, and_true, false_and, and_false, and_self, ↓reduceIte, z_bool_of, or_true, true_or, or_false, false_or, Int.neg_neg, not_true_eq_false, not_false_eq_true, lg_lt, lg_le, lg_gt, lg_ge, lg_eq, j_lit, j_add, j_sub, j_mul, j_neg, j_eq, i64_id, ij, ji, z_rt, Nat.reduceEqDiff, Nat.reduceAdd, Int.reduceAdd, Int.reduceSub, Int.reduceMul, Int.reduceNeg, Int.reduceLT, Int.reduceLE, Int.reduceEq]
    rcases w3 with ⟨rfl, T0', done', latest', v1, v2, v3⟩ | ⟨rfl, v1, v2⟩
    · obtain ⟨S', x5, u1, u2, u3⟩ := ih (t + 1) S1 T0' done' latest' (by omega) (by omega) (hK.fr w2.od) v1 (by omega) e19
      have st1 : z_ev X d (106, 140, L106 j (vI cl.2.1) (vI t), [], mk S) = z_ev X d (106, 140, L106 j (vI cl.2.1) (vI (t + 1)), [], mk S1) := by
        rw [B106_140]
        simp (disch := first | omega | assumption | exact b01_rng _ | exact st_5 | exact st_12 | exact st_19 | (simp only [isSt_sI, isSt_sJ, isSt_sF, isSt_sG, isSt_sA]; assumption)) only [↓B106_147, ↓B106_155, ↓B106_161, ↓B106_169, ↓a_68, ↓n_68, ↓o_19, ↓o_27, ↓o_31, ↓o_37, ↓o_4, ↓o_5, ↓o_52, ↓o_53, ↓r_37_5, ↓r_4_0, ↓r_4_1, ↓r_4_12, ↓r_4_19, ↓r_4_4, ↓r_4_5, ↓r_4_6, ↓r_4_7, ↓r_4_9, ↓r_52_0, ↓r_53_2, ↓r_53_4, ↓s_68, ↓w_35_1, ↓w_4_17, ↓w_4_19, ↓o_4, h19, ev1, i_lit, i_add, i_sub, i_mul, i_neg, i_lt, i_le, i_eq, i32_gI, i64_gJ, i32_id, i32_to, i64_to, sI_i32, sJ_i64, b01_t, b01_f, i32_b01, b01_0, ↓a_s0, ↓n_s0, ↓a_s1, ↓n_s1, Int.add_zero, t_lt, f_lt, t_le, f_le, t_eq, f_eq, true_and, and_true, false_and, and_false, and_self, ↓reduceIte, z_bool_of, or_true, true_or, or_false, false_or, Int.neg_neg, not_true_eq_false, not_false_eq_true, lg_lt, lg_le, lg_gt, lg_ge, lg_eq, j_lit, j_add, j_sub, j_mul, j_neg, j_eq, i64_id, ij, ji, z_rt, Nat.reduceEqDiff, Nat.reduceAdd, Int.reduceAdd, Int.reduceSub, Int.reduceMul, Int.reduceNeg, Int.reduceLT, Int.reduceLE, Int.reduceEq]
      refine ⟨S', x5, st1.trans u1, w2.od.tr u2, ?_⟩
      rcases u3 with ⟨z1, A0, d1, l1, z2, z3, z4⟩ | ⟨z1, z2, z3⟩
      · refine Or.inl ⟨z1, A0, d1, l1, z2, z3, fun T had hh hS hT => ?_⟩
        obtain ⟨kk, q1, q2⟩ := hT.1
        obtain ⟨T1, y1, y2, y3⟩ := v3 T kk hS (q2 j cl hjc) q1
        obtain ⟨T', y4, y5, y6⟩ := z4 T1 had hh y3 (hT.fr y2)
        have := refT T T1 had 0 hh hT (Or.inl rfl) y1
        rw [if_pos rfl] at this
        exact ⟨T', this.trans y4, y2.tr y5, y6⟩
      · refine Or.inr ⟨z1, z2, fun T had hh hS hT => ?_⟩
        obtain ⟨kk, q1, q2⟩ := hT.1
        obtain ⟨T1, y1, y2, y3⟩ := v3 T kk hS (q2 j cl hjc) q1
        obtain ⟨T', t', y4, y5, y6⟩ := z3 T1 had hh y3 (hT.fr y2)
        have := refT T T1 had 0 hh hT (Or.inl rfl) y1
        rw [if_pos rfl] at this
        exact ⟨T', t', this.trans y4, y2.tr y5, y6⟩
    · have g19 : gI (sI S1 4 19 j) 4 19 = j := by rw [gI_sI, if_pos ⟨rfl, rfl⟩, i32_id (by omega) (by omega)]
      have hne : ¬ (j : Int) = -1 := by omega
      refine ⟨sI S1 4 19 j, t + 1, ?_, w2.od.tr FrOd.I, Or.inr ⟨g19, v1.keep (fun _ _ => rfl) (fun _ _ => rfl), fun T had hh hS hT => ?_⟩⟩
      · have st1 : z_ev X d (106, 140, L106 j (vI cl.2.1) (vI t), [], mk S) = z_ev X d (106, 140, L106 j (vI cl.2.1) (vI (t + 1)), [], mk (sI S1 4 19 j)) := by
          rw [B106_140]
          simp (disch := first | omega | assumption | exact b01_rng _ | exact st_5 | exact st_12 | exact st_19 | (simp only [isSt_sI, isSt_sJ, isSt_sF, isSt_sG, isSt_sA]; assumption)) only [↓B106_147, ↓B106_155, ↓B106_161, ↓B106_164, ↓B106_169, ↓a_68, ↓n_68, ↓o_19, ↓o_27, ↓o_31, ↓o_37, ↓o_4, ↓o_5, ↓o_52, ↓o_53, ↓r_37_5, ↓r_4_0, ↓r_4_1, ↓r_4_12, ↓r_4_19, ↓r_4_4, ↓r_4_5, ↓r_4_6, ↓r_4_7, ↓r_4_9, ↓r_52_0, ↓r_53_2, ↓r_53_4, ↓s_68, ↓w_35_1, ↓w_4_17, ↓w_4_19, ↓o_4, h19, ev1, i_lit, i_add, i_sub, i_mul, i_neg, i_lt, i_le, i_eq, i32_gI, i64_gJ, i32_id, i32_to, i64_to, sI_i32, sJ_i64, b01_t, b01_f, i32_b01, b01_0, ↓a_s0, ↓n_s0, ↓a_s1, ↓n_s1, Int.add_zero, t_lt, f_lt, t_le, f_le, t_eq, f_eq, true_and, and_true, false_and, and_false, and_self, ↓reduceIte, z_bool_of, or_true, true_or, or_false, false_or, Int.neg_neg, not_true_eq_false, not_false_eq_true, lg_lt, lg_le, lg_gt, lg_ge, lg_eq, j_lit, j_add, j_sub, j_mul, j_neg, j_eq, i64_id, ij, ji, z_rt, Nat.reduceEqDiff, Nat.reduceAdd, Int.reduceAdd, Int.reduceSub, Int.reduceMul, Int.reduceNeg, Int.reduceLT, Int.reduceLE, Int.reduceEq]
        rw [st1, B106_140]
        by_cases z : cl.2.1 ≤ t + 1
        · simp (disch := first | omega | assumption | exact b01_rng _ | exact st_5 | exact st_12 | exact st_19 | (simp only [isSt_sI, isSt_sJ, isSt_sF, isSt_sG, isSt_sA]; assumption)) only [i_lit, i_add, i_sub, i_mul, i_neg, i_lt, i_le, i_eq, i32_gI, i64_gJ, i32_id, i32_to, i64_to, sI_i32, sJ_i64, b01_t, b01_f, i32_b01, b01_0, ↓a_s0, ↓n_s0, ↓a_s1, ↓n_s1, Int.add_zero, t_lt, f_lt, t_le, f_le, t_eq, f_eq, true_and, and_true, false_and, and_false, and_self, ↓reduceIte, z_bool_of, or_true, true_or, or_false, false_or, Int.neg_neg, not_true_eq_false, not_false_eq_true, lg_lt, lg_le, lg_gt, lg_ge, lg_eq, j_lit, j_add, j_sub, j_mul, j_neg, j_eq, i64_id, ij, ji, z_rt, Nat.reduceEqDiff, Nat.reduceAdd, Int.reduceAdd, Int.reduceSub, Int.reduceMul, Int.reduceNeg, Int.reduceLT, Int.reduceLE, Int.reduceEq]
        · simp (disch := first | omega | assumption | exact b01_rng _ | exact st_5 | exact st_12 | exact st_19 | (simp only [isSt_sI, isSt_sJ, isSt_sF, isSt_sG, isSt_sA]; assumption)) only [↓B106_147, ↓a_68, ↓n_68, ↓o_19, ↓o_27, ↓o_31, ↓o_37, ↓o_4, ↓o_5, ↓o_52, ↓o_53, ↓r_37_5, ↓r_4_0, ↓r_4_1, ↓r_4_12, ↓r_4_19, ↓r_4_4, ↓r_4_5, ↓r_4_6, ↓r_4_7, ↓r_4_9, ↓r_52_0, ↓r_53_2, ↓r_53_4, ↓s_68, ↓w_35_1, ↓w_4_17, ↓w_4_19, g19, hne, i_lit, i_add, i_sub, i_mul, i_neg, i_lt, i_le, i_eq, i32_gI, i64_gJ, i32_id, i32_to, i64_to, sI_i32, sJ_i64, b01_t, b01_f, i32_b01, b01_0, ↓a_s0, ↓n_s0, ↓a_s1, ↓n_s1, Int.add_zero, t_lt, f_lt, t_le, f_le, t_eq, f_eq, true_and, and_true, false_and, and_false, and_self, ↓reduceIte, z_bool_of, or_true, true_or, or_false, false_or, Int.neg_neg, not_true_eq_false, not_false_eq_true, lg_lt, lg_le, lg_gt, lg_ge, lg_eq, j_lit, j_add, j_sub, j_mul, j_neg, j_eq, i64_id, ij, ji, z_rt, Nat.reduceEqDiff, Nat.reduceAdd, Int.reduceAdd, Int.reduceSub, Int.reduceMul, Int.reduceNeg, Int.reduceLT, Int.reduceLE, Int.reduceEq]
      · obtain ⟨kk, q1, q2⟩ := hT.1
        obtain ⟨T1, y1, y2, y3⟩ := v2 T kk hS (q2 j cl hjc) q1
        have := refT T T1 had (-3) hh hT (Or.inr rfl) y1
        rw [if_neg (by omega)] at this
        exact ⟨T1, t, this, y2, y3⟩
/-- clauses -/
theorem clauses (hd : 200 ≤ d) {cls : List Cl} {asks : Int} : ∀ (c j : Nat) (S T0 : zS) (done latest : Int) (x4 x5 : Option Value), j + c = cls.length → CK S cls asks → OR S T0 done latest asks → done ≤ 20 * j → gI S 4 19 = -1 → ∃ (S' : zS) (y3 : Int) (y4 y5 : Option Value), z_ev X d (106, 113, L106 j x4 x5, [], mk S) = z_ev X d (106, 181, L106 y3 y4 y5, [], mk S') ∧ FrOd S S' ∧ ((gI S' 4 19 = -1 ∧ ∃ (T0' : zS) (done' latest' : Int), OR S' T0' done' latest' asks ∧ ∀ (T : zS) (had : Int) (z3 : Option Value), r32 had → ORS T0 T done latest → RK2 T cls → ∃ (T' : zS) (w2 : Int) (w3 : Option Value), z_ev X d (264, 140, L264b had j z3, [], mk T) = z_ev X d (264, 206, L264b had w2 w3, [], mk T') ∧ FrOm T T' ∧ ORS T0' T' done' latest') ∨ ∃ jj : Int, (0 ≤ jj ∧ jj < 12) ∧ gI S' 4 19 = jj ∧ FxC S' ∧ ∀ (T : zS) (had : Int) (z3 : Option Value), r32 had → ORS T0 T done latest → RK2 T cls → ∃ (T' : zS) (t' : Int), z_ev X d (264, 140, L264b had j z3, [], mk T) = z_ev X d (264, 177, L264b had jj (vI t'), [], mk T') ∧ FrOm T T' ∧ gI T' 72 20 = 0) := by
  intro c
  induction c with
  | zero =>
    intro j S T0 done latest x4 x5 hc hK hO hdn h19
    obtain ⟨k1, k2, k3, k4, k5, k6, k7, k8, k9⟩ := id hK
    have hjl : j = cls.length := by omega
    refine ⟨S, j, x4, x5, ?_, FrOd.rf, Or.inl ⟨h19, T0, done, latest, hO, fun T had z3 hh hS hT => ⟨T, j, z3, ?_, FrOm.rf, hS⟩⟩⟩
    · have e2 : gI S 53 2 = (j : Int) := by rw [k7, hjl]
      rw [B106_113]
      simp (disch := first | omega | assumption | exact b01_rng _ | exact st_5 | exact st_12 | exact st_19 | (simp only [isSt_sI, isSt_sJ, isSt_sF, isSt_sG, isSt_sA]; assumption)) only [↓a_68, ↓n_68, ↓o_19, ↓o_27, ↓o_31, ↓o_37, ↓o_4, ↓o_5, ↓o_52, ↓o_53, ↓r_37_5, ↓r_4_0, ↓r_4_1, ↓r_4_12, ↓r_4_19, ↓r_4_4, ↓r_4_5, ↓r_4_6, ↓r_4_7, ↓r_4_9, ↓r_52_0, ↓r_53_2, ↓r_53_4, ↓s_68, ↓w_35_1, ↓w_4_17, ↓w_4_19, ↓r_53_2, e2, i_lit, i_add, i_sub, i_mul, i_neg, i_lt, i_le, i_eq, i32_gI, i64_gJ, i32_id, i32_to, i64_to, sI_i32, sJ_i64, b01_t, b01_f, i32_b01, b01_0, ↓a_s0, ↓n_s0, ↓a_s1, ↓n_s1, Int.add_zero, t_lt, f_lt, t_le, f_le, t_eq, f_eq, true_and, and_true, false_and, and_false, and_self, ↓reduceIte, z_bool_of, or_true, true_or, or_false, false_or, Int.neg_neg, not_true_eq_false, not_false_eq_true, lg_lt, lg_le, lg_gt, lg_ge, lg_eq, j_lit, j_add, j_sub, j_mul, j_neg, j_eq, i64_id, ij, ji, z_rt, Nat.reduceEqDiff, Nat.reduceAdd, Int.reduceAdd, Int.reduceSub, Int.reduceMul, Int.reduceNeg, Int.reduceLT, Int.reduceLE, Int.reduceEq]
    · have e21 : gI T 72 21 = (j : Int) := by rw [hT.2, hjl]
      rw [B264_140]
      simp (disch := first | omega | assumption | exact b01_rng _ | exact st_5 | exact st_12 | exact st_19 | (simp only [isSt_sI, isSt_sJ, isSt_sF, isSt_sG, isSt_sA]; assumption)) only [↓a_112, ↓a_77, ↓a_78, ↓a_79, ↓a_80, ↓n_112, ↓n_77, ↓n_78, ↓n_79, ↓n_80, ↓o_72, ↓r_72_10, ↓r_72_19, ↓r_72_21, ↓r_72_6, ↓r_72_64, ↓r_72_65, ↓r_72_7, ↓r_72_8, ↓r_72_9, ↓s_112, ↓s_77, ↓s_78, ↓s_79, ↓s_80, ↓w_72_0, ↓w_72_65, ↓w_72_66, ↓w_72_67, e21, i_lit, i_add, i_sub, i_mul, i_neg, i_lt, i_le, i_eq, i32_gI, i64_gJ, i32_id, i32_to, i64_to, sI_i32, sJ_i64, b01_t, b01_f, i32_b01, b01_0, ↓a_s0, ↓n_s0, ↓a_s1, ↓n_s1, Int.add_zero, t_lt, f_lt, t_le, f_le, t_eq, f_eq, true_and, and_true, false_and, and_false, and_self, ↓reduceIte, z_bool_of, or_true, true_or, or_false, false_or, Int.neg_neg, not_true_eq_false, not_false_eq_true, lg_lt, lg_le, lg_gt, lg_ge, lg_eq, j_lit, j_add, j_sub, j_mul, j_neg, j_eq, i64_id, ij, ji, z_rt, Nat.reduceEqDiff, Nat.reduceAdd, Int.reduceAdd, Int.reduceSub, Int.reduceMul, Int.reduceNeg, Int.reduceLT, Int.reduceLE, Int.reduceEq]
  | succ c ih =>
    intro j S T0 done latest x4 x5 hc hK hO hdn h19
    obtain ⟨k1, k2, k3, k4, k5, k6, k7, k8, k9⟩ := id hK
    have hjl : j < cls.length := by omega
    have hjc : cls[j]? = some cls[j] := List.getElem?_eq_getElem hjl
    generalize cls[j] = cl at hjc
    have hok := k4 cl (List.mem_of_getElem? hjc)
    have hb := hok.2.2.2.2
    obtain ⟨S1, x5', w1, w2, w3⟩ := turns (X := X) (d := d) hd hjc (by omega) cl.2.1.toNat 0 S T0 done latest (by omega) (by omega) hK hO (by omega) h19
    have c14' := fun {cm cp : Nat} {L : zL} {st : List Value} => c14r (X := X) (d := d) (by omega) (cm := cm) (cp := cp) (L := L) (st := st) (S := S) (j : Int) 1 (by omega) (by omega)
    rw [(k3 j cl hjc).2.1] at c14'
    have st1 : z_ev X d (106, 113, L106 j x4 x5, [], mk S) = z_ev X d (106, 140, L106 j (vI cl.2.1) (vI 0), [], mk S) := by
      rw [B106_113]
      simp (disch := first | omega | assumption | exact b01_rng _ | exact st_5 | exact st_12 | exact st_19 | (simp only [isSt_sI, isSt_sJ, isSt_sF, isSt_sG, isSt_sA]; assumption)) only [↓B106_121, ↓B106_129, ↓B106_135, ↓a_68, ↓n_68, ↓o_19, ↓o_27, ↓o_31, ↓o_37, ↓o_4, ↓o_5, ↓o_52, ↓o_53, ↓r_37_5, ↓r_4_0, ↓r_4_1, ↓r_4_12, ↓r_4_19, ↓r_4_4, ↓r_4_5, ↓r_4_6, ↓r_4_7, ↓r_4_9, ↓r_52_0, ↓r_53_2, ↓r_53_4, ↓s_68, ↓w_35_1, ↓w_4_17, ↓w_4_19, ↓r_53_2, ↓o_53, k7, h19, c14', i_lit, i_add, i_sub, i_mul, i_neg, i_lt, i_le, i_eq, i32_gI, i64_gJ, i32_id, i32_to, i64_to, sI_i32, sJ_i64, b01_t, b01_f, i32_b01, b01_0, ↓a_s0, ↓n_s0, ↓a_s1, ↓n_s1, Int.add_zero, t_lt, f_lt, t_le, f_le, t_eq, f_eq, true_and, and_true, false_and, and_false, and_self, ↓reduceIte, z_bool_of, or_true, true_or, or_false, false_or, Int.neg_neg, not_true_eq_false, not_false_eq_true, lg_lt, lg_le, lg_gt, lg_ge, lg_eq, j_lit, j_add, j_sub, j_mul, j_neg, j_eq, i64_id, ij, ji, z_rt, Nat.reduceEqDiff, Nat.reduceAdd, Int.reduceAdd, Int.reduceSub, Int.reduceMul, Int.reduceNeg, Int.reduceLT, Int.reduceLE, Int.reduceEq]
    have st2 : z_ev X d (106, 175, L106 j (vI cl.2.1) (vI x5'), [], mk S1) = z_ev X d (106, 113, L106 ((j + 1 : Nat) : Int) (vI cl.2.1) (vI x5'), [], mk S1) := by
      rw [show ((j + 1 : Nat) : Int) = (j : Int) + 1 by omega, B106_175]
      simp (disch := first | omega | assumption | exact b01_rng _ | exact st_5 | exact st_12 | exact st_19 | (simp only [isSt_sI, isSt_sJ, isSt_sF, isSt_sG, isSt_sA]; assumption)) only [i_lit, i_add, i_sub, i_mul, i_neg, i_lt, i_le, i_eq, i32_gI, i64_gJ, i32_id, i32_to, i64_to, sI_i32, sJ_i64, b01_t, b01_f, i32_b01, b01_0, ↓a_s0, ↓n_s0, ↓a_s1, ↓n_s1, Int.add_zero, t_lt, f_lt, t_le, f_le, t_eq, f_eq, true_and, and_true, false_and, and_false, and_self, ↓reduceIte, z_bool_of, or_true, true_or, or_false, false_or, Int.neg_neg, not_true_eq_false, not_false_eq_true, lg_lt, lg_le, lg_gt, lg_ge, lg_eq, j_lit, j_add, j_sub, j_mul, j_neg, j_eq, i64_id, ij, ji, z_rt, Nat.reduceEqDiff, Nat.reduceAdd, Int.reduceAdd, Int.reduceSub, Int.reduceMul, Int.reduceNeg, Int.reduceLT, Int.reduceLE, Int.reduceEq]
    have stR : ∀ (T : zS) (had : Int) (z3 : Option Value), r32 had → RK2 T cls → z_ev X d (264, 140, L264b had j z3, [], mk T) = z_ev X d (264, 150, L264b had j (vI 0), [], mk T) := fun T had z3 hh hT => by
      have e21 := hT.2
      rw [B264_140]
      simp (disch := first | omega | assumption | exact b01_rng _ | exact st_5 | exact st_12 | exact st_19 | (simp only [isSt_sI, isSt_sJ, isSt_sF, isSt_sG, isSt_sA]; assumption)) only [↓B264_148, ↓a_112, ↓a_77, ↓a_78, ↓a_79, ↓a_80, ↓n_112, ↓n_77, ↓n_78, ↓n_79, ↓n_80, ↓o_72, ↓r_72_10, ↓r_72_19, ↓r_72_21, ↓r_72_6, ↓r_72_64, ↓r_72_65, ↓r_72_7, ↓r_72_8, ↓r_72_9, ↓s_112, ↓s_77, ↓s_78, ↓s_79, ↓s_80, ↓w_72_0, ↓w_72_65, ↓w_72_66, ↓w_72_67, e21, i_lit, i_add, i_sub, i_mul, i_neg, i_lt, i_le, i_eq, i32_gI, i64_gJ, i32_id, i32_to, i64_to, sI_i32, sJ_i64, b01_t, b01_f, i32_b01, b01_0, ↓a_s0, ↓n_s0, ↓a_s1, ↓n_s1, Int.add_zero, t_lt, f_lt, t_le, f_le, t_eq, f_eq, true_and, and_true, false_and, and_false, and_self, ↓reduceIte, z_bool_of, or_true, true_or, or_false, false_or, Int.neg_neg, not_true_eq_false, not_false_eq_true, lg_lt, lg_le, lg_gt, lg_ge, lg_eq, j_lit, j_add, j_sub, j_mul, j_neg, j_eq, i64_id, ij, ji, z_rt, Nat.reduceEqDiff, Nat.reduceAdd, Int.reduceAdd, Int.reduceSub, Int.reduceMul, Int.reduceNeg, Int.reduceLT, Int.reduceLE, Int.reduceEq]
    rcases w3 with ⟨v1, T0', done', latest', v2, v3, v4⟩ | ⟨v1, v2, v3⟩
    · obtain ⟨S', y3, y4, y5, u1, u2, u3⟩ := ih (j + 1) S1 T0' done' latest' (vI cl.2.1) (vI x5') (by omega) (hK.fr w2) v2 (by omega) v1
      refine ⟨S', y3, y4, y5, st1.trans (w1.trans (st2.trans u1)), w2.tr u2, ?_⟩
      have stR2 : ∀ (T T1 : zS) (had : Int) (z3 : Option Value), r32 had → RK2 T cls → z_ev X d (264, 150, L264b had j (vI 0), [], mk T) = z_ev X d (264, 200, L264b had j (vI cl.2.1), [], mk T1) → z_ev X d (264, 140, L264b had j z3, [], mk T) = z_ev X d (264, 140, L264b had ((j + 1 : Nat) : Int) (vI cl.2.1), [], mk T1) := fun T T1 had z3 hh hT h => by
        rw [stR T had z3 hh hT, h, show ((j + 1 : Nat) : Int) = (j : Int) + 1 by omega, B264_200]
        simp (disch := first | omega | assumption | exact b01_rng _ | exact st_5 | exact st_12 | exact st_19 | (simp only [isSt_sI, isSt_sJ, isSt_sF, isSt_sG, isSt_sA]; assumption)) only [i_lit, i_add, i_sub, i_mul, i_neg, i_lt, i_le, i_eq, i32_gI, i64_gJ, i32_id, i32_to, i64_to, sI_i32, sJ_i64, b01_t, b01_f, i32_b01, b01_0, ↓a_s0, ↓n_s0, ↓a_s1, ↓n_s1, Int.add_zero, t_lt, f_lt, t_le, f_le, t_eq, f_eq, true_and, and_true, false_and, and_false, and_self, ↓reduceIte, z_bool_of, or_true, true_or, or_false, false_or, Int.neg_neg, not_true_eq_false, not_false_eq_true, lg_lt, lg_le, lg_gt, lg_ge, lg_eq, j_lit, j_add, j_sub, j_mul, j_neg, j_eq, i64_id, ij, ji, z_rt, Nat.reduceEqDiff, Nat.reduceAdd, Int.reduceAdd, Int.reduceSub, Int.reduceMul, Int.reduceNeg, Int.reduceLT, Int.reduceLE, Int.reduceEq]
      rcases u3 with ⟨z1, A0, d1, l1, z2, z4⟩ | ⟨jj, z0, z1, z2, z4⟩
      · refine Or.inl ⟨z1, A0, d1, l1, z2, fun T had z3 hh hS hT => ?_⟩
        obtain ⟨T1, q1, q2, q3⟩ := v4 T had hh hS hT
        obtain ⟨T', w2', w3', q4, q5, q6⟩ := z4 T1 had (vI cl.2.1) hh q3 (hT.fr q2)
        exact ⟨T', w2', w3', (stR2 T T1 had z3 hh hT q1).trans q4, q2.tr q5, q6⟩
      · refine Or.inr ⟨jj, z0, z1, z2, fun T had z3 hh hS hT => ?_⟩
        obtain ⟨T1, q1, q2, q3⟩ := v4 T had hh hS hT
        obtain ⟨T', t', q4, q5, q6⟩ := z4 T1 had (vI cl.2.1) hh q3 (hT.fr q2)
        exact ⟨T', t', (stR2 T T1 had z3 hh hT q1).trans q4, q2.tr q5, q6⟩
    · refine ⟨S1, ((j + 1 : Nat) : Int), vI cl.2.1, vI x5', ?_, w2, Or.inr ⟨j, by omega, v1, v2, fun T had z3 hh hS hT => ?_⟩⟩
      · have hne : ¬ (j : Int) = -1 := by omega
        have e2 : gI S1 53 2 = cls.length := by rw [w2.2.1 53 2 (by omega) (by omega) (by omega) (by omega) (by omega) (by omega)]; exact k7
        rw [st1, w1, st2, B106_113]
        by_cases z : (cls.length : Int) ≤ ((j + 1 : Nat) : Int)
        · simp (disch := first | omega | assumption | exact b01_rng _ | exact st_5 | exact st_12 | exact st_19 | (simp only [isSt_sI, isSt_sJ, isSt_sF, isSt_sG, isSt_sA]; assumption)) only [↓a_68, ↓n_68, ↓o_19, ↓o_27, ↓o_31, ↓o_37, ↓o_4, ↓o_5, ↓o_52, ↓o_53, ↓r_37_5, ↓r_4_0, ↓r_4_1, ↓r_4_12, ↓r_4_19, ↓r_4_4, ↓r_4_5, ↓r_4_6, ↓r_4_7, ↓r_4_9, ↓r_52_0, ↓r_53_2, ↓r_53_4, ↓s_68, ↓w_35_1, ↓w_4_17, ↓w_4_19, ↓r_53_2, e2, i_lit, i_add, i_sub, i_mul, i_neg, i_lt, i_le, i_eq, i32_gI, i64_gJ, i32_id, i32_to, i64_to, sI_i32, sJ_i64, b01_t, b01_f, i32_b01, b01_0, ↓a_s0, ↓n_s0, ↓a_s1, ↓n_s1, Int.add_zero, t_lt, f_lt, t_le, f_le, t_eq, f_eq, true_and, and_true, false_and, and_false, and_self, ↓reduceIte, z_bool_of, or_true, true_or, or_false, false_or, Int.neg_neg, not_true_eq_false, not_false_eq_true, lg_lt, lg_le, lg_gt, lg_ge, lg_eq, j_lit, j_add, j_sub, j_mul, j_neg, j_eq, i64_id, ij, ji, z_rt, Nat.reduceEqDiff, Nat.reduceAdd, Int.reduceAdd, Int.reduceSub, Int.reduceMul, Int.reduceNeg, Int.reduceLT, Int.reduceLE, Int.reduceEq]
        · simp (disch := first | omega | assumption | exact b01_rng _ | exact st_5 | exact st_12 | exact st_19 | (simp only [isSt_sI, isSt_sJ, isSt_sF, isSt_sG, isSt_sA]; assumption)) only [↓B106_121, ↓a_68, ↓n_68, ↓o_19, ↓o_27, ↓o_31, ↓o_37, ↓o_4, ↓o_5, ↓o_52, ↓o_53, ↓r_37_5, ↓r_4_0, ↓r_4_1, ↓r_4_12, ↓r_4_19, ↓r_4_4, ↓r_4_5, ↓r_4_6, ↓r_4_7, ↓r_4_9, ↓r_52_0, ↓r_53_2, ↓r_53_4, ↓s_68, ↓w_35_1, ↓w_4_17, ↓w_4_19, ↓r_53_2, e2, v1, hne, i_lit, i_add, i_sub, i_mul, i_neg, i_lt, i_le, i_eq, i32_gI, i64_gJ, i32_id, i32_to, i64_to, sI_i32, sJ_i64, b01_t, b01_f, i32_b01, b01_0, ↓a_s0, ↓n_s0, ↓a_s1, ↓n_s1, Int.add_zero, t_lt, f_lt, t_le, f_le, t_eq, f_eq, true_and, and_true, false_and, and_false, and_self, ↓reduceIte, z_bool_of, or_true, true_or, or_false, false_or, Int.neg_neg, not_true_eq_false, not_false_eq_true, lg_lt, lg_le, lg_gt, lg_ge, lg_eq, j_lit, j_add, j_sub, j_mul, j_neg, j_eq, i64_id, ij, ji, z_rt, Nat.reduceEqDiff, Nat.reduceAdd, Int.reduceAdd, Int.reduceSub, Int.reduceMul, Int.reduceNeg, Int.reduceLT, Int.reduceLE, Int.reduceEq]
      · obtain ⟨T', t', q1, q2, q3⟩ := v3 T had hh hS hT
        exact ⟨T', t', (stR T had z3 hh hT).trans q1, q2, q3⟩
end
