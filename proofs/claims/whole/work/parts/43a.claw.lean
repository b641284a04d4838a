/-! the class's law is made: compact -/
theorem cls_dyn {S : zS} {a : Nat} (h1 : 114 ≤ a) (h2 : gH S a = some (.inl 1)) : zdes S a = some (.inl (1, zdynk 1)) := by
  rw [zdes_dyn h1, h2]
theorem e12 {X : zX} {d : Nat} {S : zS} {a r1 r2 : Nat} (h1 : 114 ≤ a) (h2 : gH S a = some (.inl 1)) : z_ev X d (z_entry 12 [.ref a, .ref r1, .ref r2] (mk S)) = some (none, mk (sQ (sQ S a 0 (some r1)) a 1 (some r2))) := by
  show z_ev X d (12, 0, [some (.ref a), some (.ref r1), some (.ref r2)], [], mk S) = _
  rw [B12_0]
  rw [L_setQ (cls_dyn h1 h2) rfl, L_setQ (S := sQ S a _ _) (cls_dyn h1 h2) rfl]
  rfl
/-- the class's law at a: so many numbers of code, so many clauses -/
def ClsC (S : zS) (a m nc : Nat) (g h : Int → Int) : Prop := 114 ≤ a ∧ gH S a = some (.inl 1) ∧ (gH S (a + 1) = some (.inr (0, m)) ∧ gH S (a + 2) = some (.inr (0, nc * 5))) ∧ (gQ S a 0 = some (a + 1) ∧ gQ S a 1 = some (a + 2)) ∧ (gI S a 2 = nc ∧ gI S a 3 = m) ∧ (∀ i : Int, 0 ≤ i → i < m → gI S (a + 1) i = g i) ∧ (∀ i : Int, 0 ≤ i → i < nc * 5 → gI S (a + 2) i = h i)
theorem x18 {X : zX} {d : Nat} (hd : 20 ≤ d) {S : zS} {m nc : Nat} (hN : 114 ≤ gN S) (hm : gI S 53 3 = m) (hm2 : m ≤ 436) (hc : gI S 53 2 = nc) (hc2 : nc ≤ 12) : ∃ S' : zS, z_ev X d (18, 0, [some (.ref 53), none], [], mk S) = some (some (.ref (gN S)), mk S') ∧ ClsC S' (gN S) m nc (gI S 54) (gI S 55) ∧ FrCN S S' 3 501 ∧ (∀ b, b < gN S → ∀ i, gI S' b i = gI S b i) := by
  obtain ⟨a, ha⟩ : ∃ a, a = gN S := ⟨_, rfl⟩
  obtain ⟨T0, e0⟩ : ∃ T, T = sN S (.inl 1) 5 := ⟨_, rfl⟩
  have n0 : gN T0 = a + 1 := by rw [e0, gN_sN, ha]
  have o0 : ∀ b, b ≠ a → (∀ i, gI T0 b i = gI S b i) ∧ (∀ i, gQ T0 b i = gQ S b i) ∧ gH T0 b = gH S b := fun b hb => ⟨fun i => by rw [e0, gI_sN, if_neg (by omega)], fun i => by rw [e0, gQ_sN, if_neg (by omega)], by rw [e0, gH_sN, if_neg (by omega)]⟩
  have h0 : gH T0 a = some (.inl 1) := by rw [e0, gH_sN, if_pos ha]
  obtain ⟨T1, b1, c1⟩ := x276 (X := X) (d := d - 1) (by omega) (S := T0) (c := 54) (N := 436) (m := m) (by omega) (by omega) rfl (by omega) (by omega) (by omega)
  have n1 : gN T1 = a + 2 := by rw [c1.1, n0]
  obtain ⟨T2, b2, c2⟩ := x276 (X := X) (d := d - 1) (by omega) (S := T1) (c := 55) (N := 60) (m := nc * 5) (by omega) (by omega) rfl (by omega) (by omega) (by omega)
  have n2 : gN T2 = a + 3 := by rw [c2.1, n1]
  rw [n0] at b1
  rw [n1] at b2
  have h2 : gH T2 a = some (.inl 1) := by rw [(c2.2.2.2.2.1 a (by omega)).2.2, (c1.2.2.2.2.1 a (by omega)).2.2]; exact h0
  have old : ∀ b, b < a → (∀ i, gI T2 b i = gI S b i) ∧ (∀ i, gQ T2 b i = gQ S b i) ∧ gH T2 b = gH S b := fun b hb => by
    obtain ⟨q1, q2, q3⟩ := c2.2.2.2.2.1 b (by omega)
    obtain ⟨r1, r2, r3⟩ := c1.2.2.2.2.1 b (by omega)
    obtain ⟨s1, s2, s3⟩ := o0 b (by omega)
    exact ⟨fun i => by rw [q1, r1, s1], fun i => by rw [q2, r2, s2], by rw [q3, r3, s3]⟩
  have e5 : ((nc * 5 : Nat) : Int) = 5 * (nc : Int) := by omega
  have k1 : ∀ {cm cp : Nat} {L : zL} {s : List Value}, z_evc X d 276 [.ref 54, .int (Int32.ofInt m)] (cm, cp, L, s, mk T0) = z_ev X d (cm, cp, L, .ref (a + 1) :: s, mk T1) := fun {cm cp L s} => z_evc_of (r := (some (.ref (a + 1)), mk T1)) (ck := (cm, cp, L, s, mk T0)) (show d - 1 < d by omega) b1
  have k2 : ∀ {cm cp : Nat} {L : zL} {s : List Value}, z_evc X d 276 [.ref 55, .int (Int32.ofInt (5 * (nc : Int)))] (cm, cp, L, s, mk T1) = z_ev X d (cm, cp, L, .ref (a + 2) :: s, mk T2) := fun {cm cp L s} => z_evc_of (r := (some (.ref (a + 2)), mk T2)) (ck := (cm, cp, L, s, mk T1)) (show d - 1 < d by omega) (by rw [← e5]; exact b2)
  have k12 : ∀ {cm cp : Nat} {L : zL} {s : List Value}, z_evc X d 12 [.ref a, .ref (a + 1), .ref (a + 2)] (cm, cp, L, s, mk T2) = z_ev X d (cm, cp, L, s, mk (sQ (sQ T2 a 0 (some (a + 1))) a 1 (some (a + 2)))) := fun {cm cp L s} => z_evc_of (r := (none, mk (sQ (sQ T2 a 0 (some (a + 1))) a 1 (some (a + 2))))) (ck := (cm, cp, L, s, mk T2)) (show 0 < d by omega) (e12 (X := X) (d := 0) (by omega) h2)
  have s0 : gI T0 53 3 = m := by rw [(o0 53 (by omega)).1]; exact hm
  have s1 : gI T1 53 2 = nc := by rw [(c1.2.2.2.2.1 53 (by omega)).1, (o0 53 (by omega)).1]; exact hc
  obtain ⟨U, hU⟩ : ∃ U, U = sQ (sQ T2 a 0 (some (a + 1))) a 1 (some (a + 2)) := ⟨_, rfl⟩
  have uz : gH U a = some (.inl 1) := by rw [hU]; exact h2
  have u2 : gI U 53 2 = nc := by rw [hU]; show gI T2 53 2 = _; rw [(old 53 (by omega)).1]; exact hc
  have u3 : gI U 53 3 = m := by rw [hU]; show gI T2 53 3 = _; rw [(old 53 (by omega)).1]; exact hm
  have u3' : gI (sI U a 2 nc) 53 3 = m := by rw [gI_sI, if_neg (by omega)]; exact u3
  have mx1 : max (0 : Int) m = m := by omega
  have mx2 : max (0 : Int) nc = nc := by omega
  have fin39 : z_ev X d (18, 39, [some (.ref 53), none], [.ref a], mk U) = some (some (.ref a), mk (sI (sI U a 2 nc) a 3 m)) := by
    rw [B18_39]
    simp (disch := first | omega | assumption | exact b01_rng _ | exact st_5 | exact st_12 | exact st_19 | (simp only [isSt_sI, isSt_sJ, isSt_sF, isSt_sG, isSt_sA]; assumption)) only [↓a_54, ↓a_55, ↓n_54, ↓n_55, ↓o_53, ↓r_53_0, ↓r_53_1, ↓r_53_2, ↓r_53_3, ↓s_54, ↓s_55, ↓w_53_2, ↓w_53_3, i_lit, i_add, i_sub, i_mul, i_neg, i_lt, i_le, i_eq, i32_gI, i64_gJ, i32_id, i32_to, i64_to, sI_i32, sJ_i64, b01_t, b01_f, i32_b01, b01_0, ↓a_s0, ↓n_s0, ↓a_s1, ↓n_s1, Int.add_zero, t_lt, f_lt, t_le, f_le, t_eq, f_eq, true_and, and_true, false_and, and_false, and_self, ↓reduceIte, z_bool_of, or_true, true_or, or_false, false_or, Int.neg_neg, not_true_eq_false, not_false_eq_true, lg_lt, lg_le, lg_gt, lg_ge, lg_eq, j_lit, j_add, j_sub, j_mul, j_neg, j_eq, i64_id, ij, ji, z_rt, Nat.reduceEqDiff, Nat.reduceAdd, Int.reduceAdd, Int.reduceSub, Int.reduceMul, Int.reduceNeg, Int.reduceLT, Int.reduceLE, Int.reduceEq, u2]
    rw [G_setI (cls_dyn (by omega) uz) rfl]
    simp only [i32_to, sI_i32]
    show z_fldI none (mk (sI U a 2 nc)) 53 1 3 _ = _
    simp (disch := first | omega | assumption | exact b01_rng _ | exact st_5 | exact st_12 | exact st_19 | (simp only [isSt_sI, isSt_sJ, isSt_sF, isSt_sG, isSt_sA]; assumption)) only [↓a_54, ↓a_55, ↓n_54, ↓n_55, ↓o_53, ↓r_53_0, ↓r_53_1, ↓r_53_2, ↓r_53_3, ↓s_54, ↓s_55, ↓w_53_2, ↓w_53_3, i_lit, i_add, i_sub, i_mul, i_neg, i_lt, i_le, i_eq, i32_gI, i64_gJ, i32_id, i32_to, i64_to, sI_i32, sJ_i64, b01_t, b01_f, i32_b01, b01_0, ↓a_s0, ↓n_s0, ↓a_s1, ↓n_s1, Int.add_zero, t_lt, f_lt, t_le, f_le, t_eq, f_eq, true_and, and_true, false_and, and_false, and_self, ↓reduceIte, z_bool_of, or_true, true_or, or_false, false_or, Int.neg_neg, not_true_eq_false, not_false_eq_true, lg_lt, lg_le, lg_gt, lg_ge, lg_eq, j_lit, j_add, j_sub, j_mul, j_neg, j_eq, i64_id, ij, ji, z_rt, Nat.reduceEqDiff, Nat.reduceAdd, Int.reduceAdd, Int.reduceSub, Int.reduceMul, Int.reduceNeg, Int.reduceLT, Int.reduceLE, Int.reduceEq, u3']
    rw [G_setI (S := sI U a ((2 : Nat) : Int) nc) (cls_dyn (by omega) uz) rfl]
    simp only [i32_to, sI_i32]
    rfl
  rw [hU] at fin39
  refine ⟨sI (sI U a 2 nc) a 3 m, ?_, ?_, ⟨?_, ?_, fun b hb _ i => ?_, fun b hb => ⟨fun i => ?_, fun _ => ?_⟩, fun b i => ?_, fun b hb => ?_⟩, fun b hb i => ?_⟩
  · rw [← ha, hU, ← fin39]
    rw [B18_0, L_newO (n := 5) hN (by omega), ← e0, show (mk S).1 = a from ha.symm]
    simp (disch := first | omega | assumption | exact b01_rng _ | exact st_5 | exact st_12 | exact st_19 | (simp only [isSt_sI, isSt_sJ, isSt_sF, isSt_sG, isSt_sA]; assumption)) only [↓a_54, ↓a_55, ↓n_54, ↓n_55, ↓o_53, ↓r_53_0, ↓r_53_1, ↓r_53_2, ↓r_53_3, ↓s_54, ↓s_55, ↓w_53_2, ↓w_53_3, i_lit, i_add, i_sub, i_mul, i_neg, i_lt, i_le, i_eq, i32_gI, i64_gJ, i32_id, i32_to, i64_to, sI_i32, sJ_i64, b01_t, b01_f, i32_b01, b01_0, ↓a_s0, ↓n_s0, ↓a_s1, ↓n_s1, Int.add_zero, t_lt, f_lt, t_le, f_le, t_eq, f_eq, true_and, and_true, false_and, and_false, and_self, ↓reduceIte, z_bool_of, or_true, true_or, or_false, false_or, Int.neg_neg, not_true_eq_false, not_false_eq_true, lg_lt, lg_le, lg_gt, lg_ge, lg_eq, j_lit, j_add, j_sub, j_mul, j_neg, j_eq, i64_id, ij, ji, z_rt, Nat.reduceEqDiff, Nat.reduceAdd, Int.reduceAdd, Int.reduceSub, Int.reduceMul, Int.reduceNeg, Int.reduceLT, Int.reduceLE, Int.reduceEq, s0, c272, mx1, mx2, k1, ↓B18_16, ↓B18_19, s1, ↓B18_32, k2, ↓B18_36, ↓L_obj (cls_dyn (show 114 ≤ a by omega) h2), k12]
  · rw [← ha, hU]
    refine ⟨by omega, h2, ⟨?_, ?_⟩, ⟨?_, ?_⟩, ⟨?_, ?_⟩, fun i q1 q2 => ?_, fun i q1 q2 => ?_⟩
    · show gH T2 (a + 1) = _
      rw [(c2.2.2.2.2.1 (a + 1) (by omega)).2.2, ← n0]; exact c1.2.2.1
    · show gH T2 (a + 2) = _
      rw [← n1]; exact c2.2.2.1
    · rw [gQ_sI, gQ_sI, gQ_sQ, if_neg (by omega), gQ_sQ, if_pos ⟨rfl, rfl⟩]
    · rw [gQ_sI, gQ_sI, gQ_sQ, if_pos ⟨rfl, rfl⟩]
    · rw [gI_sI, if_neg (by omega), gI_sI, if_pos ⟨rfl, rfl⟩, i32_id (by omega) (by omega)]
    · rw [gI_sI, if_pos ⟨rfl, rfl⟩, i32_id (by omega) (by omega)]
    · (repeat (first | rw [gI_sI, if_neg (by omega)] | rw [gI_sF, if_neg (by omega)] | rw [gI_sJ] | rw [gI_sG] | rw [gI_sQ]))
      rw [(c2.2.2.2.2.1 (a + 1) (by omega)).1, ← n0, c1.2.2.2.1 i q1 q2, (o0 54 (by omega)).1]
    · (repeat (first | rw [gI_sI, if_neg (by omega)] | rw [gI_sF, if_neg (by omega)] | rw [gI_sJ] | rw [gI_sG] | rw [gI_sQ]))
      rw [← n1, c2.2.2.2.1 i q1 (by omega), (c1.2.2.2.2.1 55 (by omega)).1, (o0 55 (by omega)).1]
  · rw [hU]; show gN T2 = _; rw [n2, ha]
  · rw [hU]; show gW T2 ≤ _; rw [c2.2.1, c1.2.1, e0, gW_sN]; omega
  · rw [hU]; (repeat (first | rw [gI_sI, if_neg (by omega)] | rw [gI_sF, if_neg (by omega)] | rw [gI_sJ] | rw [gI_sG] | rw [gI_sQ])); exact (old b (by omega)).1 i
  · rw [hU, gQ_sI, gQ_sI, gQ_sQ, if_neg (by omega), gQ_sQ, if_neg (by omega)]; exact (old b (by omega)).2.1 i
  · rw [hU]; show gH T2 b = _; exact (old b (by omega)).2.2
  · rw [hU]; show gJ T2 b i = _; rw [c2.2.2.2.2.2, c1.2.2.2.2.2, e0]; rfl
  · rw [hU]; show gH T2 b = _
    rw [(c2.2.2.2.2.1 b (by omega)).2.2, (c1.2.2.2.2.1 b (by omega)).2.2, (o0 b (by omega)).2.2]
  · rw [hU]; (repeat (first | rw [gI_sI, if_neg (by omega)] | rw [gI_sF, if_neg (by omega)] | rw [gI_sJ] | rw [gI_sG] | rw [gI_sQ])); exact (old b (by omega)).1 i
