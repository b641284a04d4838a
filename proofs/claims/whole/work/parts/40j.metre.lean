/-! the class's metre is made -/
/-- a new row of numbers -/
def NewA (S S' : zS) (m : Nat) (f : Int → Int) : Prop := gN S' = gN S + 1 ∧ gW S' = gW S + m ∧ gH S' (gN S) = some (.inr (0, m)) ∧ (∀ i : Int, 0 ≤ i → i < m → gI S' (gN S) i = f i) ∧ (∀ b, b ≠ gN S → (∀ i, gI S' b i = gI S b i) ∧ (∀ i, gQ S' b i = gQ S b i) ∧ gH S' b = gH S b) ∧ (∀ b i, gJ S' b i = gJ S b i)
theorem le100k {m : Nat} (h : m < 1000) : 0 ≤ Int32.ofInt (m : Int) ∧ Int32.ofInt (m : Int) ≤ 100000 := by
  rw [Int32.le_iff_toInt_le, Int32.le_iff_toInt_le, i32_to, i32_id (by omega) (by omega)]
  have e1 : (0 : Int32).toInt = 0 := by decide
  have e2 : (100000 : Int32).toInt = 100000 := by decide
  rw [e1, e2]
  omega
theorem x276a {X : zX} {d : Nat} {S : zS} {c m : Nat} (hN : 114 ≤ gN S) (h4 : 4 ≤ c) (hc : zdes S c = some (.inr (0, m))) : z_ev X d (z_entry 276 [.ref c, .int (Int32.ofInt m)] (mk S)) = some (some (.ref (gN S)), mk (sA (sN S (.inr (0, m)) m) (gN S) (fun i => gI S c i))) := by
  show z_ev X d (276, 0, [some (.ref c), some (.int (Int32.ofInt m)), none], [], mk S) = _
  rw [B276_0, L_len h4 (show 0 < 6 by decide) hc, if_pos rfl, B276_6, L_cln hN hc, show (mk S).1 = gN S from rfl, L_ar0 (n := m) (zdes_arr hN (show gH (sA (sN S (.inr (0, m)) m) (gN S) (fun i => gI S c i)) (gN S) = _ by rw [gH_sA, gH_sN, if_pos rfl]))]
theorem x276b {X : zX} {d : Nat} (hd : 0 < d) {S : zS} {c N m : Nat} (hN : 114 ≤ gN S) (h4 : 4 ≤ c) (hc : zdes S c = some (.inr (0, N))) (hcN : c < gN S) (hN2 : N < 1000) (hm : m < N) : z_ev X d (z_entry 276 [.ref c, .int (Int32.ofInt m)] (mk S)) = some (some (.ref (gN S)), mk (sF (sN S (.inr (0, m)) m) (gN S) 0 (0 + m) (fun i => gI (sN S (.inr (0, m)) m) c (0 + (i - 0))))) := by
  have hcl : zdes (sN S (.inr (0, m)) m) c = some (.inr (0, N)) := by rw [zdes_sN_ne hN (by omega)]; exact hc
  have hnw : zdes (sN S (.inr (0, m)) m) (gN S) = some (.inr (0, m)) := zdes_sN_eq hN
  have hmin : min (N : Int) (m : Int) = m := by omega
  have hne : ¬ (Int32.ofInt (m : Int) = Int32.ofInt (N : Int)) := by
    intro w
    have := congrArg Int32.toInt w
    rw [i32_to, i32_to, i32_id (by omega) (by omega), i32_id (by omega) (by omega)] at this
    omega
  show z_ev X d (276, 0, [some (.ref c), some (.int (Int32.ofInt m)), none], [], mk S) = _
  rw [B276_0, L_len h4 (show 0 < 6 by decide) hc, if_neg hne, B276_14, if_pos (le100k (by omega)), i_nat, i32_id (by omega) (by omega), Int.toNat_natCast, L_newA hN, L_len h4 (show 0 < 6 by decide) hcl, c273 hd _ _ (by omega) (by omega), hmin, B276_28, show (mk S).1 = gN S from rfl, show (0 : Int32) = Int32.ofInt 0 from rfl, L_cpy hcl hnw (by omega) (by omega) (by omega) (by omega) (by omega) (by omega) (by omega)]
theorem x276 {X : zX} {d : Nat} (hd : 0 < d) {S : zS} {c N m : Nat} (hN : 114 ≤ gN S) (h4 : 4 ≤ c) (hc : zdes S c = some (.inr (0, N))) (hcN : c < gN S) (hN2 : N < 1000) (hm : m ≤ N) : ∃ S' : zS, z_ev X d (z_entry 276 [.ref c, .int (Int32.ofInt m)] (mk S)) = some (some (.ref (gN S)), mk S') ∧ NewA S S' m (gI S c) := by
  by_cases q : m = N
  · subst q
    refine ⟨_, x276a hN h4 hc, gN_sN, gW_sN, ?_, fun i q1 q2 => ?_, fun b hb => ⟨fun i => ?_, fun i => ?_, ?_⟩, fun b i => rfl⟩
    · rw [gH_sA, gH_sN, if_pos rfl]
    · rw [gI_sA, if_pos rfl, i32_gI]
    · rw [gI_sA, if_neg hb, gI_sN, if_neg hb]
    · rw [gQ_sA, gQ_sN, if_neg hb]
    · rw [gH_sA, gH_sN, if_neg hb]
  · refine ⟨_, x276b hd hN h4 hc hcN hN2 (by omega), gN_sN, gW_sN, ?_, fun i q1 q2 => ?_, fun b hb => ⟨fun i => ?_, fun i => ?_, ?_⟩, fun b i => rfl⟩
    · rw [gH_sF, gH_sN, if_pos rfl]
    · rw [gI_sF, if_pos (by omega), i32_gI, gI_sN, if_neg (by omega)]; congr 1; omega
    · rw [gI_sF, if_neg (by omega), gI_sN, if_neg hb]
    · rw [gQ_sF, gQ_sN, if_neg hb]
    · rw [gH_sF, gH_sN, if_neg hb]
theorem met_dyn {S : zS} {a : Nat} (h1 : 114 ≤ a) (h2 : gH S a = some (.inl 3)) : zdes S a = some (.inl (3, [2, 2, 2, 0, 0, 0])) := by
  rw [zdes_dyn h1, h2]; rfl
theorem e27 {X : zX} {d : Nat} {S : zS} {a r1 r2 r3 : Nat} {s lo hi : Int} (h1 : 114 ≤ a) (h2 : gH S a = some (.inl 3)) : z_ev X d (z_entry 27 [.ref a, .ref r1, .ref r2, .ref r3, .int (Int32.ofInt s), .int (Int32.ofInt lo), .int (Int32.ofInt hi)] (mk S)) = some (none, mk (sI (sI (sI (sQ (sQ (sQ S a 0 (some r1)) a 1 (some r2)) a 2 (some r3)) a 3 s) a 4 lo) a 5 hi)) := by
  show z_ev X d (27, 0, [some (.ref a), some (.ref r1), some (.ref r2), some (.ref r3), some (.int (Int32.ofInt s)), some (.int (Int32.ofInt lo)), some (.int (Int32.ofInt hi))], [], mk S) = _
  rw [B27_0]
  rw [L_setQ (met_dyn h1 h2) rfl, L_setQ (S := sQ S a _ _) (met_dyn h1 h2) rfl, L_setQ (S := sQ (sQ S a _ _) a _ _) (met_dyn h1 h2) rfl]
  rw [G_setI (S := sQ (sQ (sQ S a _ _) a _ _) a _ _) (met_dyn h1 h2) rfl, G_setI (S := sI (sQ (sQ (sQ S a _ _) a _ _) a _ _) a _ _) (met_dyn h1 h2) rfl, G_setI (S := sI (sI (sQ (sQ (sQ S a _ _) a _ _) a _ _) a _ _) a _ _) (met_dyn h1 h2) rfl]
  simp only [i32_to, sI_i32]
  rfl
/-- a metre of the class -/
def MetC (S : zS) (a : Nat) (x : T3) : Prop := 114 ≤ a ∧ gH S a = some (.inl 3) ∧ ∃ (m : Nat) (F : Nat → Lg), (1 ≤ m ∧ m ≤ 400) ∧ (gH S (a + 1) = some (.inr (0, m)) ∧ gH S (a + 2) = some (.inr (0, m)) ∧ gH S (a + 3) = some (.inr (0, m))) ∧ (gQ S a 0 = some (a + 1) ∧ gQ S a 1 = some (a + 2) ∧ gQ S a 2 = some (a + 3)) ∧ Gr (gI S (a + 1)) (gI S (a + 2)) (gI S (a + 3)) m F ∧ F (m - 1) = x.1 ∧ gI S a 3 = x.2.1 ∧ LMin x.1 (gI S a 4) ∧ LMax x.1 (gI S a 5)
/-- scratch of the class's reading -/
def FrCl (S S' : zS) : Prop := Dyn S S' ∧ (∀ a i, ¬ (37 ≤ a ∧ a ≤ 51) → gI S' a i = gI S a i) ∧ (∀ a i, gJ S' a i = gJ S a i) ∧ (∀ a i, gQ S' a i = gQ S a i)
theorem FrR.cl {S S' : zS} (h : FrR S S') : FrCl S S' := ⟨h.1, fun a i q => h.2.1 a i (by omega) (by omega), h.2.2.1, h.2.2.2⟩
theorem FrW.cl {S S' : zS} (h : FrW S S') : FrCl S S' := ⟨h.1, fun a i q => h.2.1 a i (by omega) (by omega), h.2.2.1, h.2.2.2⟩
theorem FrCl.tr {A B C : zS} (h1 : FrCl A B) (h2 : FrCl B C) : FrCl A C := ⟨h1.1.tr h2.1, fun a i q1 => (h2.2.1 a i q1).trans (h1.2.1 a i q1), fun a i => (h2.2.2.1 a i).trans (h1.2.2.1 a i), fun a i => (h2.2.2.2 a i).trans (h1.2.2.2 a i)⟩
theorem FrCl.I {S : zS} {a : Nat} {i x : Int} (h : 37 ≤ a ∧ a ≤ 51) : FrCl S (sI S a i x) := ⟨Dyn.sI (by omega) Dyn.rf, fun b j q => by rw [gI_sI, if_neg (by omega)], fun _ _ => rfl, fun _ _ => rfl⟩
/-- .. with k new cells, w more places -/
def FrCN (S S' : zS) (k w : Nat) : Prop := gN S' = gN S + k ∧ gW S' ≤ gW S + w ∧ (∀ b, b < gN S → ¬ (37 ≤ b ∧ b ≤ 51) → ∀ i, gI S' b i = gI S b i) ∧ (∀ b, b < gN S → (∀ i, gQ S' b i = gQ S b i) ∧ (114 ≤ b → gH S' b = gH S b)) ∧ (∀ b i, gJ S' b i = gJ S b i) ∧ (∀ b, gN S + k ≤ b → gH S' b = gH S b)
theorem x29c {X : zX} {d : Nat} (hd : 60 ≤ d) {S : zS} {m : Nat} {F : Nat → Lg} {x : T3} {st : Int} (hN : 114 ≤ gN S) (hG : G S m F) (hx : F (m - 1) = x.1) (hs : st = x.2.1) (hs2 : x.2.1 ≤ 200) : ∃ S' : zS, z_ev X d (29, 59, [some (.ref 41), some (.ref 37), some (.int (Int32.ofInt st)), none], [.int (Int32.ofInt ((m : Int) - 1))], mk S) = some (some (.ref (gN S)), mk S') ∧ MetC S' (gN S) x ∧ FrCN S S' 4 1206 ∧ (∀ b, b < gN S → ∀ i, gI S' b i = gI S b i) := by
  obtain ⟨g1, g2, g3, g4, g5⟩ := hG
  obtain ⟨l1', l2', l3', l4', l5', l6'⟩ := g5 (m - 1) (by omega)
  have em : ((m - 1 : Nat) : Int) = (m : Int) - 1 := by omega
  rw [em, hx] at l1' l2'
  rw [em] at l3' l4' l5' l6'
  obtain ⟨a, ha⟩ : ∃ a, a = gN S := ⟨_, rfl⟩
  -- the object
  obtain ⟨T0, e0⟩ : ∃ T, T = sN S (.inl 3) 6 := ⟨_, rfl⟩
  have n0 : gN T0 = a + 1 := by rw [e0, gN_sN, ha]
  have o0 : ∀ b, b ≠ a → (∀ i, gI T0 b i = gI S b i) ∧ (∀ i, gQ T0 b i = gQ S b i) ∧ gH T0 b = gH S b := fun b hb => ⟨fun i => by rw [e0, gI_sN, if_neg (by omega)], fun i => by rw [e0, gQ_sN, if_neg (by omega)], by rw [e0, gH_sN, if_neg (by omega)]⟩
  have h0 : gH T0 a = some (.inl 3) := by rw [e0, gH_sN, if_pos ha]
  have zc : ∀ (T : zS) (c : Nat), 47 ≤ c ∧ c ≤ 51 → zdes T c = some (.inr (0, 400)) := fun T c hc => zar400 hc
  obtain ⟨T1, b1, c1⟩ := x276 (X := X) (d := d - 1) (by omega) (S := T0) (c := 47) (N := 400) (m := m) (by omega) (by omega) (zc _ _ (by omega)) (by omega) (by omega) (by omega)
  have n1 : gN T1 = a + 2 := by rw [c1.1, n0]
  obtain ⟨T2, b2, c2⟩ := x276 (X := X) (d := d - 1) (by omega) (S := T1) (c := 48) (N := 400) (m := m) (by omega) (by omega) (zc _ _ (by omega)) (by omega) (by omega) (by omega)
  have n2 : gN T2 = a + 3 := by rw [c2.1, n1]
  obtain ⟨T3', b3, c3⟩ := x276 (X := X) (d := d - 1) (by omega) (S := T2) (c := 49) (N := 400) (m := m) (by omega) (by omega) (zc _ _ (by omega)) (by omega) (by omega) (by omega)
  have n3 : gN T3' = a + 4 := by rw [c3.1, n2]
  rw [n0] at b1
  rw [n1] at b2
  rw [n2] at b3
  have h3 : gH T3' a = some (.inl 3) := by rw [(c3.2.2.2.2.1 a (by omega)).2.2, (c2.2.2.2.2.1 a (by omega)).2.2, (c1.2.2.2.2.1 a (by omega)).2.2]; exact h0
  -- what lay there before
  have old : ∀ b, b < a → (∀ i, gI T3' b i = gI S b i) ∧ (∀ i, gQ T3' b i = gQ S b i) ∧ gH T3' b = gH S b := fun b hb => by
    obtain ⟨p1, p2, p3⟩ := c3.2.2.2.2.1 b (by omega)
    obtain ⟨q1, q2, q3⟩ := c2.2.2.2.2.1 b (by omega)
    obtain ⟨r1, r2, r3⟩ := c1.2.2.2.2.1 b (by omega)
    obtain ⟨s1, s2, s3⟩ := o0 b (by omega)
    exact ⟨fun i => by rw [p1, q1, r1, s1], fun i => by rw [p2, q2, r2, s2], by rw [p3, q3, r3, s3]⟩
  have k1 : ∀ {cm cp : Nat} {L : zL} {s : List Value}, z_evc X d 276 [.ref 47, .int (Int32.ofInt m)] (cm, cp, L, s, mk T0) = z_ev X d (cm, cp, L, .ref (a + 1) :: s, mk T1) := fun {cm cp L s} => z_evc_of (r := (some (.ref (a + 1)), mk T1)) (ck := (cm, cp, L, s, mk T0)) (show d - 1 < d by omega) b1
  have k2 : ∀ {cm cp : Nat} {L : zL} {s : List Value}, z_evc X d 276 [.ref 48, .int (Int32.ofInt m)] (cm, cp, L, s, mk T1) = z_ev X d (cm, cp, L, .ref (a + 2) :: s, mk T2) := fun {cm cp L s} => z_evc_of (r := (some (.ref (a + 2)), mk T2)) (ck := (cm, cp, L, s, mk T1)) (show d - 1 < d by omega) b2
  have k3 : ∀ {cm cp : Nat} {L : zL} {s : List Value}, z_evc X d 276 [.ref 49, .int (Int32.ofInt m)] (cm, cp, L, s, mk T2) = z_ev X d (cm, cp, L, .ref (a + 3) :: s, mk T3') := fun {cm cp L s} => z_evc_of (r := (some (.ref (a + 3)), mk T3')) (ck := (cm, cp, L, s, mk T2)) (show d - 1 < d by omega) b3
  have s0 : gI T0 41 10 = m := by rw [(o0 41 (by omega)).1]; exact g1
  have s1 : gI T1 41 10 = m := by rw [(c1.2.2.2.2.1 41 (by omega)).1]; exact s0
  have s2 : gI T2 41 10 = m := by rw [(c2.2.2.2.2.1 41 (by omega)).1]; exact s1
  have v50 : gI T3' 50 ((m : Int) - 1) = gI S 50 ((m : Int) - 1) := (old 50 (by omega)).1 _
  have v51 : gI T3' 51 ((m : Int) - 1) = gI S 51 ((m : Int) - 1) := (old 51 (by omega)).1 _
  have k27 : ∀ {cm cp : Nat} {L : zL} {s : List Value}, z_evc X d 27 [.ref a, .ref (a + 1), .ref (a + 2), .ref (a + 3), .int (Int32.ofInt st), .int (Int32.ofInt (gI S 50 ((m : Int) - 1))), .int (Int32.ofInt (gI S 51 ((m : Int) - 1)))] (cm, cp, L, s, mk T3') = z_ev X d (cm, cp, L, s, mk (sI (sI (sI (sQ (sQ (sQ T3' a 0 (some (a + 1))) a 1 (some (a + 2))) a 2 (some (a + 3))) a 3 st) a 4 (gI S 50 ((m : Int) - 1))) a 5 (gI S 51 ((m : Int) - 1)))) := fun {cm cp L s} => z_evc_of (r := (none, mk (sI (sI (sI (sQ (sQ (sQ T3' a 0 (some (a + 1))) a 1 (some (a + 2))) a 2 (some (a + 3))) a 3 st) a 4 (gI S 50 ((m : Int) - 1))) a 5 (gI S 51 ((m : Int) - 1))))) (ck := (cm, cp, L, s, mk T3')) (show 0 < d by omega) (e27 (X := X) (d := 0) (by omega) h3)
  refine ⟨sI (sI (sI (sQ (sQ (sQ T3' a 0 (some (a + 1))) a 1 (some (a + 2))) a 2 (some (a + 3))) a 3 st) a 4 (gI S 50 ((m : Int) - 1))) a 5 (gI S 51 ((m : Int) - 1)), ?_, ?_, ⟨?_, ?_, fun b hb _ i => ?_, fun b hb => ⟨fun i => ?_, fun _ => ?_⟩, fun b i => ?_, fun b hb => ?_⟩, fun b hb i => ?_⟩
  · have hst : 0 ≤ st ∧ st ≤ 200 := by omega
    rw [← ha]
    simp (disch := first | omega | assumption | exact b01_rng _ | exact st_5 | exact st_12 | exact st_19 | (simp only [isSt_sI, isSt_sJ, isSt_sF, isSt_sG, isSt_sA]; assumption)) only [↓B29_59, ↓B29_70, ↓a_47, ↓a_48, ↓a_49, ↓a_50, ↓a_51, ↓n_47, ↓n_48, ↓n_49, ↓n_50, ↓n_51, ↓o_37, ↓o_41, ↓r_37_5, ↓r_41_10, ↓r_41_5, ↓r_41_6, ↓r_41_7, ↓r_41_8, ↓r_41_9, ↓s_47, ↓s_48, ↓s_49, ↓s_50, ↓s_51, ↓w_41_10, i_lit, i_add, i_sub, i_mul, i_neg, i_lt, i_le, i_eq, i32_gI, i64_gJ, i32_id, i32_to, i64_to, sI_i32, sJ_i64, b01_t, b01_f, i32_b01, b01_0, ↓a_s0, ↓n_s0, ↓a_s1, ↓n_s1, Int.add_zero, t_lt, f_lt, t_le, f_le, t_eq, f_eq, true_and, and_true, false_and, and_false, and_self, ↓reduceIte, z_bool_of, or_true, true_or, or_false, false_or, Int.neg_neg, not_true_eq_false, not_false_eq_true, lg_lt, lg_le, lg_gt, lg_ge, lg_eq, j_lit, j_add, j_sub, j_mul, j_neg, j_eq, i64_id, ij, ji, z_rt, Nat.reduceEqDiff, Nat.reduceAdd, Int.reduceAdd, Int.reduceSub, Int.reduceMul, Int.reduceNeg, Int.reduceLT, Int.reduceLE, Int.reduceEq, g1]
    rw [B29_76, L_newO (n := 6) hN (by omega), ← e0, show (mk S).1 = a from ha.symm]
    simp (disch := first | omega | assumption | exact b01_rng _ | exact st_5 | exact st_12 | exact st_19 | (simp only [isSt_sI, isSt_sJ, isSt_sF, isSt_sG, isSt_sA]; assumption)) only [↓a_47, ↓a_48, ↓a_49, ↓a_50, ↓a_51, ↓n_47, ↓n_48, ↓n_49, ↓n_50, ↓n_51, ↓o_37, ↓o_41, ↓r_37_5, ↓r_41_10, ↓r_41_5, ↓r_41_6, ↓r_41_7, ↓r_41_8, ↓r_41_9, ↓s_47, ↓s_48, ↓s_49, ↓s_50, ↓s_51, ↓w_41_10, i_lit, i_add, i_sub, i_mul, i_neg, i_lt, i_le, i_eq, i32_gI, i64_gJ, i32_id, i32_to, i64_to, sI_i32, sJ_i64, b01_t, b01_f, i32_b01, b01_0, ↓a_s0, ↓n_s0, ↓a_s1, ↓n_s1, Int.add_zero, t_lt, f_lt, t_le, f_le, t_eq, f_eq, true_and, and_true, false_and, and_false, and_self, ↓reduceIte, z_bool_of, or_true, true_or, or_false, false_or, Int.neg_neg, not_true_eq_false, not_false_eq_true, lg_lt, lg_le, lg_gt, lg_ge, lg_eq, j_lit, j_add, j_sub, j_mul, j_neg, j_eq, i64_id, ij, ji, z_rt, Nat.reduceEqDiff, Nat.reduceAdd, Int.reduceAdd, Int.reduceSub, Int.reduceMul, Int.reduceNeg, Int.reduceLT, Int.reduceLE, Int.reduceEq, s0, k1, ↓B29_91, s1, k2, ↓B29_102, s2, k3, ↓B29_113, v50, v51, ↓L_obj (met_dyn (show 114 ≤ a by omega) h3), k27, ↓B29_129]
  · rw [← ha]
    refine ⟨by omega, h3, m, F, ⟨g2, g3⟩, ⟨?_, ?_, ?_⟩, ⟨?_, ?_, ?_⟩, ?_, hx, ?_, ?_, ?_⟩
    · show gH T3' (a + 1) = _
      rw [(c3.2.2.2.2.1 (a + 1) (by omega)).2.2, (c2.2.2.2.2.1 (a + 1) (by omega)).2.2, ← n0]; exact c1.2.2.1
    · show gH T3' (a + 2) = _
      rw [(c3.2.2.2.2.1 (a + 2) (by omega)).2.2, ← n1]; exact c2.2.2.1
    · show gH T3' (a + 3) = _
      rw [← n2]; exact c3.2.2.1
    · rw [gQ_sI, gQ_sI, gQ_sI, gQ_sQ, if_neg (by omega), gQ_sQ, if_neg (by omega), gQ_sQ, if_pos ⟨rfl, rfl⟩]
    · rw [gQ_sI, gQ_sI, gQ_sI, gQ_sQ, if_neg (by omega), gQ_sQ, if_pos ⟨rfl, rfl⟩]
    · rw [gQ_sI, gQ_sI, gQ_sI, gQ_sQ, if_pos ⟨rfl, rfl⟩]
    · refine g4.fr (fun j hj => ?_) (fun j hj => ?_) (fun j hj => ?_) (fun _ _ => rfl)
      · (repeat (first | rw [gI_sI, if_neg (by omega)] | rw [gI_sF, if_neg (by omega)] | rw [gI_sJ] | rw [gI_sG] | rw [gI_sQ]))
        rw [(c3.2.2.2.2.1 (a + 1) (by omega)).1, (c2.2.2.2.2.1 (a + 1) (by omega)).1, ← n0, c1.2.2.2.1 j (by omega) (by omega), (o0 47 (by omega)).1]
      · (repeat (first | rw [gI_sI, if_neg (by omega)] | rw [gI_sF, if_neg (by omega)] | rw [gI_sJ] | rw [gI_sG] | rw [gI_sQ]))
        rw [(c3.2.2.2.2.1 (a + 2) (by omega)).1, ← n1, c2.2.2.2.1 j (by omega) (by omega), (c1.2.2.2.2.1 48 (by omega)).1, (o0 48 (by omega)).1]
      · (repeat (first | rw [gI_sI, if_neg (by omega)] | rw [gI_sF, if_neg (by omega)] | rw [gI_sJ] | rw [gI_sG] | rw [gI_sQ]))
        rw [← n2, c3.2.2.2.1 j (by omega) (by omega), (c2.2.2.2.2.1 49 (by omega)).1, (c1.2.2.2.2.1 49 (by omega)).1, (o0 49 (by omega)).1]
    · simp (disch := first | omega | assumption | exact b01_rng _ | exact st_5 | exact st_12 | exact st_19 | (simp only [isSt_sI, isSt_sJ, isSt_sF, isSt_sG, isSt_sA]; assumption)) only [gI_sI, i_lit, i_add, i_sub, i_mul, i_neg, i_lt, i_le, i_eq, i32_gI, i64_gJ, i32_id, i32_to, i64_to, sI_i32, sJ_i64, b01_t, b01_f, i32_b01, b01_0, ↓a_s0, ↓n_s0, ↓a_s1, ↓n_s1, Int.add_zero, t_lt, f_lt, t_le, f_le, t_eq, f_eq, true_and, and_true, false_and, and_false, and_self, ↓reduceIte, z_bool_of, or_true, true_or, or_false, false_or, Int.neg_neg, not_true_eq_false, not_false_eq_true, lg_lt, lg_le, lg_gt, lg_ge, lg_eq, j_lit, j_add, j_sub, j_mul, j_neg, j_eq, i64_id, ij, ji, z_rt, Nat.reduceEqDiff, Nat.reduceAdd, Int.reduceAdd, Int.reduceSub, Int.reduceMul, Int.reduceNeg, Int.reduceLT, Int.reduceLE, Int.reduceEq, hs]
    · rw [gI_sI, if_neg (by omega), gI_sI, if_pos ⟨rfl, rfl⟩, i32_gI]; exact l1'
    · rw [gI_sI, if_pos ⟨rfl, rfl⟩, i32_gI]; exact l2'
  · show gN T3' = _; rw [n3, ha]
  · show gW T3' ≤ _; rw [c3.2.1, c2.2.1, c1.2.1, e0, gW_sN]; omega
  · (repeat (first | rw [gI_sI, if_neg (by omega)] | rw [gI_sF, if_neg (by omega)] | rw [gI_sJ] | rw [gI_sG] | rw [gI_sQ])); exact (old b (by omega)).1 i
  · rw [gQ_sI, gQ_sI, gQ_sI, gQ_sQ, if_neg (by omega), gQ_sQ, if_neg (by omega), gQ_sQ, if_neg (by omega)]; exact (old b (by omega)).2.1 i
  · show gH T3' b = _; exact (old b (by omega)).2.2
  · show gJ T3' b i = _; rw [c3.2.2.2.2.2, c2.2.2.2.2.2, c1.2.2.2.2.2, e0]; rfl
  · show gH T3' b = _
    rw [(c3.2.2.2.2.1 b (by omega)).2.2, (c2.2.2.2.2.1 b (by omega)).2.2, (c1.2.2.2.2.1 b (by omega)).2.2, (o0 b (by omega)).2.2]
  · (repeat (first | rw [gI_sI, if_neg (by omega)] | rw [gI_sF, if_neg (by omega)] | rw [gI_sJ] | rw [gI_sG] | rw [gI_sQ])); exact (old b (by omega)).1 i
