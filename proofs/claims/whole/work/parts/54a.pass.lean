/-! days: how many metres take the line; pass in pairs -/
def pcN (v : Int) : Nat → Int
  | 0 => 0
  | k + 1 => pcN v k + bit1 v k
theorem bit1_01 (v : Int) {s : Nat} (hs : s < 32) : bit1 v s = 0 ∨ bit1 v s = 1 := by
  rw [bit1_bt v hs]; split
  · exact Or.inr rfl
  · exact Or.inl rfl
theorem pcN_b (v : Int) : ∀ k : Nat, k ≤ 6 → 0 ≤ pcN v k ∧ pcN v k ≤ k := by
  intro k
  induction k with
  | zero => intro _; exact ⟨Int.le_refl _, Int.le_refl _⟩
  | succ k ih =>
    intro h
    have := ih (by omega)
    have := bit1_01 v (s := k) (by omega)
    unfold pcN
    omega
theorem e275 {X : zX} {d : Nat} (hd : 0 ≤ d) {S : zS} (k : Fin 64) : z_ev X d (z_entry 275 [.int (Int32.ofInt (k.val : Int))] (mk S)) = some (some (.int (Int32.ofInt (pcN (k.val : Int) 6))), mk S) := by
  show z_ev X d (275, 0, [some (.int (Int32.ofInt (k.val : Int)))], [], mk S) = _
  show z_ev X d (275, 0, [some (.int (Int32.ofInt (k.val : Int)))], [], mk S) = _
  rw [B275_0]
  refine congrArg (fun z => some (some (Value.int z), mk S)) ?_
  revert k
  decide +kernel
theorem c275 {X : zX} {d : Nat} (hd : 0 < d) {S : zS} (k : Fin 64) {cm cp : Nat} {L : zL} {st : List Value} : z_evc X d 275 [.int (Int32.ofInt (k.val : Int))] (cm, cp, L, st, mk S) = z_ev X d (cm, cp, L, .int (Int32.ofInt (pcN (k.val : Int) 6)) :: st, mk S) := z_evc_of (r := (some (.int (Int32.ofInt (pcN (k.val : Int) 6))), mk S)) (ck := (cm, cp, L, st, mk S)) hd (e275 (X := X) (Nat.le_refl _) k)
section
variable {X : zX} {d : Nat}
theorem l241 {S : zS} {v : Int} : ∀ (c k : Nat), k + c = 6 → z_ev X d (241, 4, [some (.ref 72), some (.int (Int32.ofInt v)), some (.int (Int32.ofInt (pcN v k))), some (.int (Int32.ofInt (k : Int)))], [], mk S) = some (vI (pcN v 6), mk S) := by
  intro c
  induction c with
  | zero =>
    intro k hc
    have : k = 6 := by omega
    subst this
    rw [show (((6 : Nat) : Int)) = 6 from rfl, B241_4]
    simp (disch := first | omega | assumption | exact b01_rng _ | exact st_5 | exact st_12 | exact st_19 | (simp only [isSt_sI, isSt_sJ, isSt_sF, isSt_sG, isSt_sA]; assumption)) only [↓B241_24, i_lit, i_add, i_sub, i_mul, i_neg, i_lt, i_le, i_eq, i32_gI, i64_gJ, i32_id, i32_to, i64_to, sI_i32, sJ_i64, b01_t, b01_f, i32_b01, b01_0, ↓a_s0, ↓n_s0, ↓a_s1, ↓n_s1, Int.add_zero, t_lt, f_lt, t_le, f_le, t_eq, f_eq, true_and, and_true, false_and, and_false, and_self, ↓reduceIte, z_bool_of, or_true, true_or, or_false, false_or, Int.neg_neg, not_true_eq_false, not_false_eq_true, lg_lt, lg_le, lg_gt, lg_ge, lg_eq, j_lit, j_add, j_sub, j_mul, j_neg, j_eq, i64_id, ij, ji, z_rt, Nat.reduceEqDiff, Nat.reduceAdd, Int.reduceAdd, Int.reduceSub, Int.reduceMul, Int.reduceNeg, Int.reduceLT, Int.reduceLE, Int.reduceEq]
  | succ c ih =>
    intro k hc
    have e := ih (k + 1) (by omega)
    rw [show ((k + 1 : Nat) : Int) = (k : Int) + 1 by omega, show pcN v (k + 1) = pcN v k + bit1 v k from rfl] at e
    rw [← e, B241_4]
    simp (disch := first | omega | assumption | exact b01_rng _ | exact st_5 | exact st_12 | exact st_19 | (simp only [isSt_sI, isSt_sJ, isSt_sF, isSt_sG, isSt_sA]; assumption)) only [↓B241_10, bit1_of, i_lit, i_add, i_sub, i_mul, i_neg, i_lt, i_le, i_eq, i32_gI, i64_gJ, i32_id, i32_to, i64_to, sI_i32, sJ_i64, b01_t, b01_f, i32_b01, b01_0, ↓a_s0, ↓n_s0, ↓a_s1, ↓n_s1, Int.add_zero, t_lt, f_lt, t_le, f_le, t_eq, f_eq, true_and, and_true, false_and, and_false, and_self, ↓reduceIte, z_bool_of, or_true, true_or, or_false, false_or, Int.neg_neg, not_true_eq_false, not_false_eq_true, lg_lt, lg_le, lg_gt, lg_ge, lg_eq, j_lit, j_add, j_sub, j_mul, j_neg, j_eq, i64_id, ij, ji, z_rt, Nat.reduceEqDiff, Nat.reduceAdd, Int.reduceAdd, Int.reduceSub, Int.reduceMul, Int.reduceNeg, Int.reduceLT, Int.reduceLE, Int.reduceEq]
theorem x241 {S : zS} {v : Int} : z_ev X d (z_entry 241 [.ref 72, .int (Int32.ofInt v)] (mk S)) = some (vI (pcN v 6), mk S) := by
  have e := l241 (X := X) (d := d) (S := S) (v := v) 6 0 (by omega)
  rw [← e]
  show z_ev X d (241, 0, [some (.ref 72), some (.int (Int32.ofInt v)), none, none], [], mk S) = _
  rw [show pcN v 0 = 0 from rfl, show (((0 : Nat) : Int)) = 0 from rfl]
  simp (disch := first | omega | assumption | exact b01_rng _ | exact st_5 | exact st_12 | exact st_19 | (simp only [isSt_sI, isSt_sJ, isSt_sF, isSt_sG, isSt_sA]; assumption)) only [↓B241_0, i_lit, i_add, i_sub, i_mul, i_neg, i_lt, i_le, i_eq, i32_gI, i64_gJ, i32_id, i32_to, i64_to, sI_i32, sJ_i64, b01_t, b01_f, i32_b01, b01_0, ↓a_s0, ↓n_s0, ↓a_s1, ↓n_s1, Int.add_zero, t_lt, f_lt, t_le, f_le, t_eq, f_eq, true_and, and_true, false_and, and_false, and_self, ↓reduceIte, z_bool_of, or_true, true_or, or_false, false_or, Int.neg_neg, not_true_eq_false, not_false_eq_true, lg_lt, lg_le, lg_gt, lg_ge, lg_eq, j_lit, j_add, j_sub, j_mul, j_neg, j_eq, i64_id, ij, ji, z_rt, Nat.reduceEqDiff, Nat.reduceAdd, Int.reduceAdd, Int.reduceSub, Int.reduceMul, Int.reduceNeg, Int.reduceLT, Int.reduceLE, Int.reduceEq]
/-- how many metres take the line -/
def HowM (cls : List Cl) (g : Int → Int) (c : Int) : Prop := ∃ k : Fin 64, FitR (TkE (LnH 0 cls g) g) (g 1).toNat (Int32.ofInt (k.val : Int)) ∧ c = pcN (k.val : Int) 6
theorem HowM.uniq {cls : List Cl} {g : Int → Int} {c c' : Int} (h1 : HowM cls g c) (h2 : HowM cls g c') : c = c' := by
  obtain ⟨k, a1, a2⟩ := h1
  obtain ⟨k', b1, b2⟩ := h2
  have e := a1.uniq b1
  have e2 : (k.val : Int) = (k'.val : Int) := by
    have := congrArg Int32.toInt e
    rw [i32_to, i32_to, i32_id (by omega) (by omega), i32_id (by omega) (by omega)] at this
    exact this
  rw [a2, b2, e2]
theorem HowM.b {cls : List Cl} {g : Int → Int} {c : Int} (h : HowM cls g c) : 0 ≤ c ∧ c ≤ 6 := by
  obtain ⟨k, -, rfl⟩ := h
  exact pcN_b _ 6 (by omega)
/-- the class counts -/
theorem how_c (hd : 20 < d) {s : Nat} {S : zS} {g : Int → Int} (hs : isSt S s) (hR : StRel PM QL S s g) (hX : FxC S) : ∃ (S' : zS) (k : Fin 64) (cls : List Cl), z_ev X d (z_entry 138 [.ref 4, .ref s] (mk S)) = some (some (.int (Int32.ofInt (k.val : Int))), mk S') ∧ FrQc S S' ∧ FxC S' ∧ LawR g (g 4) cls ∧ HowM cls g (pcN (k.val : Int) 6) := by
  obtain ⟨S', r, cls, w1, w2, w3, w4, w5⟩ := x138 (X := X) (d := d) hd hs hR hX
  obtain ⟨b1, b2, b3⟩ := hR.2.1
  obtain ⟨v, v1, v2⟩ := w5.sm (by omega)
  have : 2 ^ (g 1).toNat ≤ 2 ^ 6 := Nat.pow_le_pow_right (by decide) (by omega)
  have h64 : v < 64 := by omega
  subst v2
  exact ⟨S', ⟨v, h64⟩, cls, w1, w2, w3, w4, ⟨v, h64⟩, w5, rfl⟩
/-- the reference counts -/
theorem how_r (hd : 10 < d) {cls : List Cl} {S : zS} (hQ : RefQ S cls) (hM : MetsR (gI S 74)) : ∃ (S' : zS) (k : Fin 64), z_ev X d (z_entry 240 [.ref 72] (mk S)) = some (some (.int (Int32.ofInt (k.val : Int))), mk S') ∧ FrQm S S' ∧ FitR (TkE (LnH 0 cls (gI S 74)) (gI S 74)) (gI S 74 1).toNat (Int32.ofInt (k.val : Int)) ∧ HowM cls (gI S 74) (pcN (k.val : Int) 6) := by
  obtain ⟨S', r, w1, w2, w3⟩ := x240 (X := X) (d := d) hd hQ hM
  have b := hQ.2.1
  obtain ⟨v, v1, v2⟩ := w3.sm (by omega)
  have : 2 ^ (gI S 74 1).toNat ≤ 2 ^ 6 := Nat.pow_le_pow_right (by decide) (by omega)
  have h64 : v < 64 := by omega
  subst v2
  exact ⟨S', ⟨v, h64⟩, w1, w2, w3, ⟨v, h64⟩, w3, rfl⟩
/-- a day of the class -/
theorem x144 (hd : 30 < d) {S : zS} {g : Int → Int} (hR : StRel PM QL S 5 g) (hX : FxC S) (h27 : 0 ≤ gI S 27 3 ∧ gI S 27 3 ≤ 16) (h9 : g 5 < 999) : ∃ (S1 : zS) (c : Int) (cls : List Cl), z_ev X d (z_entry 144 [.ref 4] (mk S)) = some (vI c, mk (addS (sI S1 7 0 (g 5 + 1)) 3 0 0)) ∧ FrQc S S1 ∧ FxC S1 ∧ LawR g (g 4) cls ∧ HowM cls g c := by
  obtain ⟨S1, k, cls, w1, w2, w3, w4, w5⟩ := how_c (X := X) (d := 30) (by omega) st_5 hR hX
  have b6 := hR.2.2.2.2.2.1
  simp only [Nat.reduceAdd] at b6
  have hb := w5.b
  have e5 : gI S 7 0 = g 5 := b6.1
  have ev1 := fun {cm cp : Nat} {L : zL} {st : List Value} => evR (X := X) (d := d) (by omega) w1 (cm := cm) (cp := cp) (L := L) (st := st)
  have c275' := fun {cm cp : Nat} {L : zL} {st : List Value} => c275 (X := X) (d := d) (by omega) (cm := cm) (cp := cp) (L := L) (st := st) (S := S1) k
  have c70' := fun {cm cp : Nat} {L : zL} {st : List Value} => c70 (X := X) (d := d) (by omega) (cm := cm) (cp := cp) (L := L) (st := st) (S := S) (s := 5) 0 st_5 (by omega)
  simp only [Nat.reduceAdd] at c70'
  rw [e5] at c70'
  have c71' := fun {cm cp : Nat} {L : zL} {st : List Value} => c71 (X := X) (d := d) (by omega) (cm := cm) (cp := cp) (L := L) (st := st) (S := S1) (s := 5) 0 (g 5 + 1) st_5 (by omega) (by omega)
  simp only [Nat.reduceAdd] at c71'
  have c21' := fun {cm cp : Nat} {L : zL} {st : List Value} => c21 (X := X) (d := d) (by omega) (cm := cm) (cp := cp) (L := L) (st := st) (S := sI S1 7 0 (g 5 + 1)) 3 0 0 (by rw [gI_sI, if_neg (by omega), w2.2.1 27 3 (by omega)]; exact h27) (by omega) (by omega) (by omega)
  refine ⟨S1, pcN (k.val : Int) 6, cls, ?_, w2, w3, w4, w5⟩
  show z_ev X d (144, 0, [some (.ref 4), none, none], [], mk S) = _
  simp (disch := first | omega | assumption | exact b01_rng _ | exact st_5 | exact st_12 | exact st_19 | (simp only [isSt_sI, isSt_sJ, isSt_sF, isSt_sG, isSt_sA]; assumption)) only [↓B144_0, ↓B144_8, ↓B144_16, ↓B144_19, ↓B144_27, ↓B144_30, ↓B144_42, ↓B144_52, ↓o_19, ↓o_27, ↓o_31, ↓o_4, ↓o_5, ↓r_4_0, ↓r_4_4, ↓o_5, ↓o_4, ↓o_27, c70', c71', c21', c275', ev1, i_lit, i_add, i_sub, i_mul, i_neg, i_lt, i_le, i_eq, i32_gI, i64_gJ, i32_id, i32_to, i64_to, sI_i32, sJ_i64, b01_t, b01_f, i32_b01, b01_0, ↓a_s0, ↓n_s0, ↓a_s1, ↓n_s1, Int.add_zero, t_lt, f_lt, t_le, f_le, t_eq, f_eq, true_and, and_true, false_and, and_false, and_self, ↓reduceIte, z_bool_of, or_true, true_or, or_false, false_or, Int.neg_neg, not_true_eq_false, not_false_eq_true, lg_lt, lg_le, lg_gt, lg_ge, lg_eq, j_lit, j_add, j_sub, j_mul, j_neg, j_eq, i64_id, ij, ji, z_rt, Nat.reduceEqDiff, Nat.reduceAdd, Int.reduceAdd, Int.reduceSub, Int.reduceMul, Int.reduceNeg, Int.reduceLT, Int.reduceLE, Int.reduceEq]
theorem y144 (hd : 30 < d) {S : zS} {g : Int → Int} (hR : StRel PM QL S 5 g) (h9 : g 5 = 999) : z_ev X d (z_entry 144 [.ref 4] (mk S)) = some (vI (-3), mk S) := by
  have b6 := hR.2.2.2.2.2.1
  simp only [Nat.reduceAdd] at b6
  have e5 : gI S 7 0 = 999 := b6.1.trans h9
  have c70' := fun {cm cp : Nat} {L : zL} {st : List Value} => c70 (X := X) (d := d) (by omega) (cm := cm) (cp := cp) (L := L) (st := st) (S := S) (s := 5) 0 st_5 (by omega)
  simp only [Nat.reduceAdd] at c70'
  rw [e5] at c70'
  show z_ev X d (144, 0, [some (.ref 4), none, none], [], mk S) = _
  simp (disch := first | omega | assumption | exact b01_rng _ | exact st_5 | exact st_12 | exact st_19 | (simp only [isSt_sI, isSt_sJ, isSt_sF, isSt_sG, isSt_sA]; assumption)) only [↓B144_0, ↓B144_8, ↓B144_16, ↓o_19, ↓o_27, ↓o_31, ↓o_4, ↓o_5, ↓r_4_0, ↓r_4_4, ↓o_5, c70', i_lit, i_add, i_sub, i_mul, i_neg, i_lt, i_le, i_eq, i32_gI, i64_gJ, i32_id, i32_to, i64_to, sI_i32, sJ_i64, b01_t, b01_f, i32_b01, b01_0, ↓a_s0, ↓n_s0, ↓a_s1, ↓n_s1, Int.add_zero, t_lt, f_lt, t_le, f_le, t_eq, f_eq, true_and, and_true, false_and, and_false, and_self, ↓reduceIte, z_bool_of, or_true, true_or, or_false, false_or, Int.neg_neg, not_true_eq_false, not_false_eq_true, lg_lt, lg_le, lg_gt, lg_ge, lg_eq, j_lit, j_add, j_sub, j_mul, j_neg, j_eq, i64_id, ij, ji, z_rt, Nat.reduceEqDiff, Nat.reduceAdd, Int.reduceAdd, Int.reduceSub, Int.reduceMul, Int.reduceNeg, Int.reduceLT, Int.reduceLE, Int.reduceEq]
/-- a day of the reference -/
theorem x249 (hd : 30 < d) {cls : List Cl} {T : zS} (hQ : RefQ T cls) (hM : MetsR (gI T 74)) (h8 : 0 ≤ gI T 72 8 ∧ gI T 72 8 ≤ 16) (h9 : gI T 74 5 < 999) : ∃ (T1 : zS) (c : Int), z_ev X d (z_entry 249 [.ref 72] (mk T)) = some (vI c, mk (sI (remS T1 3) 74 5 (gI T 74 5 + 1))) ∧ FrQm T T1 ∧ HowM cls (gI T 74) c := by
  obtain ⟨T1, k, w1, w2, w3, w4⟩ := how_r (X := X) (d := 30) (by omega) hQ hM
  have g5 := hQ.1.2.1
  have hb := w4.b
  have ev1 := fun {cm cp : Nat} {L : zL} {st : List Value} => evR (X := X) (d := d) (by omega) w1 (cm := cm) (cp := cp) (L := L) (st := st)
  have ev2 := fun {cm cp : Nat} {L : zL} {st : List Value} => evI (X := X) (d := d) (by omega) (x241 (X := X) (d := 30) (S := T1) (v := (k.val : Int))) (cm := cm) (cp := cp) (L := L) (st := st)
  have c158' := fun {cm cp : Nat} {L : zL} {st : List Value} => c158 (X := X) (d := d) (by omega) (cm := cm) (cp := cp) (L := L) (st := st) (S := T1) 3 (by rw [w2.i (by omega)]; exact h8) (by omega)
  have e5 : gI (remS T1 3) 74 5 = gI T 74 5 := by rw [remS_74, w2.g]
  refine ⟨T1, pcN (k.val : Int) 6, ?_, w2, w4⟩
  show z_ev X d (249, 0, [some (.ref 72), none], [], mk T) = _
  simp (disch := first | omega | assumption | exact b01_rng _ | exact st_5 | exact st_12 | exact st_19 | (simp only [isSt_sI, isSt_sJ, isSt_sF, isSt_sG, isSt_sA]; assumption)) only [↓B249_0, ↓B249_12, ↓B249_15, ↓B249_20, ↓B249_23, ↓B249_29, ↓a_74, ↓n_74, ↓o_72, ↓r_72_3, ↓s_74, ↓o_72, ev1, ev2, c158', e5, i_lit, i_add, i_sub, i_mul, i_neg, i_lt, i_le, i_eq, i32_gI, i64_gJ, i32_id, i32_to, i64_to, sI_i32, sJ_i64, b01_t, b01_f, i32_b01, b01_0, ↓a_s0, ↓n_s0, ↓a_s1, ↓n_s1, Int.add_zero, t_lt, f_lt, t_le, f_le, t_eq, f_eq, true_and, and_true, false_and, and_false, and_self, ↓reduceIte, z_bool_of, or_true, true_or, or_false, false_or, Int.neg_neg, not_true_eq_false, not_false_eq_true, lg_lt, lg_le, lg_gt, lg_ge, lg_eq, j_lit, j_add, j_sub, j_mul, j_neg, j_eq, i64_id, ij, ji, z_rt, Nat.reduceEqDiff, Nat.reduceAdd, Int.reduceAdd, Int.reduceSub, Int.reduceMul, Int.reduceNeg, Int.reduceLT, Int.reduceLE, Int.reduceEq]
theorem y249 {T : zS} (h9 : gI T 74 5 = 999) : z_ev X d (z_entry 249 [.ref 72] (mk T)) = some (vI (-3), mk T) := by
  show z_ev X d (249, 0, [some (.ref 72), none], [], mk T) = _
  simp (disch := first | omega | assumption | exact b01_rng _ | exact st_5 | exact st_12 | exact st_19 | (simp only [isSt_sI, isSt_sJ, isSt_sF, isSt_sG, isSt_sA]; assumption)) only [↓B249_0, ↓B249_12, ↓a_74, ↓n_74, ↓o_72, ↓r_72_3, ↓s_74, h9, i_lit, i_add, i_sub, i_mul, i_neg, i_lt, i_le, i_eq, i32_gI, i64_gJ, i32_id, i32_to, i64_to, sI_i32, sJ_i64, b01_t, b01_f, i32_b01, b01_0, ↓a_s0, ↓n_s0, ↓a_s1, ↓n_s1, Int.add_zero, t_lt, f_lt, t_le, f_le, t_eq, f_eq, true_and, and_true, false_and, and_false, and_self, ↓reduceIte, z_bool_of, or_true, true_or, or_false, false_or, Int.neg_neg, not_true_eq_false, not_false_eq_true, lg_lt, lg_le, lg_gt, lg_ge, lg_eq, j_lit, j_add, j_sub, j_mul, j_neg, j_eq, i64_id, ij, ji, z_rt, Nat.reduceEqDiff, Nat.reduceAdd, Int.reduceAdd, Int.reduceSub, Int.reduceMul, Int.reduceNeg, Int.reduceLT, Int.reduceLE, Int.reduceEq]
/-! what questions leave alone goes through changes -/
theorem FrQm.sI {A B : zS} (h : FrQm A B) {a : Nat} {i x : Int} (ha : a < 114) : FrQm (sI A a i x) (sI B a i x) :=
  ⟨⟨fun b hb => ⟨fun j => by rw [gI_sI, if_neg (by omega), gI_sI, if_neg (by omega)]; exact (h.1.1 b hb).1 j, (h.1.1 b hb).2.1, (h.1.1 b hb).2.2⟩, h.1.2⟩, fun b j q r s => by rw [gI_sI, gI_sI, h.2.1 b j q r s], fun b j q r => h.2.2.1 b j q r, fun b j => h.2.2.2 b j⟩
theorem FrQm.rem {A B : zS} (h : FrQm A B) {k : Int} : FrQm (remS A k) (remS B k) := by
  have eJ : ∀ (S : zS) a i, gJ (remS S k) a i = gJ S a i := fun S a i => (remS_J (S := S) (k := k)).1 a i
  have eQ : ∀ (S : zS) a i, gQ (remS S k) a i = gQ S a i := fun S a i => (remS_J (S := S) (k := k)).2 a i
  have dA : Dyn A (remS A k) := Dyn.rem Dyn.rf
  have dB : Dyn B (remS B k) := Dyn.rem Dyn.rf
  refine ⟨⟨fun b hb => ⟨fun j => ?_, fun j => ?_, ?_⟩, ?_, ?_⟩, fun b j q r s => ?_, fun b j q r => ?_, fun b j => ?_⟩
  · rw [(dB.1 b hb).1, (dA.1 b hb).1]; exact (h.1.1 b hb).1 j
  · rw [(dB.1 b hb).2.1, (dA.1 b hb).2.1]; exact (h.1.1 b hb).2.1 j
  · rw [(dB.1 b hb).2.2, (dA.1 b hb).2.2]; exact (h.1.1 b hb).2.2
  · rw [dB.2.1, dA.2.1]; exact h.1.2.1
  · rw [dB.2.2, dA.2.2]; exact h.1.2.2
  · by_cases w : (b = 74 ∨ b = 77 ∨ b = 78) ∨ (b = 72 ∧ j = 8)
    · exact remS_cong (fun a i z => h.2.1 a i (by omega) (by omega) (by omega)) (h.i (by omega)) w
    · rw [remS_o (by omega), remS_o (by omega)]; exact h.2.1 b j q r s
  · rw [eJ, eJ]; exact h.2.2.1 b j q r
  · rw [eQ, eQ]; exact h.2.2.2 b j
theorem p_pass {S : zS} (hd : 200 ≤ d) (hI : Inv PM QL S) : PairAt PM QL X 113 250 [] S d := by
  have hG := good2.g
  have hH := hI.2.1.1
  obtain ⟨b1, b2, b3, b4, b5, b6, b7, b8, b9, b10⟩ := id hI.1
  simp only [Nat.reduceAdd] at b6
  by_cases q : gI S 74 5 = 999
  · have hc := fun {cm cp : Nat} {L : zL} {st : List Value} => evI (X := X) (d := d) (by omega) (y144 (X := X) (d := 40) (by omega) hI.1 q) (cm := cm) (cp := cp) (L := L) (st := st)
    have hm := fun {cm cp : Nat} {L : zL} {st : List Value} => evI (X := X) (d := d) (by omega) (y249 (X := X) (d := 40) (T := sI (cR S (-3)) 72 0 0) (by rw [gI_sI, if_neg (by omega), cR_I (by decide) (by decide)]; exact q)) (cm := cm) (cp := cp) (L := L) (st := st)
    have c136' := fun {cm cp : Nat} {L : zL} {st : List Value} => c136 (X := X) (d := d) (by omega) (cm := cm) (cp := cp) (L := L) (st := st) (S := S) (-3) (by omega) (by omega)
    have c153' := fun {cm cp : Nat} {L : zL} {st : List Value} => c153 (X := X) (d := d) (by omega) (cm := cm) (cp := cp) (L := L) (st := st) (S := sI (cR S (-3)) 72 0 0) (-3) (by omega)
    refine pair_rf hG hI (v := -3) (by omega) ?_ ?_
    · show z_ev X d (113, 0, [some (.ref 4)], [], mk S) = _
      rw [show clsS S (-3) = cR S (-3) from if_pos (by omega)] at c136'
      simp (disch := first | omega | assumption | exact b01_rng _ | exact st_5 | exact st_12 | exact st_19 | (simp only [isSt_sI, isSt_sJ, isSt_sF, isSt_sG, isSt_sA]; assumption)) only [↓B113_0, ↓B113_5, ↓B113_8, ↓o_4, ↓o_4, hc, c136', i_lit, i_add, i_sub, i_mul, i_neg, i_lt, i_le, i_eq, i32_gI, i64_gJ, i32_id, i32_to, i64_to, sI_i32, sJ_i64, b01_t, b01_f, i32_b01, b01_0, ↓a_s0, ↓n_s0, ↓a_s1, ↓n_s1, Int.add_zero, t_lt, f_lt, t_le, f_le, t_eq, f_eq, true_and, and_true, false_and, and_false, and_self, ↓reduceIte, z_bool_of, or_true, true_or, or_false, false_or, Int.neg_neg, not_true_eq_false, not_false_eq_true, lg_lt, lg_le, lg_gt, lg_ge, lg_eq, j_lit, j_add, j_sub, j_mul, j_neg, j_eq, i64_id, ij, ji, z_rt, Nat.reduceEqDiff, Nat.reduceAdd, Int.reduceAdd, Int.reduceSub, Int.reduceMul, Int.reduceNeg, Int.reduceLT, Int.reduceLE, Int.reduceEq]
    · show z_ev X d (250, 0, [some (.ref 72)], [], mk (cR S (-3))) = _
      unfold tellS
      simp (disch := first | omega | assumption | exact b01_rng _ | exact st_5 | exact st_12 | exact st_19 | (simp only [isSt_sI, isSt_sJ, isSt_sF, isSt_sG, isSt_sA]; assumption)) only [↓B250_0, ↓B250_10, ↓B250_13, ↓o_72, ↓w_72_0, ↓o_72, hm, c153', i_lit, i_add, i_sub, i_mul, i_neg, i_lt, i_le, i_eq, i32_gI, i64_gJ, i32_id, i32_to, i64_to, sI_i32, sJ_i64, b01_t, b01_f, i32_b01, b01_0, ↓a_s0, ↓n_s0, ↓a_s1, ↓n_s1, Int.add_zero, t_lt, f_lt, t_le, f_le, t_eq, f_eq, true_and, and_true, false_and, and_false, and_self, ↓reduceIte, z_bool_of, or_true, true_or, or_false, false_or, Int.neg_neg, not_true_eq_false, not_false_eq_true, lg_lt, lg_le, lg_gt, lg_ge, lg_eq, j_lit, j_add, j_sub, j_mul, j_neg, j_eq, i64_id, ij, ji, z_rt, Nat.reduceEqDiff, Nat.reduceAdd, Int.reduceAdd, Int.reduceSub, Int.reduceMul, Int.reduceNeg, Int.reduceLT, Int.reduceLE, Int.reduceEq]
  · have h9 : gI S 74 5 < 999 := by omega
    obtain ⟨S1, c, cls, w1, w2, w3, w4, w5⟩ := x144 (X := X) (d := 40) (by omega) hI.1 hI.fxc (by rw [hH.1]; exact hH.2) h9
    have hI1 := hI.qc w2 w3
    have g1 := w2.g
    have hcb := w5.b
    have hH1 := hI1.2.1.1
    obtain ⟨hL, hC, hM⟩ := (LH.of hI1).pass hG (v := gI S 74 5) (by rw [g1]) h9
    generalize hS2 : addS (sI S1 7 0 (gI S 74 5 + 1)) 3 0 0 = S2 at hL hC w1
    -- the reference's store, no question being asked
    have k1 : ∀ a i, a = 74 ∨ a = 77 ∨ a = 78 → gI (sI (sI S2 4 16 0) 72 0 0) a i = gI S1 a i := fun a i q => by rw [gI_sI, if_neg (by omega), gI_sI, if_neg (by omega), hC.2.1 a i (by omega) (by omega) (by omega)]
    have k2 : gI (sI (sI S2 4 16 0) 72 0 0) 72 8 = gI S1 72 8 := by rw [gI_sI, if_neg (by omega), gI_sI, if_neg (by omega), hC.2.1 72 8 (by omega) (by omega) (by omega)]
    have hg : gI (sI (sI S2 4 16 0) 72 0 0) 74 = gI S 74 := funext fun i => (k1 74 i (by omega)).trans (by rw [g1])
    have hF' : Inv PM QL (sI (sI (remS (sI (sI S2 4 16 0) 72 0 0) 3) 74 5 (gI S 74 5 + 1)) 72 1 0) := by
      refine hI1.turned hG hL hC hM (Dyn.sI (by decide) (Dyn.sI (by decide) (Dyn.rem (Dyn.sI (by decide) (Dyn.sI (by decide) hC.1))))) (fun a i q1 q2 => ?_) (fun a i q => ?_) ?_ (fun a i q1 q2 q3 q4 q5 => ?_) (fun i q => ?_) ⟨?_, ?_⟩ (fun a i => ?_) (fun a i => ?_)
      · rw [gI_sI, if_neg (by omega), gI_sI, if_neg (by omega), remS_o (by omega), gI_sI, if_neg (by omega), gI_sI, if_neg (by omega)]
      · rw [gI_sI, if_neg (by omega), gI_sI, gI_sI, remS_cong k1 k2 (Or.inl q)]
      · rw [gI_sI, if_neg (by omega), gI_sI, if_neg (by omega), gI_sI, if_neg (by omega), remS_cong k1 k2 (Or.inr ⟨rfl, rfl⟩)]
      · rw [gI_sI, if_neg (by omega), gI_sI, if_neg (by omega), remS_o (by omega), gI_sI, if_neg (by omega), gI_sI, if_neg (by omega), hC.2.1 a i (by omega) (by omega) (by omega)]
      · rw [gI_sI, if_neg (by omega), gI_sI, if_neg (by omega), remS_o (by omega), gI_sI, if_neg (by omega), gI_sI, if_neg (by omega), hC.2.1 4 i (by omega) (by omega) (by omega)]
      · rw [gI_sI, if_neg (by omega), gI_sI, if_neg (by omega), remS_o (by omega), gI_sI, if_neg (by omega), gI_sI, if_pos ⟨rfl, rfl⟩]; rfl
      · rw [gI_sI, if_pos ⟨rfl, rfl⟩]; rfl
      · exact ((remS_J (S := sI (sI S2 4 16 0) 72 0 0) (k := 3)).1 a i).trans (hC.2.2.1 a i)
      · exact ((remS_J (S := sI (sI S2 4 16 0) 72 0 0) (k := 3)).2 a i).trans (hC.2.2.2 a i)
    have hQ : RefQ (sI (sI S2 4 16 0) 72 0 0) cls := by
      unfold RefQ
      rw [hg]
      refine ⟨hI.1.gb, hI.1.2.1.2, ?_, w4⟩
      rw [gI_sI, if_neg (by omega), gI_sI, if_neg (by omega), hC.2.1 72 20 (by omega) (by omega) (by omega)]
      exact hI1.2.2.2.2.2.2.2.2.1
    obtain ⟨T1, c', u1, u2, u3⟩ := x249 (X := X) (d := 40) (by omega) hQ (by rw [hg]; exact hI.1.mets) (by rw [k2]; exact hH1.2) (by rw [hg]; exact h9)
    rw [hg] at u1 u3
    have e := w5.uniq u3
    subst e
    have hc := fun {cm cp : Nat} {L : zL} {st : List Value} => evI (X := X) (d := d) (by omega) w1 (cm := cm) (cp := cp) (L := L) (st := st)
    have hm := fun {cm cp : Nat} {L : zL} {st : List Value} => evI (X := X) (d := d) (by omega) u1 (cm := cm) (cp := cp) (L := L) (st := st)
    have c136' := fun {cm cp : Nat} {L : zL} {st : List Value} => c136 (X := X) (d := d) (by omega) (cm := cm) (cp := cp) (L := L) (st := st) (S := S2) c (by omega) (by omega)
    rw [show clsS S2 c = sI S2 4 16 0 from if_neg (by omega)] at c136'
    have c153' := fun {cm cp : Nat} {L : zL} {st : List Value} => c153 (X := X) (d := d) (by omega) (cm := cm) (cp := cp) (L := L) (st := st) (S := sI (remS T1 3) 74 5 (gI S 74 5 + 1)) c (by omega)
    rw [if_neg (show ¬ c < 0 by omega)] at c153'
    have hFr : FrQm (sI (sI (remS (sI (sI S2 4 16 0) 72 0 0) 3) 74 5 (gI S 74 5 + 1)) 72 1 0) (sI (sI (remS T1 3) 74 5 (gI S 74 5 + 1)) 72 1 0) := (u2.rem.sI (by decide)).sI (by decide)
    obtain ⟨z1, z2⟩ := hF'.qu hG FrQc.rf hF'.fxc hFr
    refine pair_ok (v := c) (sI S2 4 16 0) (sI (sI (remS T1 3) 74 5 (gI S 74 5 + 1)) 72 1 0) ?_ ?_ z1 ?_
    · show z_ev X d (113, 0, [some (.ref 4)], [], mk S) = _
      simp (disch := first | omega | assumption | exact b01_rng _ | exact st_5 | exact st_12 | exact st_19 | (simp only [isSt_sI, isSt_sJ, isSt_sF, isSt_sG, isSt_sA]; assumption)) only [↓B113_0, ↓B113_5, ↓B113_8, ↓o_4, ↓o_4, hc, c136', i_lit, i_add, i_sub, i_mul, i_neg, i_lt, i_le, i_eq, i32_gI, i64_gJ, i32_id, i32_to, i64_to, sI_i32, sJ_i64, b01_t, b01_f, i32_b01, b01_0, ↓a_s0, ↓n_s0, ↓a_s1, ↓n_s1, Int.add_zero, t_lt, f_lt, t_le, f_le, t_eq, f_eq, true_and, and_true, false_and, and_false, and_self, ↓reduceIte, z_bool_of, or_true, true_or, or_false, false_or, Int.neg_neg, not_true_eq_false, not_false_eq_true, lg_lt, lg_le, lg_gt, lg_ge, lg_eq, j_lit, j_add, j_sub, j_mul, j_neg, j_eq, i64_id, ij, ji, z_rt, Nat.reduceEqDiff, Nat.reduceAdd, Int.reduceAdd, Int.reduceSub, Int.reduceMul, Int.reduceNeg, Int.reduceLT, Int.reduceLE, Int.reduceEq]
    · show z_ev X d (250, 0, [some (.ref 72)], [], mk (sI S2 4 16 0)) = _
      simp (disch := first | omega | assumption | exact b01_rng _ | exact st_5 | exact st_12 | exact st_19 | (simp only [isSt_sI, isSt_sJ, isSt_sF, isSt_sG, isSt_sA]; assumption)) only [↓B250_0, ↓B250_10, ↓B250_13, ↓o_72, ↓w_72_0, ↓o_72, hm, c153', i_lit, i_add, i_sub, i_mul, i_neg, i_lt, i_le, i_eq, i32_gI, i64_gJ, i32_id, i32_to, i64_to, sI_i32, sJ_i64, b01_t, b01_f, i32_b01, b01_0, ↓a_s0, ↓n_s0, ↓a_s1, ↓n_s1, Int.add_zero, t_lt, f_lt, t_le, f_le, t_eq, f_eq, true_and, and_true, false_and, and_false, and_self, ↓reduceIte, z_bool_of, or_true, true_or, or_false, false_or, Int.neg_neg, not_true_eq_false, not_false_eq_true, lg_lt, lg_le, lg_gt, lg_ge, lg_eq, j_lit, j_add, j_sub, j_mul, j_neg, j_eq, i64_id, ij, ji, z_rt, Nat.reduceEqDiff, Nat.reduceAdd, Int.reduceAdd, Int.reduceSub, Int.reduceMul, Int.reduceNeg, Int.reduceLT, Int.reduceLE, Int.reduceEq]
    · exact (((w2.1.tr hC.1).tr (Dyn.sI (by decide) (Dyn.sI (by decide) Dyn.rf))).tr u2.1).tr (Dyn.sI (by decide) (Dyn.sI (by decide) (Dyn.rem Dyn.rf)))
end
