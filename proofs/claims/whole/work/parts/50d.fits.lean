/-! which metres take a line, on both sides -/
theorem evR {X : zX} {d k mi : Nat} {as : List Value} {S S1 : zS} {r : Int32} (hd : k < d) (h : z_ev X k (z_entry mi as (mk S)) = some (some (.int r), mk S1)) {cm cp : Nat} {L : zL} {st : List Value} : z_evc X d mi as (cm, cp, L, st, mk S) = z_ev X d (cm, cp, L, .int r :: st, mk S1) := z_evc_of (r := (some (.int r), mk S1)) (ck := (cm, cp, L, st, mk S)) hd h
theorem MtR.uniq {g : Int → Int} {b : Int} {x y : T3} (h1 : MtR g b x) (h2 : MtR g b y) : x = y := by
  obtain ⟨a1, a2, a3, a4⟩ := h1
  obtain ⟨b1, b2, b3, b4⟩ := h2
  have hl : x.2.2.length = y.2.2.length := by omega
  have he : x.2.2 = y.2.2 := by
    apply List.ext_getElem? 
    intro j
    by_cases q : j < x.2.2.length
    · have e1 := List.getElem?_eq_getElem q
      have e2 := List.getElem?_eq_getElem (show j < y.2.2.length by omega)
      have k1 := a4 j _ e1
      have k2 := b4 j _ e2
      rw [e1, e2, ← k1, ← k2]
    · rw [List.getElem?_eq_none (by omega), List.getElem?_eq_none (by omega)]
  have e1 := a1.1.1 []
  have e2 := b1.1.1 []
  rw [he, e2] at e1
  exact (List.cons.inj e1).1.symm
/-- a metre takes some reading -/
def TkE (E : Ln) (g : Int → Int) (k : Int) : Prop := ∃ x : T3, MtR g (80 + 402 * k) x ∧ Gw E x.1 0 E.1
theorem TkE.of {E : Ln} {g : Int → Int} {k : Int} {x : T3} (h : MtR g (80 + 402 * k) x) : TkE E g k ↔ Gw E x.1 0 E.1 := by
  constructor
  · rintro ⟨y, h1, h2⟩
    rw [h.uniq h1]; exact h2
  · intro w; exact ⟨x, h, w⟩
/-- a set of them, as bits -/
def FitR (T : Int → Prop) : Nat → Int32 → Prop
  | 0, r => r = Int32.ofInt 0
  | k + 1, r => ∃ r', FitR T k r' ∧ ((T k ∧ r = r' ||| (Int32.ofInt 1 <<< (Int32.ofInt (k : Int) &&& Int32.ofInt 31))) ∨ (¬ T k ∧ r = r'))
theorem FitR.uniq {T : Int → Prop} : ∀ {k : Nat} {r s : Int32}, FitR T k r → FitR T k s → r = s := by
  intro k
  induction k with
  | zero => intro r s h1 h2; exact Eq.trans h1 (Eq.symm h2)
  | succ k ih =>
    rintro r s ⟨r', a1, a2⟩ ⟨s', b1, b2⟩
    have e := ih a1 b1
    subst e
    rcases a2 with ⟨w1, w2⟩ | ⟨w1, w2⟩ <;> rcases b2 with ⟨v1, v2⟩ | ⟨v1, v2⟩
    · rw [w2, v2]
    · exact absurd w1 v1
    · exact absurd v1 w1
    · rw [w2, v2]
theorem FitR.cg {T T' : Int → Prop} : ∀ {k : Nat} {r : Int32}, FitR T k r → (∀ i : Nat, i < k → (T' i ↔ T i)) → FitR T' k r := by
  intro k
  induction k with
  | zero => intro r h _; exact h
  | succ k ih =>
    rintro r ⟨r', a1, a2⟩ h
    refine ⟨r', ih a1 (fun i hi => h i (by omega)), ?_⟩
    have := h k (by omega)
    rcases a2 with ⟨w1, w2⟩ | ⟨w1, w2⟩
    · exact Or.inl ⟨this.mpr w1, w2⟩
    · exact Or.inr ⟨fun z => w1 (this.mp z), w2⟩
theorem or_one : ∀ (k : Fin 6) (v : Fin 64), v.val < 2 ^ k.val → Int32.ofInt (v.val : Int) ||| (Int32.ofInt 1 <<< (Int32.ofInt (k.val : Int) &&& Int32.ofInt 31)) = Int32.ofInt ((v.val + 2 ^ k.val : Nat) : Int) := by decide +kernel
theorem FitR.sm {T : Int → Prop} : ∀ {k : Nat} {r : Int32}, k ≤ 6 → FitR T k r → ∃ v : Nat, v < 2 ^ k ∧ r = Int32.ofInt (v : Int) := by
  intro k
  induction k with
  | zero => intro r _ h; exact ⟨0, by decide, h⟩
  | succ k ih =>
    rintro r hk ⟨r', a1, a2⟩
    obtain ⟨v, v1, v2⟩ := ih (by omega) a1
    have h64 : 2 ^ k ≤ 2 ^ 5 := Nat.pow_le_pow_right (by decide) (by omega)
    have h32 : (2 : Nat) ^ 5 = 32 := rfl
    rcases a2 with ⟨-, w2⟩ | ⟨-, w2⟩
    · refine ⟨v + 2 ^ k, by rw [Nat.pow_succ]; omega, ?_⟩
      rw [w2, v2]
      exact or_one ⟨k, by omega⟩ ⟨v, by omega⟩ v1
    · exact ⟨v, by rw [Nat.pow_succ]; omega, by rw [w2, v2]⟩
section
variable {X : zX} {d : Nat} {E : Ln} {g : Int → Int}
theorem StRel.kp2 {S S' : zS} {s : Nat} (h : StRel PM QL S s g) (hs : isSt S s) (hF : FrQc S S') : StRel PM QL S' s g := by
  have o := hs.off
  exact h.fr good2.g hF.1 (fun i => hF.2.1 _ _ (by have := o 0 (by omega); omega)) (fun i => hF.2.1 _ _ (by have := o 1 (by omega); omega)) (fun i => hF.2.1 _ _ (by have := o 2 (by omega); omega)) (fun i => hF.2.1 _ _ (by have := o 3 (by omega); omega)) (fun i => hF.2.1 _ _ (by have := o 4 (by omega); omega)) (fun i => hF.2.2.2 _ _ (by have := o 5 (by omega); omega)) (fun i => hF.2.2.2 _ _ (by have := o 6 (by omega); omega)) (fun _ => rfl)
abbrev L137 (s : Nat) (r : Int32) (k : Int) (x4 : Option Value) : zL := [some (.ref 4), some (.ref s), some (.int r), some (.int (Int32.ofInt k)), x4]
theorem l137 (hd : 9 < d) {s : Nat} : ∀ (c k : Nat) (S : zS) (r : Int32) (x4 : Option Value), ((k + c : Nat) : Int) = g 1 → isSt S s → StRel PM QL S s g → BtL S E → FitR (TkE E g) k r → ∃ (S' : zS) (r' : Int32), z_ev X d (137, 4, L137 s r k x4, [], mk S) = some (some (.int r'), mk S') ∧ FrFw S S' ∧ FitR (TkE E g) (g 1).toNat r' := by
  intro c
  induction c with
  | zero =>
    intro k S r x4 hc hs hR hL hF
    obtain ⟨b1, b2, b3⟩ := hR.2.1
    have e : (g 1).toNat = k := by omega
    refine ⟨S, r, ?_, FrFw.rf, by rw [e]; exact hF⟩
    rw [B137_4]
    simp (disch := first | omega | assumption | exact b01_rng _ | exact st_5 | exact st_12 | exact st_19 | (simp only [isSt_sI, isSt_sJ, isSt_sF, isSt_sG, isSt_sA]; assumption)) only [↓B137_48, ↓st_r8 hs, b1, i_lit, i_add, i_sub, i_mul, i_neg, i_lt, i_le, i_eq, i32_gI, i64_gJ, i32_id, i32_to, i64_to, sI_i32, sJ_i64, b01_t, b01_f, i32_b01, b01_0, ↓a_s0, ↓n_s0, ↓a_s1, ↓n_s1, Int.add_zero, t_lt, f_lt, t_le, f_le, t_eq, f_eq, true_and, and_true, false_and, and_false, and_self, ↓reduceIte, z_bool_of, or_true, true_or, or_false, false_or, Int.neg_neg, not_true_eq_false, not_false_eq_true, lg_lt, lg_le, lg_gt, lg_ge, lg_eq, j_lit, j_add, j_sub, j_mul, j_neg, j_eq, i64_id, ij, ji, z_rt, Nat.reduceEqDiff, Nat.reduceAdd, Int.reduceAdd, Int.reduceSub, Int.reduceMul, Int.reduceNeg, Int.reduceLT, Int.reduceLE, Int.reduceEq]
  | succ c ih =>
    intro k S r x4 hc hs hR hL hF
    obtain ⟨b1, b2, b3⟩ := hR.2.1
    obtain ⟨a, x, e1, e2, e3⟩ := hR.met (k := (k : Int)) (by omega)
    obtain ⟨S1, v, w1, w2, w3⟩ := x49 (X := X) (d := 9) (by omega) (S := S) (a := a) (E := E) e2 hL
    have ev := fun {cm cp : Nat} {L : zL} {st : List Value} => evI (X := X) (d := d) hd w1 (cm := cm) (cp := cp) (L := L) (st := st)
    have c77 := fun {cm cp : Nat} {L : zL} {st : List Value} => c77a (X := X) (d := d) (by omega) (cm := cm) (cp := cp) (L := L) (st := st) (k : Int) (S := S) (s := s) hs (by omega) (by omega) e1
    have ht := TkE.of (E := E) e3
    have next : ∀ r1 : Int32, FitR (TkE E g) (k + 1) r1 → z_ev X d (137, 4, L137 s r k x4, [], mk S) = z_ev X d (137, 4, L137 s r1 ((k : Int) + 1) (some (.ref a)), [], mk S1) → ∃ (S' : zS) (r' : Int32), z_ev X d (137, 4, L137 s r k x4, [], mk S) = some (some (.int r'), mk S') ∧ FrFw S S' ∧ FitR (TkE E g) (g 1).toNat r' := fun r1 h1 h2 => by
      obtain ⟨S', r', u1, u2, u3⟩ := ih (k + 1) S1 r1 (some (.ref a)) (by omega) (hs.a w2.1) (hR.kp2 hs w2.q) (hL.fr w2) h1
      refine ⟨S', r', ?_, w2.tr u2, u3⟩
      rw [h2, ← u1, show ((k + 1 : Nat) : Int) = (k : Int) + 1 by omega]
    rcases w3 with ⟨v1, v2⟩ | ⟨v1, v2⟩
    · subst v1
      refine next (r ||| (Int32.ofInt 1 <<< (Int32.ofInt (k : Int) &&& Int32.ofInt 31))) ⟨r, hF, Or.inl ⟨ht.mpr v2, rfl⟩⟩ ?_
      rw [B137_4]
      simp (disch := first | omega | assumption | exact b01_rng _ | exact st_5 | exact st_12 | exact st_19 | (simp only [isSt_sI, isSt_sJ, isSt_sF, isSt_sG, isSt_sA]; assumption)) only [↓B137_12, ↓B137_17, ↓B137_24, ↓B137_33, ↓B137_36, ↓B137_42, ↓o_19, ↓o_5, ↓o_58, ↓r_19_8, ↓r_4_11, ↓r_5_8, ↓st_r8 hs, ↓st_o hs, ↓o_58, b1, c77, ev, i_lit, i_add, i_sub, i_mul, i_neg, i_lt, i_le, i_eq, i32_gI, i64_gJ, i32_id, i32_to, i64_to, sI_i32, sJ_i64, b01_t, b01_f, i32_b01, b01_0, ↓a_s0, ↓n_s0, ↓a_s1, ↓n_s1, Int.add_zero, t_lt, f_lt, t_le, f_le, t_eq, f_eq, true_and, and_true, false_and, and_false, and_self, ↓reduceIte, z_bool_of, or_true, true_or, or_false, false_or, Int.neg_neg, not_true_eq_false, not_false_eq_true, lg_lt, lg_le, lg_gt, lg_ge, lg_eq, j_lit, j_add, j_sub, j_mul, j_neg, j_eq, i64_id, ij, ji, z_rt, Nat.reduceEqDiff, Nat.reduceAdd, Int.reduceAdd, Int.reduceSub, Int.reduceMul, Int.reduceNeg, Int.reduceLT, Int.reduceLE, Int.reduceEq]
    · subst v1
      refine next r ⟨r, hF, Or.inr ⟨fun z => v2 (ht.mp z), rfl⟩⟩ ?_
      rw [B137_4]
      simp (disch := first | omega | assumption | exact b01_rng _ | exact st_5 | exact st_12 | exact st_19 | (simp only [isSt_sI, isSt_sJ, isSt_sF, isSt_sG, isSt_sA]; assumption)) only [↓B137_12, ↓B137_17, ↓B137_24, ↓B137_33, ↓B137_42, ↓o_19, ↓o_5, ↓o_58, ↓r_19_8, ↓r_4_11, ↓r_5_8, ↓st_r8 hs, ↓st_o hs, ↓o_58, b1, c77, ev, i_lit, i_add, i_sub, i_mul, i_neg, i_lt, i_le, i_eq, i32_gI, i64_gJ, i32_id, i32_to, i64_to, sI_i32, sJ_i64, b01_t, b01_f, i32_b01, b01_0, ↓a_s0, ↓n_s0, ↓a_s1, ↓n_s1, Int.add_zero, t_lt, f_lt, t_le, f_le, t_eq, f_eq, true_and, and_true, false_and, and_false, and_self, ↓reduceIte, z_bool_of, or_true, true_or, or_false, false_or, Int.neg_neg, not_true_eq_false, not_false_eq_true, lg_lt, lg_le, lg_gt, lg_ge, lg_eq, j_lit, j_add, j_sub, j_mul, j_neg, j_eq, i64_id, ij, ji, z_rt, Nat.reduceEqDiff, Nat.reduceAdd, Int.reduceAdd, Int.reduceSub, Int.reduceMul, Int.reduceNeg, Int.reduceLT, Int.reduceLE, Int.reduceEq]
theorem x137 (hd : 9 < d) {s : Nat} {S : zS} (hs : isSt S s) (hR : StRel PM QL S s g) (hL : BtL S E) : ∃ (S' : zS) (r' : Int32), z_ev X d (z_entry 137 [.ref 4, .ref s] (mk S)) = some (some (.int r'), mk S') ∧ FrFw S S' ∧ FitR (TkE E g) (g 1).toNat r' := by
  obtain ⟨b1, b2, b3⟩ := hR.2.1
  obtain ⟨S', r', w1, w2, w3⟩ := l137 (X := X) (d := d) (E := E) hd (g 1).toNat 0 S (Int32.ofInt 0) none (by omega) hs hR hL rfl
  refine ⟨S', r', ?_, w2, w3⟩
  rw [← w1]
  show z_ev X d (137, 0, [some (.ref 4), some (.ref s), none, none, none], [], mk S) = _
  simp (disch := first | omega | assumption | exact b01_rng _ | exact st_5 | exact st_12 | exact st_19 | (simp only [isSt_sI, isSt_sJ, isSt_sF, isSt_sG, isSt_sA]; assumption)) only [↓B137_0, i_lit, i_add, i_sub, i_mul, i_neg, i_lt, i_le, i_eq, i32_gI, i64_gJ, i32_id, i32_to, i64_to, sI_i32, sJ_i64, b01_t, b01_f, i32_b01, b01_0, ↓a_s0, ↓n_s0, ↓a_s1, ↓n_s1, Int.add_zero, t_lt, f_lt, t_le, f_le, t_eq, f_eq, true_and, and_true, false_and, and_false, and_self, ↓reduceIte, z_bool_of, or_true, true_or, or_false, false_or, Int.neg_neg, not_true_eq_false, not_false_eq_true, lg_lt, lg_le, lg_gt, lg_ge, lg_eq, j_lit, j_add, j_sub, j_mul, j_neg, j_eq, i64_id, ij, ji, z_rt, Nat.reduceEqDiff, Nat.reduceAdd, Int.reduceAdd, Int.reduceSub, Int.reduceMul, Int.reduceNeg, Int.reduceLT, Int.reduceLE, Int.reduceEq]
  rfl
/-- the class: which take a line that lies at s -/
theorem x138 (hd : 20 < d) {s : Nat} {S : zS} (hs : isSt S s) (hR : StRel PM QL S s g) (hX : FxC S) : ∃ (S' : zS) (r : Int32) (cls : List Cl), z_ev X d (z_entry 138 [.ref 4, .ref s] (mk S)) = some (some (.int r), mk S') ∧ FrQc S S' ∧ FxC S' ∧ LawR g (g 4) cls ∧ FitR (TkE (LnH 0 cls g) g) (g 1).toNat r := by
  obtain ⟨f1, f2, f3⟩ := hR.2.2.2.2.1
  obtain ⟨o, cls, l1, l2, l3⟩ := hR.law hs (k := g 4) (by omega)
  obtain ⟨S1, y1, y2, y3⟩ := x44 (X := X) (d := 19) (by omega) hR.gb hs hR.sl l1
  obtain ⟨S2, r, z1, z2, z3⟩ := x137 (X := X) (d := 19) (E := LnH 0 cls g) (by omega) (hs.a y2.1) (hR.kp2 hs y2.q) (BtL_C (how := 0) hR.gb y3 (by omega))
  have ev1 := fun {cm cp : Nat} {L : zL} {st : List Value} => evV (X := X) (d := d) (by omega) y1 (cm := cm) (cp := cp) (L := L) (st := st)
  have ev2 := fun {cm cp : Nat} {L : zL} {st : List Value} => evR (X := X) (d := d) (by omega) z1 (cm := cm) (cp := cp) (L := L) (st := st)
  have c78 := fun {cm cp : Nat} {L : zL} {st : List Value} => l3 (X := X) (d := d) (by omega) (cm := cm) (cp := cp) (L := L) (st := st)
  refine ⟨S2, r, cls, ?_, y2.q.tr z2.q, (hX.keep y2.2.2.1 y2.2.2.2).keep z2.2.2.1 z2.2.2.2, l2, z3⟩
  show z_ev X d (138, 0, [some (.ref 4), some (.ref s)], [], mk S) = _
  cases o with
  | none => simp (disch := first | omega | assumption | exact b01_rng _ | exact st_5 | exact st_12 | exact st_19 | (simp only [isSt_sI, isSt_sJ, isSt_sF, isSt_sG, isSt_sA]; assumption)) only [↓B138_0, ↓B138_13_ns0, ↓B138_16, ↓B138_21, ↓o_19, ↓o_4, ↓o_5, ↓o_58, ↓r_19_10, ↓r_4_11, ↓r_5_10, ↓st_r10 hs, ↓st_o hs, ↓o_58, ↓o_4, f1, c78, ev1, ev2, lv, i_lit, i_add, i_sub, i_mul, i_neg, i_lt, i_le, i_eq, i32_gI, i64_gJ, i32_id, i32_to, i64_to, sI_i32, sJ_i64, b01_t, b01_f, i32_b01, b01_0, ↓a_s0, ↓n_s0, ↓a_s1, ↓n_s1, Int.add_zero, t_lt, f_lt, t_le, f_le, t_eq, f_eq, true_and, and_true, false_and, and_false, and_self, ↓reduceIte, z_bool_of, or_true, true_or, or_false, false_or, Int.neg_neg, not_true_eq_false, not_false_eq_true, lg_lt, lg_le, lg_gt, lg_ge, lg_eq, j_lit, j_add, j_sub, j_mul, j_neg, j_eq, i64_id, ij, ji, z_rt, Nat.reduceEqDiff, Nat.reduceAdd, Int.reduceAdd, Int.reduceSub, Int.reduceMul, Int.reduceNeg, Int.reduceLT, Int.reduceLE, Int.reduceEq]
  | some b => simp (disch := first | omega | assumption | exact b01_rng _ | exact st_5 | exact st_12 | exact st_19 | (simp only [isSt_sI, isSt_sJ, isSt_sF, isSt_sG, isSt_sA]; assumption)) only [↓B138_0, ↓B138_13, ↓B138_16, ↓B138_21, ↓o_19, ↓o_4, ↓o_5, ↓o_58, ↓r_19_10, ↓r_4_11, ↓r_5_10, ↓st_r10 hs, ↓st_o hs, ↓o_58, ↓o_4, f1, c78, ev1, ev2, lv, i_lit, i_add, i_sub, i_mul, i_neg, i_lt, i_le, i_eq, i32_gI, i64_gJ, i32_id, i32_to, i64_to, sI_i32, sJ_i64, b01_t, b01_f, i32_b01, b01_0, ↓a_s0, ↓n_s0, ↓a_s1, ↓n_s1, Int.add_zero, t_lt, f_lt, t_le, f_le, t_eq, f_eq, true_and, and_true, false_and, and_false, and_self, ↓reduceIte, z_bool_of, or_true, true_or, or_false, false_or, Int.neg_neg, not_true_eq_false, not_false_eq_true, lg_lt, lg_le, lg_gt, lg_ge, lg_eq, j_lit, j_add, j_sub, j_mul, j_neg, j_eq, i64_id, ij, ji, z_rt, Nat.reduceEqDiff, Nat.reduceAdd, Int.reduceAdd, Int.reduceSub, Int.reduceMul, Int.reduceNeg, Int.reduceLT, Int.reduceLE, Int.reduceEq]
/-- the reference -/
theorem or_0 (r : Int32) : r ||| Int32.ofInt 0 = r := by
  apply Int32.toBitVec_inj.mp
  rw [Int32.toBitVec_or]
  show r.toBitVec ||| 0#32 = _
  rw [BitVec.or_zero]
def MetsR (g : Int → Int) : Prop := ∀ k : Int, 0 ≤ k → k < g 1 → ∃ x : T3, MtR g (80 + 402 * k) x
theorem StRel.mets {S : zS} {s : Nat} (h : StRel PM QL S s g) : MetsR g := fun k q1 q2 => by
  obtain ⟨a, x, -, -, e⟩ := h.met ⟨q1, q2⟩
  exact ⟨x, e⟩
theorem l240 (hd : 10 < d) {cls : List Cl} : ∀ (c k : Nat) (S : zS) (r : Int32), ((k + c : Nat) : Int) = gI S 74 1 → RefQ S cls → MetsR (gI S 74) → FitR (TkE (LnH 0 cls (gI S 74)) (gI S 74)) k r → ∃ (S' : zS) (r' : Int32), z_ev X d (240, 4, [some (.ref 72), some (.int r), some (.int (Int32.ofInt (k : Int)))], [], mk S) = some (some (.int r'), mk S') ∧ FrQm S S' ∧ FitR (TkE (LnH 0 cls (gI S 74)) (gI S 74)) (gI S 74 1).toNat r' := by
  intro c
  induction c with
  | zero =>
    intro k S r hc hQ hM hF
    have b := hQ.2.1
    have e : (gI S 74 1).toNat = k := by omega
    refine ⟨S, r, ?_, FrQm.rf, by rw [e]; exact hF⟩
    rw [B240_4]
    simp (disch := first | omega | assumption | exact b01_rng _ | exact st_5 | exact st_12 | exact st_19 | (simp only [isSt_sI, isSt_sJ, isSt_sF, isSt_sG, isSt_sA]; assumption)) only [↓B240_40, ↓a_74, ↓n_74, ↓o_72, ↓r_72_3, ↓s_74, i_lit, i_add, i_sub, i_mul, i_neg, i_lt, i_le, i_eq, i32_gI, i64_gJ, i32_id, i32_to, i64_to, sI_i32, sJ_i64, b01_t, b01_f, i32_b01, b01_0, ↓a_s0, ↓n_s0, ↓a_s1, ↓n_s1, Int.add_zero, t_lt, f_lt, t_le, f_le, t_eq, f_eq, true_and, and_true, false_and, and_false, and_self, ↓reduceIte, z_bool_of, or_true, true_or, or_false, false_or, Int.neg_neg, not_true_eq_false, not_false_eq_true, lg_lt, lg_le, lg_gt, lg_ge, lg_eq, j_lit, j_add, j_sub, j_mul, j_neg, j_eq, i64_id, ij, ji, z_rt, Nat.reduceEqDiff, Nat.reduceAdd, Int.reduceAdd, Int.reduceSub, Int.reduceMul, Int.reduceNeg, Int.reduceLT, Int.reduceLE, Int.reduceEq]
  | succ c ih =>
    intro k S r hc hQ hM hF
    have b := hQ.2.1
    obtain ⟨x, hx⟩ := hM (k : Int) (by omega) (by omega)
    obtain ⟨S1, w1, w2, w3, w4, w5⟩ := x228 (X := X) (d := 10) (cls := cls) (how := 0) (by omega) (S := S) (by omega) hQ (m := (k : Int)) (by omega) hx
    obtain ⟨p1, p2⟩ := LfR.beg w3 w5 hQ.1.1.1
    have ht := TkE.of (E := LnH 0 cls (gI S 74)) hx
    have hlt : gI S1 104 0 < 100000000 ↔ Gw (LnH 0 cls (gI S 74)) x.1 0 (LnH 0 cls (gI S 74)).1 := by rw [p2.lt, Rd_Gw]
    have ev := fun {cm cp : Nat} {L : zL} {st : List Value} => evI (X := X) (d := d) hd w1 (cm := cm) (cp := cp) (L := L) (st := st)
    have g1 := w2.g
    have next : ∀ r1 : Int32, FitR (TkE (LnH 0 cls (gI S 74)) (gI S 74)) (k + 1) r1 → z_ev X d (240, 4, [some (.ref 72), some (.int r), some (.int (Int32.ofInt (k : Int)))], [], mk S) = z_ev X d (240, 4, [some (.ref 72), some (.int r1), some (.int (Int32.ofInt ((k : Int) + 1)))], [], mk S1) → ∃ (S' : zS) (r' : Int32), z_ev X d (240, 4, [some (.ref 72), some (.int r), some (.int (Int32.ofInt (k : Int)))], [], mk S) = some (some (.int r'), mk S') ∧ FrQm S S' ∧ FitR (TkE (LnH 0 cls (gI S 74)) (gI S 74)) (gI S 74 1).toNat r' := fun r1 h1 h2 => by
      obtain ⟨S', r', u1, u2, u3⟩ := ih (k + 1) S1 r1 (by rw [g1]; omega) (hQ.fr w2) (by rw [g1]; exact hM) (by rw [g1]; exact h1)
      rw [g1] at u3
      refine ⟨S', r', ?_, w2.tr u2, u3⟩
      rw [h2, ← u1, show ((k + 1 : Nat) : Int) = (k : Int) + 1 by omega]
    by_cases q : gI S1 104 0 < 100000000
    · rw [if_pos q] at ev
      refine next (r ||| (Int32.ofInt 1 <<< (Int32.ofInt (k : Int) &&& Int32.ofInt 31))) ⟨r, hF, Or.inl ⟨ht.mpr (hlt.mp q), rfl⟩⟩ ?_
      rw [B240_4]
      simp (disch := first | omega | assumption | exact b01_rng _ | exact st_5 | exact st_12 | exact st_19 | (simp only [isSt_sI, isSt_sJ, isSt_sF, isSt_sG, isSt_sA]; assumption)) only [↓B240_14, ↓B240_21, ↓B240_25, ↓B240_32, ↓a_74, ↓n_74, ↓o_72, ↓r_72_3, ↓s_74, ↓o_72, ev, i_lit, i_add, i_sub, i_mul, i_neg, i_lt, i_le, i_eq, i32_gI, i64_gJ, i32_id, i32_to, i64_to, sI_i32, sJ_i64, b01_t, b01_f, i32_b01, b01_0, ↓a_s0, ↓n_s0, ↓a_s1, ↓n_s1, Int.add_zero, t_lt, f_lt, t_le, f_le, t_eq, f_eq, true_and, and_true, false_and, and_false, and_self, ↓reduceIte, z_bool_of, or_true, true_or, or_false, false_or, Int.neg_neg, not_true_eq_false, not_false_eq_true, lg_lt, lg_le, lg_gt, lg_ge, lg_eq, j_lit, j_add, j_sub, j_mul, j_neg, j_eq, i64_id, ij, ji, z_rt, Nat.reduceEqDiff, Nat.reduceAdd, Int.reduceAdd, Int.reduceSub, Int.reduceMul, Int.reduceNeg, Int.reduceLT, Int.reduceLE, Int.reduceEq]
    · rw [if_neg q] at ev
      refine next r ⟨r, hF, Or.inr ⟨fun z => q (hlt.mpr (ht.mp z)), rfl⟩⟩ ?_
      rw [B240_4]
      simp (disch := first | omega | assumption | exact b01_rng _ | exact st_5 | exact st_12 | exact st_19 | (simp only [isSt_sI, isSt_sJ, isSt_sF, isSt_sG, isSt_sA]; assumption)) only [↓B240_14, ↓B240_21, ↓B240_31, ↓B240_32, ↓a_74, ↓n_74, ↓o_72, ↓r_72_3, ↓s_74, ↓o_72, ev, i_lit, i_add, i_sub, i_mul, i_neg, i_lt, i_le, i_eq, i32_gI, i64_gJ, i32_id, i32_to, i64_to, sI_i32, sJ_i64, b01_t, b01_f, i32_b01, b01_0, ↓a_s0, ↓n_s0, ↓a_s1, ↓n_s1, Int.add_zero, t_lt, f_lt, t_le, f_le, t_eq, f_eq, true_and, and_true, false_and, and_false, and_self, ↓reduceIte, z_bool_of, or_true, true_or, or_false, false_or, Int.neg_neg, not_true_eq_false, not_false_eq_true, lg_lt, lg_le, lg_gt, lg_ge, lg_eq, j_lit, j_add, j_sub, j_mul, j_neg, j_eq, i64_id, ij, ji, z_rt, Nat.reduceEqDiff, Nat.reduceAdd, Int.reduceAdd, Int.reduceSub, Int.reduceMul, Int.reduceNeg, Int.reduceLT, Int.reduceLE, Int.reduceEq, or_0]
theorem x240 (hd : 10 < d) {cls : List Cl} {S : zS} (hQ : RefQ S cls) (hM : MetsR (gI S 74)) : ∃ (S' : zS) (r' : Int32), z_ev X d (z_entry 240 [.ref 72] (mk S)) = some (some (.int r'), mk S') ∧ FrQm S S' ∧ FitR (TkE (LnH 0 cls (gI S 74)) (gI S 74)) (gI S 74 1).toNat r' := by
  have b := hQ.2.1
  obtain ⟨S', r', w1, w2, w3⟩ := l240 (X := X) (d := d) hd (cls := cls) (gI S 74 1).toNat 0 S (Int32.ofInt 0) (by omega) hQ hM rfl
  refine ⟨S', r', ?_, w2, w3⟩
  rw [← w1]
  show z_ev X d (240, 0, [some (.ref 72), none, none], [], mk S) = _
  simp (disch := first | omega | assumption | exact b01_rng _ | exact st_5 | exact st_12 | exact st_19 | (simp only [isSt_sI, isSt_sJ, isSt_sF, isSt_sG, isSt_sA]; assumption)) only [↓B240_0, i_lit, i_add, i_sub, i_mul, i_neg, i_lt, i_le, i_eq, i32_gI, i64_gJ, i32_id, i32_to, i64_to, sI_i32, sJ_i64, b01_t, b01_f, i32_b01, b01_0, ↓a_s0, ↓n_s0, ↓a_s1, ↓n_s1, Int.add_zero, t_lt, f_lt, t_le, f_le, t_eq, f_eq, true_and, and_true, false_and, and_false, and_self, ↓reduceIte, z_bool_of, or_true, true_or, or_false, false_or, Int.neg_neg, not_true_eq_false, not_false_eq_true, lg_lt, lg_le, lg_gt, lg_ge, lg_eq, j_lit, j_add, j_sub, j_mul, j_neg, j_eq, i64_id, ij, ji, z_rt, Nat.reduceEqDiff, Nat.reduceAdd, Int.reduceAdd, Int.reduceSub, Int.reduceMul, Int.reduceNeg, Int.reduceLT, Int.reduceLE, Int.reduceEq]
  rfl
theorem p_fits {S : zS} (hd : 200 ≤ d) (hI : Inv PM QL S) : PairAt PM QL X 121 242 [] S d := by
  obtain ⟨S1, r, cls, w1, w2, w3, w4, w5⟩ := x138 (X := X) (d := 30) (by omega) st_5 hI.1 hI.fxc
  have hQ := ((RefQ.mk hI w4).c w2).fr (FrQm.th (S := S1))
  have g2 : gI (sI S1 72 0 0) 74 = gI S 74 := by rw [(FrQm.th (S := S1)).g, w2.g]
  obtain ⟨S2, r', u1, u2, u3⟩ := x240 (X := X) (d := 30) (by omega) hQ (by rw [g2]; exact hI.1.mets)
  rw [g2] at u3
  have e := w5.uniq u3
  subst e
  have ev1 := fun {cm cp : Nat} {L : zL} {st : List Value} => evR (X := X) (d := d) (by omega) w1 (cm := cm) (cp := cp) (L := L) (st := st)
  have ev2 := fun {cm cp : Nat} {L : zL} {st : List Value} => evR (X := X) (d := d) (by omega) u1 (cm := cm) (cp := cp) (L := L) (st := st)
  refine pair_q (v := r.toInt) hI (S1 := S1) (S2 := S2) ?_ w2 w3 ?_ (FrQm.th.tr u2)
  · show z_ev X d (121, 0, [some (.ref 4)], [], mk S) = _
    rw [show vI r.toInt = some (.int r) from by unfold vI; rw [i_toInt]]
    simp (disch := first | omega | assumption | exact b01_rng _ | exact st_5 | exact st_12 | exact st_19 | (simp only [isSt_sI, isSt_sJ, isSt_sF, isSt_sG, isSt_sA]; assumption)) only [↓B121_0, ↓B121_8, ↓o_4, ↓r_4_0, ↓o_4, ev1, i_lit, i_add, i_sub, i_mul, i_neg, i_lt, i_le, i_eq, i32_gI, i64_gJ, i32_id, i32_to, i64_to, sI_i32, sJ_i64, b01_t, b01_f, i32_b01, b01_0, ↓a_s0, ↓n_s0, ↓a_s1, ↓n_s1, Int.add_zero, t_lt, f_lt, t_le, f_le, t_eq, f_eq, true_and, and_true, false_and, and_false, and_self, ↓reduceIte, z_bool_of, or_true, true_or, or_false, false_or, Int.neg_neg, not_true_eq_false, not_false_eq_true, lg_lt, lg_le, lg_gt, lg_ge, lg_eq, j_lit, j_add, j_sub, j_mul, j_neg, j_eq, i64_id, ij, ji, z_rt, Nat.reduceEqDiff, Nat.reduceAdd, Int.reduceAdd, Int.reduceSub, Int.reduceMul, Int.reduceNeg, Int.reduceLT, Int.reduceLE, Int.reduceEq]
  · show z_ev X d (242, 0, [some (.ref 72)], [], mk S1) = _
    rw [show vI r.toInt = some (.int r) from by unfold vI; rw [i_toInt]]
    simp (disch := first | omega | assumption | exact b01_rng _ | exact st_5 | exact st_12 | exact st_19 | (simp only [isSt_sI, isSt_sJ, isSt_sF, isSt_sG, isSt_sA]; assumption)) only [↓B242_0, ↓B242_9, ↓o_72, ↓w_72_0, ↓o_72, ev2, i_lit, i_add, i_sub, i_mul, i_neg, i_lt, i_le, i_eq, i32_gI, i64_gJ, i32_id, i32_to, i64_to, sI_i32, sJ_i64, b01_t, b01_f, i32_b01, b01_0, ↓a_s0, ↓n_s0, ↓a_s1, ↓n_s1, Int.add_zero, t_lt, f_lt, t_le, f_le, t_eq, f_eq, true_and, and_true, false_and, and_false, and_self, ↓reduceIte, z_bool_of, or_true, true_or, or_false, false_or, Int.neg_neg, not_true_eq_false, not_false_eq_true, lg_lt, lg_le, lg_gt, lg_ge, lg_eq, j_lit, j_add, j_sub, j_mul, j_neg, j_eq, i64_id, ij, ji, z_rt, Nat.reduceEqDiff, Nat.reduceAdd, Int.reduceAdd, Int.reduceSub, Int.reduceMul, Int.reduceNeg, Int.reduceLT, Int.reduceLE, Int.reduceEq]
end
