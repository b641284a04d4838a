/-! best in pairs -/
theorem cd_get : ∀ (vs : List Int) (i : Nat) (v A : Int) (m : Nat), vs[i]? = some v → (∀ v ∈ vs, 0 ≤ v ∧ v ≤ 2) → (A * 4 ^ (vs.length + m) + cd vs * 4 ^ m) / 4 ^ (m + (vs.length - 1 - i)) % 4 = v := by
  intro vs
  induction vs with
  | nil => intro i v A m h _; cases h
  | cons a r ih =>
    intro i v A m h hb
    have hr := fun u hu => hb u (List.mem_cons_of_mem a hu)
    have ha := hb a (List.mem_cons_self ..)
    have hc := cd_b r hr
    have e : A * 4 ^ ((a :: r).length + m) + cd (a :: r) * 4 ^ m = (A * 4 + a) * 4 ^ (r.length + m) + cd r * 4 ^ m := by
      show A * 4 ^ (r.length + 1 + m) + (a * 4 ^ r.length + cd r) * 4 ^ m = _
      rw [show r.length + 1 + m = r.length + m + 1 by omega, Int.pow_succ, Int.add_mul, Int.add_mul, Int.pow_add, Int.mul_assoc a, Int.mul_assoc A 4, Int.mul_comm 4]
      omega
    rw [e]
    cases i with
    | zero =>
      have hv : a = v := Option.some.inj h
      subst hv
      have e2 : m + ((a :: r).length - 1 - 0) = r.length + m := by
        show m + (r.length + 1 - 1 - 0) = _; omega
      rw [e2]
      have hp := p4 (r.length + m)
      have hm := p4 m
      have h1 : 0 ≤ cd r * 4 ^ m := Int.mul_nonneg hc.1 (by omega)
      have h2 : cd r * 4 ^ m < 4 ^ (r.length + m) := by
        rw [Int.pow_add]
        exact Int.mul_lt_mul_of_pos_right hc.2 hm
      rw [Int.add_comm, Int.add_mul_ediv_right _ _ (by omega), Int.ediv_eq_zero_of_lt h1 h2]
      omega
    | succ i =>
      have h' : r[i]? = some v := h
      have := ih i v (A * 4 + a) m h' hr
      have hil := (List.getElem?_eq_some_iff.mp h').1
      rw [show m + ((a :: r).length - 1 - (i + 1)) = m + (r.length - 1 - i) by show m + (r.length + 1 - 1 - (i + 1)) = _; omega]
      exact this
theorem e61 {X : zX} {d : Nat} (hd : 0 ≤ d) {S : zS} (v i : Int) (hv : 0 ≤ v ∧ v < 1152921504606846976) (hi : 0 ≤ i ∧ i < 20) : z_ev X d (z_entry 61 [.long (Int64.ofInt v), .int (Int32.ofInt i)] (mk S)) = some (some (.int (Int32.ofInt (v / 4 ^ (19 - i).toNat % 4))), mk S) := by
  show z_ev X d (61, 0, [some (.long (Int64.ofInt v)), none, some (.int (Int32.ofInt i))], [], mk S) = _
  obtain ⟨k, hk⟩ : ∃ k : Nat, 2 * (19 - i) = k := ⟨(2 * (19 - i)).toNat, by omega⟩
  have e4 : (4 : Int) ^ (19 - i).toNat = 2 ^ k := by
    rw [show k = 2 * (19 - i).toNat by omega, Int.pow_mul]; rfl
  rw [e4]
  have s1 := shr_j (u := v) (k := k) hv.1 (by omega) (by omega)
  have s2 := and3 (z := v / 2 ^ k) (Int.ediv_nonneg hv.1 (Int.le_of_lt (Int.pow_pos (by decide))))
  simp (disch := first | omega | assumption | exact b01_rng _ | exact st_5 | exact st_12 | exact st_19 | (simp only [isSt_sI, isSt_sJ, isSt_sF, isSt_sG, isSt_sA]; assumption)) only [↓B61_0, i_lit, i_add, i_sub, i_mul, i_neg, i_lt, i_le, i_eq, i32_gI, i64_gJ, i32_id, i32_to, i64_to, sI_i32, sJ_i64, b01_t, b01_f, i32_b01, b01_0, ↓a_s0, ↓n_s0, ↓a_s1, ↓n_s1, Int.add_zero, t_lt, f_lt, t_le, f_le, t_eq, f_eq, true_and, and_true, false_and, and_false, and_self, ↓reduceIte, z_bool_of, or_true, true_or, or_false, false_or, Int.neg_neg, not_true_eq_false, not_false_eq_true, lg_lt, lg_le, lg_gt, lg_ge, lg_eq, j_lit, j_add, j_sub, j_mul, j_neg, j_eq, i64_id, ij, ji, z_rt, Nat.reduceEqDiff, Nat.reduceAdd, Int.reduceAdd, Int.reduceSub, Int.reduceMul, Int.reduceNeg, Int.reduceLT, Int.reduceLE, Int.reduceEq, hk, s1, s2]
theorem c61 {X : zX} {d : Nat} (hd : 0 < d) {S : zS} (v i : Int) (hv : 0 ≤ v ∧ v < 1152921504606846976) (hi : 0 ≤ i ∧ i < 20) {cm cp : Nat} {L : zL} {st : List Value} : z_evc X d 61 [.long (Int64.ofInt v), .int (Int32.ofInt i)] (cm, cp, L, st, mk S) = z_ev X d (cm, cp, L, .int (Int32.ofInt (v / 4 ^ (19 - i).toNat % 4)) :: st, mk S) := z_evc_of (r := (some (.int (Int32.ofInt (v / 4 ^ (19 - i).toNat % 4))), mk S)) (ck := (cm, cp, L, st, mk S)) hd (e61 (X := X) (Nat.le_refl _) v i hv hi)
/-- the class's best reading is the reference's -/
theorem same_best {cls : List Cl} {g : Int → Int} (hg : 0 ≤ g 0 ∧ g 0 ≤ 20) {A : Lg} {v l far : Int} (h1 : Mn 1152921504606846976 (Rd (LnH 0 cls g) A 0) (ct (fC 0 cls g) 0) v) (h2 : Mn far (Rd (LnH 0 cls g) A 0) (ct (fH 0 cls g) 0) l) (hv : v < 1152921504606846976) {pre : List Int} (p1 : Rd (LnH 0 cls g) A 0 pre) (p2 : ct (fH 0 cls g) 0 pre = l) (p3 : ∀ us, Rd (LnH 0 cls g) A 0 us → ct (fH 0 cls g) 0 us = l → lxl pre us) : v / 1099511627776 = l ∧ ∀ i : Int, 0 ≤ i → i < g 0 → ∃ w, pre[i.toNat]? = some w ∧ v / 4 ^ (19 - i).toNat % 4 = w ∧ 0 ≤ w ∧ w ≤ 2 := by
  obtain ⟨k1, k2, vs, k3, k4, k5, k6⟩ := best_C hg h1 h2 hv
  obtain ⟨a1, a2, a3⟩ := Rd_facts (by omega) k3
  obtain ⟨b1, b2, b3⟩ := Rd_facts (by omega) p1
  have hl : pre.length = vs.length := by omega
  have c1 := lxl_cd pre vs hl b3 a3 (p3 vs k3 k4)
  have c2 := k6 pre p1 p2
  have e : pre = vs := cd_inj pre vs hl b3 a3 (by omega)
  subst e
  refine ⟨k2, fun i q1 q2 => ?_⟩
  have hi : i.toNat < pre.length := by omega
  have e1 := List.getElem?_eq_getElem hi
  refine ⟨pre[i.toNat], e1, ?_, a3 _ (List.getElem_mem hi)⟩
  have := cd_get pre i.toNat _ l (20 - g 0).toNat e1 a3
  rw [show pre.length + (20 - g 0).toNat = 20 by omega, show (4 : Int) ^ 20 = 1099511627776 from rfl, show (20 - g 0).toNat + (pre.length - 1 - i.toNat) = (19 - i).toNat by omega, ← k5] at this
  exact this
section
variable {X : zX} {S : zS} {d : Nat}
/-- the reference reads a metre's best -/
theorem best_ref {S : zS} {cls : List Cl} (hQ : RefQ S cls) {m : Int} (hm : 0 ≤ m ∧ m < 6) {x : T3} (hX : MtR (gI S 74) (80 + 402 * m) x) : ∃ S1 : zS, z_ev X 20 (z_entry 228 [.ref 72, .int (Int32.ofInt m), .int (Int32.ofInt 0)] (mk S)) = some (vI (if gI S1 104 0 < 100000000 then gI S1 104 0 else -1), mk S1) ∧ FrQm S S1 ∧ (0 ≤ gI S1 104 0 ∧ gI S1 104 0 ≤ 100000000) ∧ Mn 100000000 (Rd (LnH 0 cls (gI S 74)) x.1 0) (ct (fH 0 cls (gI S 74)) 0) (gI S1 104 0) ∧ (gI S1 104 0 < 100000000 → ∃ (S2 : zS) (pre : List Int), z_ev X 20 (z_entry 232 [.ref 72] (mk S1)) = some (none, mk S2) ∧ FrRb S1 S2 ∧ Rd (LnH 0 cls (gI S 74)) x.1 0 pre ∧ ct (fH 0 cls (gI S 74)) 0 pre = gI S1 104 0 ∧ (∀ us, Rd (LnH 0 cls (gI S 74)) x.1 0 us → ct (fH 0 cls (gI S 74)) 0 us = gI S1 104 0 → lxl pre us) ∧ ∀ (j : Nat) (v : Int), pre[j]? = some v → gI S2 107 j = v) := by
  obtain ⟨S1, u1, u2, u3, u4, u5⟩ := x228 (X := X) (d := 20) (cls := cls) (how := 0) (by omega) (by omega) hQ hm hX
  obtain ⟨p1, p2⟩ := LfR.beg u3 u5 hQ.1.1.1
  refine ⟨S1, u1, u2, p1, p2, fun hl => ?_⟩
  obtain ⟨S2, pre, v1, v2, v3, v4, v5, v6⟩ := x232 (X := X) (d := 20) (by omega) (PrB_R (how := 0) hQ.1 hQ.2.2.2.1.1) hQ.1.1 (n := x.2.1) (by have := u3.2.1; omega) u4 u5 hl
  rw [u3.2.2.2.2.1] at v3 v5
  exact ⟨S2, pre, v1, v2, v3, v4, v5, v6⟩
/-- the class's part -/
theorem x116 {m i v : Int} {S2 : zS} (hi : r32 i) (hd : 100 < d) (hI : Inv PM QL S) (hi2 : i = -1 ∨ (0 ≤ i ∧ i < gI S 74 0)) (h1 : z_ev X 30 (z_entry 139 [.ref 4, .int (Int32.ofInt m), .int (Int32.ofInt (gI S 74 4))] (mk S)) = some (some (.long (Int64.ofInt v)), mk S2)) (hv : 0 ≤ v ∧ v ≤ 1152921504606846976) : z_ev X d (z_entry 116 [.ref 4, .int (Int32.ofInt m), .int (Int32.ofInt i)] (mk S)) = some (vI (if v < 1152921504606846976 then (if i = -1 then v / 1099511627776 else v / 4 ^ (19 - i).toNat % 4) else -1), mk S2) := by
  obtain ⟨s1, s2, s3⟩ := hI.1.1
  obtain ⟨f1, f2, f3⟩ := hI.1.2.2.2.2.1
  have ev1 := fun {cm cp : Nat} {L : zL} {st : List Value} => evJ (X := X) (d := d) (by omega) h1 (cm := cm) (cp := cp) (L := L) (st := st)
  have ent : z_ev X d (z_entry 116 [.ref 4, .int (Int32.ofInt m), .int (Int32.ofInt i)] (mk S)) = z_ev X d (116, 18, [some (.ref 4), some (.int (Int32.ofInt m)), some (.int (Int32.ofInt i)), none, none], [], mk S) := by
    show z_ev X d (116, 0, [some (.ref 4), some (.int (Int32.ofInt m)), some (.int (Int32.ofInt i)), none, none], [], mk S) = _
    by_cases q : i = -1
    · subst q
      simp (disch := first | omega | assumption | exact b01_rng _ | exact st_5 | exact st_12 | exact st_19 | (simp only [isSt_sI, isSt_sJ, isSt_sF, isSt_sG, isSt_sA]; assumption)) only [↓B116_0, i_lit, i_add, i_sub, i_mul, i_neg, i_lt, i_le, i_eq, i32_gI, i64_gJ, i32_id, i32_to, i64_to, sI_i32, sJ_i64, b01_t, b01_f, i32_b01, b01_0, ↓a_s0, ↓n_s0, ↓a_s1, ↓n_s1, Int.add_zero, t_lt, f_lt, t_le, f_le, t_eq, f_eq, true_and, and_true, false_and, and_false, and_self, ↓reduceIte, z_bool_of, or_true, true_or, or_false, false_or, Int.neg_neg, not_true_eq_false, not_false_eq_true, lg_lt, lg_le, lg_gt, lg_ge, lg_eq, j_lit, j_add, j_sub, j_mul, j_neg, j_eq, i64_id, ij, ji, z_rt, Nat.reduceEqDiff, Nat.reduceAdd, Int.reduceAdd, Int.reduceSub, Int.reduceMul, Int.reduceNeg, Int.reduceLT, Int.reduceLE, Int.reduceEq]
    · have c66' := fun {cm cp : Nat} {L : zL} {st : List Value} => c66 (X := X) (d := d) (by omega) (cm := cm) (cp := cp) (L := L) (st := st) (S := S) (s := 5) i st_5 hi (by omega)
      rw [s1, show b01 (0 ≤ i ∧ i < gI S 74 0) = 1 from if_pos (by omega)] at c66'
      simp (disch := first | omega | assumption | exact b01_rng _ | exact st_5 | exact st_12 | exact st_19 | (simp only [isSt_sI, isSt_sJ, isSt_sF, isSt_sG, isSt_sA]; assumption)) only [↓B116_0, ↓B116_5, ↓B116_13, ↓o_19, ↓o_4, ↓o_5, ↓r_19_10, ↓r_4_0, ↓r_5_10, ↓o_5, c66', i_lit, i_add, i_sub, i_mul, i_neg, i_lt, i_le, i_eq, i32_gI, i64_gJ, i32_id, i32_to, i64_to, sI_i32, sJ_i64, b01_t, b01_f, i32_b01, b01_0, ↓a_s0, ↓n_s0, ↓a_s1, ↓n_s1, Int.add_zero, t_lt, f_lt, t_le, f_le, t_eq, f_eq, true_and, and_true, false_and, and_false, and_self, ↓reduceIte, z_bool_of, or_true, true_or, or_false, false_or, Int.neg_neg, not_true_eq_false, not_false_eq_true, lg_lt, lg_le, lg_gt, lg_ge, lg_eq, j_lit, j_add, j_sub, j_mul, j_neg, j_eq, i64_id, ij, ji, z_rt, Nat.reduceEqDiff, Nat.reduceAdd, Int.reduceAdd, Int.reduceSub, Int.reduceMul, Int.reduceNeg, Int.reduceLT, Int.reduceLE, Int.reduceEq, q]
  rw [ent]
  by_cases w : v < 1152921504606846976
  · rw [if_pos w]
    by_cases q : i = -1
    · subst q
      have c60' := fun {cm cp : Nat} {L : zL} {st : List Value} => c60 (X := X) (d := d) (by omega) (cm := cm) (cp := cp) (L := L) (st := st) (S := S2) v ⟨hv.1, w⟩
      rw [if_pos rfl]
      simp (disch := first | omega | assumption | exact b01_rng _ | exact st_5 | exact st_12 | exact st_19 | (simp only [isSt_sI, isSt_sJ, isSt_sF, isSt_sG, isSt_sA]; assumption)) only [↓B116_18, ↓B116_30, ↓B116_41, ↓B116_46, ↓B116_50, ↓B116_58, ↓o_19, ↓o_4, ↓o_5, ↓r_19_10, ↓r_4_0, ↓r_5_10, ↓o_4, ↓o_5, ↓r_5_10, f1, ev1, c60', i_lit, i_add, i_sub, i_mul, i_neg, i_lt, i_le, i_eq, i32_gI, i64_gJ, i32_id, i32_to, i64_to, sI_i32, sJ_i64, b01_t, b01_f, i32_b01, b01_0, ↓a_s0, ↓n_s0, ↓a_s1, ↓n_s1, Int.add_zero, t_lt, f_lt, t_le, f_le, t_eq, f_eq, true_and, and_true, false_and, and_false, and_self, ↓reduceIte, z_bool_of, or_true, true_or, or_false, false_or, Int.neg_neg, not_true_eq_false, not_false_eq_true, lg_lt, lg_le, lg_gt, lg_ge, lg_eq, j_lit, j_add, j_sub, j_mul, j_neg, j_eq, i64_id, ij, ji, z_rt, Nat.reduceEqDiff, Nat.reduceAdd, Int.reduceAdd, Int.reduceSub, Int.reduceMul, Int.reduceNeg, Int.reduceLT, Int.reduceLE, Int.reduceEq]
    · have c61' := fun {cm cp : Nat} {L : zL} {st : List Value} => c61 (X := X) (d := d) (by omega) (cm := cm) (cp := cp) (L := L) (st := st) (S := S2) v i ⟨hv.1, w⟩ (by omega)
      rw [if_neg q]
      simp (disch := first | omega | assumption | exact b01_rng _ | exact st_5 | exact st_12 | exact st_19 | (simp only [isSt_sI, isSt_sJ, isSt_sF, isSt_sG, isSt_sA]; assumption)) only [↓B116_18, ↓B116_30, ↓B116_41, ↓B116_53, ↓B116_58, ↓o_19, ↓o_4, ↓o_5, ↓r_19_10, ↓r_4_0, ↓r_5_10, ↓o_4, ↓o_5, ↓r_5_10, f1, ev1, c61', i_lit, i_add, i_sub, i_mul, i_neg, i_lt, i_le, i_eq, i32_gI, i64_gJ, i32_id, i32_to, i64_to, sI_i32, sJ_i64, b01_t, b01_f, i32_b01, b01_0, ↓a_s0, ↓n_s0, ↓a_s1, ↓n_s1, Int.add_zero, t_lt, f_lt, t_le, f_le, t_eq, f_eq, true_and, and_true, false_and, and_false, and_self, ↓reduceIte, z_bool_of, or_true, true_or, or_false, false_or, Int.neg_neg, not_true_eq_false, not_false_eq_true, lg_lt, lg_le, lg_gt, lg_ge, lg_eq, j_lit, j_add, j_sub, j_mul, j_neg, j_eq, i64_id, ij, ji, z_rt, Nat.reduceEqDiff, Nat.reduceAdd, Int.reduceAdd, Int.reduceSub, Int.reduceMul, Int.reduceNeg, Int.reduceLT, Int.reduceLE, Int.reduceEq, q]
  · rw [if_neg w]
    simp (disch := first | omega | assumption | exact b01_rng _ | exact st_5 | exact st_12 | exact st_19 | (simp only [isSt_sI, isSt_sJ, isSt_sF, isSt_sG, isSt_sA]; assumption)) only [↓B116_18, ↓B116_30, ↓B116_39, ↓o_19, ↓o_4, ↓o_5, ↓r_19_10, ↓r_4_0, ↓r_5_10, ↓o_4, ↓o_5, ↓r_5_10, f1, ev1, i_lit, i_add, i_sub, i_mul, i_neg, i_lt, i_le, i_eq, i32_gI, i64_gJ, i32_id, i32_to, i64_to, sI_i32, sJ_i64, b01_t, b01_f, i32_b01, b01_0, ↓a_s0, ↓n_s0, ↓a_s1, ↓n_s1, Int.add_zero, t_lt, f_lt, t_le, f_le, t_eq, f_eq, true_and, and_true, false_and, and_false, and_self, ↓reduceIte, z_bool_of, or_true, true_or, or_false, false_or, Int.neg_neg, not_true_eq_false, not_false_eq_true, lg_lt, lg_le, lg_gt, lg_ge, lg_eq, j_lit, j_add, j_sub, j_mul, j_neg, j_eq, i64_id, ij, ji, z_rt, Nat.reduceEqDiff, Nat.reduceAdd, Int.reduceAdd, Int.reduceSub, Int.reduceMul, Int.reduceNeg, Int.reduceLT, Int.reduceLE, Int.reduceEq]
theorem p_best {m i : Int} (hm : r32 m) (hi : r32 i) (hd : 200 ≤ d) (hI : Inv PM QL S) : PairAt PM QL X 116 234 [.int (Int32.ofInt m), .int (Int32.ofInt i)] S d := by
  obtain ⟨s1, s2, s3⟩ := hI.1.1
  obtain ⟨b1, b2, b3⟩ := hI.1.2.1
  obtain ⟨f1, f2, f3⟩ := hI.1.2.2.2.2.1
  have eM : gI (sI S 72 0 0) 74 = gI S 74 := funext fun i => by rw [gI_sI, if_neg (by omega)]
  have c162' := fun (T : zS) (hT : gI T 74 = gI S 74) {cm cp : Nat} {L : zL} {st : List Value} => c162 (X := X) (d := d) (by omega) (cm := cm) (cp := cp) (L := L) (st := st) (S := T) i hi (by rw [hT]; omega)
  have c163' := fun (T : zS) (hT : gI T 74 = gI S 74) {cm cp : Nat} {L : zL} {st : List Value} => c163 (X := X) (d := d) (by omega) (cm := cm) (cp := cp) (L := L) (st := st) (S := T) m hm (by rw [hT]; omega)
  by_cases q : i = -1 ∨ (0 ≤ i ∧ i < gI S 74 0)
  · -- the reference's way to leastOf
    have refl : ∀ T : zS, gI (sI T 72 0 0) 74 = gI S 74 → (0 ≤ m ∧ m < gI S 74 1) → z_ev X d (z_entry 234 [.ref 72, .int (Int32.ofInt m), .int (Int32.ofInt i)] (mk T)) = z_ev X d (234, 28, [some (.ref 72), some (.int (Int32.ofInt m)), some (.int (Int32.ofInt i)), none], [], mk (sI T 72 0 0)) := fun T hT q2 => by
      have cB := fun {cm cp : Nat} {L : zL} {st : List Value} => c163' (sI T 72 0 0) hT (cm := cm) (cp := cp) (L := L) (st := st)
      rw [hT, show b01 (0 ≤ m ∧ m < gI S 74 1) = 1 from if_pos q2] at cB
      show z_ev X d (234, 0, [some (.ref 72), some (.int (Int32.ofInt m)), some (.int (Int32.ofInt i)), none], [], mk T) = _
      by_cases q3 : i = -1
      · subst q3
        simp (disch := first | omega | assumption | exact b01_rng _ | exact st_5 | exact st_12 | exact st_19 | (simp only [isSt_sI, isSt_sJ, isSt_sF, isSt_sG, isSt_sA]; assumption)) only [↓B234_0, ↓B234_10, ↓B234_13, ↓a_107, ↓n_107, ↓o_72, ↓r_72_59, ↓s_107, ↓w_72_0, ↓o_72, cB, i_lit, i_add, i_sub, i_mul, i_neg, i_lt, i_le, i_eq, i32_gI, i64_gJ, i32_id, i32_to, i64_to, sI_i32, sJ_i64, b01_t, b01_f, i32_b01, b01_0, ↓a_s0, ↓n_s0, ↓a_s1, ↓n_s1, Int.add_zero, t_lt, f_lt, t_le, f_le, t_eq, f_eq, true_and, and_true, false_and, and_false, and_self, ↓reduceIte, z_bool_of, or_true, true_or, or_false, false_or, Int.neg_neg, not_true_eq_false, not_false_eq_true, lg_lt, lg_le, lg_gt, lg_ge, lg_eq, j_lit, j_add, j_sub, j_mul, j_neg, j_eq, i64_id, ij, ji, z_rt, Nat.reduceEqDiff, Nat.reduceAdd, Int.reduceAdd, Int.reduceSub, Int.reduceMul, Int.reduceNeg, Int.reduceLT, Int.reduceLE, Int.reduceEq]
      · have cA := fun {cm cp : Nat} {L : zL} {st : List Value} => c162' (sI T 72 0 0) hT (cm := cm) (cp := cp) (L := L) (st := st)
        rw [hT, show b01 (0 ≤ i ∧ i < gI S 74 0) = 1 from if_pos (by omega)] at cA
        simp (disch := first | omega | assumption | exact b01_rng _ | exact st_5 | exact st_12 | exact st_19 | (simp only [isSt_sI, isSt_sJ, isSt_sF, isSt_sG, isSt_sA]; assumption)) only [↓B234_0, ↓B234_10, ↓B234_13, ↓B234_18, ↓B234_23, ↓a_107, ↓n_107, ↓o_72, ↓r_72_59, ↓s_107, ↓w_72_0, ↓o_72, cA, cB, i_lit, i_add, i_sub, i_mul, i_neg, i_lt, i_le, i_eq, i32_gI, i64_gJ, i32_id, i32_to, i64_to, sI_i32, sJ_i64, b01_t, b01_f, i32_b01, b01_0, ↓a_s0, ↓n_s0, ↓a_s1, ↓n_s1, Int.add_zero, t_lt, f_lt, t_le, f_le, t_eq, f_eq, true_and, and_true, false_and, and_false, and_self, ↓reduceIte, z_bool_of, or_true, true_or, or_false, false_or, Int.neg_neg, not_true_eq_false, not_false_eq_true, lg_lt, lg_le, lg_gt, lg_ge, lg_eq, j_lit, j_add, j_sub, j_mul, j_neg, j_eq, i64_id, ij, ji, z_rt, Nat.reduceEqDiff, Nat.reduceAdd, Int.reduceAdd, Int.reduceSub, Int.reduceMul, Int.reduceNeg, Int.reduceLT, Int.reduceLE, Int.reduceEq, q3]
    by_cases q2 : 0 ≤ m ∧ m < gI S 74 1
    · obtain ⟨a, x, e1, e2, e3⟩ := hI.1.met q2
      obtain ⟨o, cls, l1, l2, l3⟩ := hI.1.law st_5 (k := gI S 74 4) (by omega)
      obtain ⟨S2, v, w1, w2, w3, w4, w5⟩ := x139 (X := X) (d := 30) q2 (by omega) hI l1 l2 (l3 (by omega)) e1 e2
      have r1 := x116 (X := X) (d := d) hi (by omega) hI q w1 w4
      have hQ := ((RefQ.mk hI l2).c w2).fr (FrQm.th (S := S2))
      have g2 : gI (sI S2 72 0 0) 74 = gI S 74 := by rw [(FrQm.th (S := S2)).g, w2.g]
      obtain ⟨S3, u1, u2, u3, u4, u5⟩ := best_ref (X := X) hQ (m := m) (by omega) (x := x) (by rw [g2]; exact e3)
      rw [g2] at u4 u5
      have ev2 := fun {cm cp : Nat} {L : zL} {st : List Value} => evI (X := X) (d := d) (by omega) u1 (cm := cm) (cp := cp) (L := L) (st := st)
      have hlt : v < 1152921504606846976 ↔ gI S3 104 0 < 100000000 := by rw [w5.lt, u4.lt]
      by_cases z : v < 1152921504606846976
      · have zl := hlt.mp z
        obtain ⟨S4, pre, t1, t2, t3, t4, t5, t6⟩ := u5 zl
        obtain ⟨k1, k2⟩ := same_best hI.1.gb.1 w5 u4 z t3 t4 t5
        rw [if_pos zl] at ev2
        rw [if_pos z] at r1
        by_cases q3 : i = -1
        · rw [if_pos q3, k1] at r1
          refine pair_q hI (S1 := S2) (S2 := S3) r1 w2 w3 ?_ (FrQm.th.tr u2)
          have hn1 : ¬ gI S3 104 0 = -1 := by omega
          rw [refl S2 g2 q2]
          subst q3
          simp (disch := first | omega | assumption | exact b01_rng _ | exact st_5 | exact st_12 | exact st_19 | (simp only [isSt_sI, isSt_sJ, isSt_sF, isSt_sG, isSt_sA]; assumption)) only [↓B234_28, ↓B234_34, ↓B234_40, ↓B234_45, ↓o_72, ev2, i_lit, i_add, i_sub, i_mul, i_neg, i_lt, i_le, i_eq, i32_gI, i64_gJ, i32_id, i32_to, i64_to, sI_i32, sJ_i64, b01_t, b01_f, i32_b01, b01_0, ↓a_s0, ↓n_s0, ↓a_s1, ↓n_s1, Int.add_zero, t_lt, f_lt, t_le, f_le, t_eq, f_eq, true_and, and_true, false_and, and_false, and_self, ↓reduceIte, z_bool_of, or_true, true_or, or_false, false_or, Int.neg_neg, not_true_eq_false, not_false_eq_true, lg_lt, lg_le, lg_gt, lg_ge, lg_eq, j_lit, j_add, j_sub, j_mul, j_neg, j_eq, i64_id, ij, ji, z_rt, Nat.reduceEqDiff, Nat.reduceAdd, Int.reduceAdd, Int.reduceSub, Int.reduceMul, Int.reduceNeg, Int.reduceLT, Int.reduceLE, Int.reduceEq, hn1]
        · rw [if_neg q3] at r1
          have ev3 := fun {cm cp : Nat} {L : zL} {st : List Value} => evV (X := X) (d := d) (by omega) t1 (cm := cm) (cp := cp) (L := L) (st := st)
          obtain ⟨w', j1, j2, j3⟩ := k2 i (by omega) (by omega)
          have j4 := t6 i.toNat w' j1
          rw [show ((i.toNat : Nat) : Int) = i by omega] at j4
          rw [j2] at r1
          refine pair_q hI (S1 := S2) (S2 := S4) r1 w2 w3 ?_ ((FrQm.th.tr u2).tr t2.q)
          have hn1 : ¬ gI S3 104 0 = -1 := by omega
          rw [refl S2 g2 q2]
          simp (disch := first | omega | assumption | exact b01_rng _ | exact st_5 | exact st_12 | exact st_19 | (simp only [isSt_sI, isSt_sJ, isSt_sF, isSt_sG, isSt_sA]; assumption)) only [↓B234_28, ↓B234_34, ↓B234_40, ↓B234_47, ↓B234_51, ↓a_107, ↓n_107, ↓o_72, ↓r_72_59, ↓s_107, ↓w_72_0, ↓o_72, ev2, ev3, i_lit, i_add, i_sub, i_mul, i_neg, i_lt, i_le, i_eq, i32_gI, i64_gJ, i32_id, i32_to, i64_to, sI_i32, sJ_i64, b01_t, b01_f, i32_b01, b01_0, ↓a_s0, ↓n_s0, ↓a_s1, ↓n_s1, Int.add_zero, t_lt, f_lt, t_le, f_le, t_eq, f_eq, true_and, and_true, false_and, and_false, and_self, ↓reduceIte, z_bool_of, or_true, true_or, or_false, false_or, Int.neg_neg, not_true_eq_false, not_false_eq_true, lg_lt, lg_le, lg_gt, lg_ge, lg_eq, j_lit, j_add, j_sub, j_mul, j_neg, j_eq, i64_id, ij, ji, z_rt, Nat.reduceEqDiff, Nat.reduceAdd, Int.reduceAdd, Int.reduceSub, Int.reduceMul, Int.reduceNeg, Int.reduceLT, Int.reduceLE, Int.reduceEq, hn1, q3, j4]
      · have zl : ¬ gI S3 104 0 < 100000000 := fun y => z (hlt.mpr y)
        rw [if_neg zl] at ev2
        rw [if_neg z] at r1
        refine pair_q hI (S1 := S2) (S2 := S3) r1 w2 w3 ?_ (FrQm.th.tr u2)
        rw [refl S2 g2 q2]
        simp (disch := first | omega | assumption | exact b01_rng _ | exact st_5 | exact st_12 | exact st_19 | (simp only [isSt_sI, isSt_sJ, isSt_sF, isSt_sG, isSt_sA]; assumption)) only [↓B234_28, ↓B234_34, ↓B234_45, ↓o_72, ev2, i_lit, i_add, i_sub, i_mul, i_neg, i_lt, i_le, i_eq, i32_gI, i64_gJ, i32_id, i32_to, i64_to, sI_i32, sJ_i64, b01_t, b01_f, i32_b01, b01_0, ↓a_s0, ↓n_s0, ↓a_s1, ↓n_s1, Int.add_zero, t_lt, f_lt, t_le, f_le, t_eq, f_eq, true_and, and_true, false_and, and_false, and_self, ↓reduceIte, z_bool_of, or_true, true_or, or_false, false_or, Int.neg_neg, not_true_eq_false, not_false_eq_true, lg_lt, lg_le, lg_gt, lg_ge, lg_eq, j_lit, j_add, j_sub, j_mul, j_neg, j_eq, i64_id, ij, ji, z_rt, Nat.reduceEqDiff, Nat.reduceAdd, Int.reduceAdd, Int.reduceSub, Int.reduceMul, Int.reduceNeg, Int.reduceLT, Int.reduceLE, Int.reduceEq]
    · have r1 := x116 (X := X) (d := d) hi (by omega) hI q (y139 (X := X) (d := 30) (c := gI S 74 4) hm q2 (by omega) hI) ⟨by omega, Int.le_refl _⟩
      rw [if_neg (by omega)] at r1
      have cB := fun {cm cp : Nat} {L : zL} {st : List Value} => c163' (sI S 72 0 0) eM (cm := cm) (cp := cp) (L := L) (st := st)
      rw [eM, show b01 (0 ≤ m ∧ m < gI S 74 1) = 0 from if_neg q2] at cB
      refine pair_q hI (S1 := S) (S2 := sI S 72 0 0) r1 FrQc.rf hI.fxc ?_ FrQm.th
      show z_ev X d (234, 0, [some (.ref 72), some (.int (Int32.ofInt m)), some (.int (Int32.ofInt i)), none], [], mk S) = _
      simp (disch := first | omega | assumption | exact b01_rng _ | exact st_5 | exact st_12 | exact st_19 | (simp only [isSt_sI, isSt_sJ, isSt_sF, isSt_sG, isSt_sA]; assumption)) only [↓B234_0, ↓B234_10, ↓B234_26, ↓a_107, ↓n_107, ↓o_72, ↓r_72_59, ↓s_107, ↓w_72_0, ↓o_72, cB, i_lit, i_add, i_sub, i_mul, i_neg, i_lt, i_le, i_eq, i32_gI, i64_gJ, i32_id, i32_to, i64_to, sI_i32, sJ_i64, b01_t, b01_f, i32_b01, b01_0, ↓a_s0, ↓n_s0, ↓a_s1, ↓n_s1, Int.add_zero, t_lt, f_lt, t_le, f_le, t_eq, f_eq, true_and, and_true, false_and, and_false, and_self, ↓reduceIte, z_bool_of, or_true, true_or, or_false, false_or, Int.neg_neg, not_true_eq_false, not_false_eq_true, lg_lt, lg_le, lg_gt, lg_ge, lg_eq, j_lit, j_add, j_sub, j_mul, j_neg, j_eq, i64_id, ij, ji, z_rt, Nat.reduceEqDiff, Nat.reduceAdd, Int.reduceAdd, Int.reduceSub, Int.reduceMul, Int.reduceNeg, Int.reduceLT, Int.reduceLE, Int.reduceEq]
  · have q3 : ¬ i = -1 := fun z => q (Or.inl z)
    have q4 : ¬ (0 ≤ i ∧ i < gI S 74 0) := fun z => q (Or.inr z)
    have c66' := fun {cm cp : Nat} {L : zL} {st : List Value} => c66 (X := X) (d := d) (by omega) (cm := cm) (cp := cp) (L := L) (st := st) (S := S) (s := 5) i st_5 hi (by omega)
    rw [s1, show b01 (0 ≤ i ∧ i < gI S 74 0) = 0 from if_neg q4] at c66'
    have cA := fun {cm cp : Nat} {L : zL} {st : List Value} => c162' (sI S 72 0 0) eM (cm := cm) (cp := cp) (L := L) (st := st)
    rw [eM, show b01 (0 ≤ i ∧ i < gI S 74 0) = 0 from if_neg q4] at cA
    refine pair_q (v := -1) hI (S1 := S) (S2 := sI S 72 0 0) ?_ FrQc.rf hI.fxc ?_ FrQm.th
    · show z_ev X d (116, 0, [some (.ref 4), some (.int (Int32.ofInt m)), some (.int (Int32.ofInt i)), none, none], [], mk S) = _
      simp (disch := first | omega | assumption | exact b01_rng _ | exact st_5 | exact st_12 | exact st_19 | (simp only [isSt_sI, isSt_sJ, isSt_sF, isSt_sG, isSt_sA]; assumption)) only [↓B116_0, ↓B116_5, ↓B116_13, ↓B116_16, ↓o_19, ↓o_4, ↓o_5, ↓r_19_10, ↓r_4_0, ↓r_5_10, ↓o_5, c66', i_lit, i_add, i_sub, i_mul, i_neg, i_lt, i_le, i_eq, i32_gI, i64_gJ, i32_id, i32_to, i64_to, sI_i32, sJ_i64, b01_t, b01_f, i32_b01, b01_0, ↓a_s0, ↓n_s0, ↓a_s1, ↓n_s1, Int.add_zero, t_lt, f_lt, t_le, f_le, t_eq, f_eq, true_and, and_true, false_and, and_false, and_self, ↓reduceIte, z_bool_of, or_true, true_or, or_false, false_or, Int.neg_neg, not_true_eq_false, not_false_eq_true, lg_lt, lg_le, lg_gt, lg_ge, lg_eq, j_lit, j_add, j_sub, j_mul, j_neg, j_eq, i64_id, ij, ji, z_rt, Nat.reduceEqDiff, Nat.reduceAdd, Int.reduceAdd, Int.reduceSub, Int.reduceMul, Int.reduceNeg, Int.reduceLT, Int.reduceLE, Int.reduceEq, q3]
    · show z_ev X d (234, 0, [some (.ref 72), some (.int (Int32.ofInt m)), some (.int (Int32.ofInt i)), none], [], mk S) = _
      have cB := fun {cm cp : Nat} {L : zL} {st : List Value} => c163' (sI S 72 0 0) eM (cm := cm) (cp := cp) (L := L) (st := st)
      rw [eM] at cB
      by_cases q2 : 0 ≤ m ∧ m < gI S 74 1
      · rw [show b01 (0 ≤ m ∧ m < gI S 74 1) = 1 from if_pos q2] at cB
        simp (disch := first | omega | assumption | exact b01_rng _ | exact st_5 | exact st_12 | exact st_19 | (simp only [isSt_sI, isSt_sJ, isSt_sF, isSt_sG, isSt_sA]; assumption)) only [↓B234_0, ↓B234_10, ↓B234_13, ↓B234_18, ↓B234_23, ↓B234_26, ↓a_107, ↓n_107, ↓o_72, ↓r_72_59, ↓s_107, ↓w_72_0, ↓o_72, cA, cB, i_lit, i_add, i_sub, i_mul, i_neg, i_lt, i_le, i_eq, i32_gI, i64_gJ, i32_id, i32_to, i64_to, sI_i32, sJ_i64, b01_t, b01_f, i32_b01, b01_0, ↓a_s0, ↓n_s0, ↓a_s1, ↓n_s1, Int.add_zero, t_lt, f_lt, t_le, f_le, t_eq, f_eq, true_and, and_true, false_and, and_false, and_self, ↓reduceIte, z_bool_of, or_true, true_or, or_false, false_or, Int.neg_neg, not_true_eq_false, not_false_eq_true, lg_lt, lg_le, lg_gt, lg_ge, lg_eq, j_lit, j_add, j_sub, j_mul, j_neg, j_eq, i64_id, ij, ji, z_rt, Nat.reduceEqDiff, Nat.reduceAdd, Int.reduceAdd, Int.reduceSub, Int.reduceMul, Int.reduceNeg, Int.reduceLT, Int.reduceLE, Int.reduceEq, q3]
      · rw [show b01 (0 ≤ m ∧ m < gI S 74 1) = 0 from if_neg q2] at cB
        simp (disch := first | omega | assumption | exact b01_rng _ | exact st_5 | exact st_12 | exact st_19 | (simp only [isSt_sI, isSt_sJ, isSt_sF, isSt_sG, isSt_sA]; assumption)) only [↓B234_0, ↓B234_10, ↓B234_26, ↓a_107, ↓n_107, ↓o_72, ↓r_72_59, ↓s_107, ↓w_72_0, ↓o_72, cB, i_lit, i_add, i_sub, i_mul, i_neg, i_lt, i_le, i_eq, i32_gI, i64_gJ, i32_id, i32_to, i64_to, sI_i32, sJ_i64, b01_t, b01_f, i32_b01, b01_0, ↓a_s0, ↓n_s0, ↓a_s1, ↓n_s1, Int.add_zero, t_lt, f_lt, t_le, f_le, t_eq, f_eq, true_and, and_true, false_and, and_false, and_self, ↓reduceIte, z_bool_of, or_true, true_or, or_false, false_or, Int.neg_neg, not_true_eq_false, not_false_eq_true, lg_lt, lg_le, lg_gt, lg_ge, lg_eq, j_lit, j_add, j_sub, j_mul, j_neg, j_eq, i64_id, ij, ji, z_rt, Nat.reduceEqDiff, Nat.reduceAdd, Int.reduceAdd, Int.reduceSub, Int.reduceMul, Int.reduceNeg, Int.reduceLT, Int.reduceLE, Int.reduceEq]
end
