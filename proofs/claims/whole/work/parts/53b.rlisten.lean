/-! listen: the reference's part -/
section
variable {X : zX} {d : Nat} {cls : List Cl} {how : Int}
/-- leastOf, and that it leaves what was read of others -/
theorem x228k (hd : 9 < d) {S : zS} (hh : 0 ≤ how ∧ how ≤ 2) (hQ : RefQ S cls) {m : Int} (hm : 0 ≤ m ∧ m < 6) {x : T3} (hX : MtR (gI S 74) (80 + 402 * m) x) : ∃ S' : zS, z_ev X d (z_entry 228 [.ref 72, .int (Int32.ofInt m), .int (Int32.ofInt how)] (mk S)) = some (vI (if gI S' 104 0 < 100000000 then gI S' 104 0 else -1), mk S') ∧ FrQm S S' ∧ ((∀ i, gI S' 109 i = gI S 109 i) ∧ ∀ i, gJ S' 91 i = gJ S 91 i) ∧ LyR S' x ∧ Laid S' (LnH how cls (gI S 74)) (fH how cls (gI S 74)) x.2.1 ∧ LfR S' (LnH how cls (gI S 74)) (fH how cls (gI S 74)) x.2.1 (-1) x.2.1 := by
  obtain ⟨S1, a1, a2, a3⟩ := x220 (X := X) (d := 9) (by omega) hm hX
  have evA := fun {cm cp : Nat} {L : zL} {st : List Value} => evV (X := X) (d := d) hd a1 (cm := cm) (cp := cp) (L := L) (st := st)
  have hQ1 := hQ.fr a2.q
  have g1 := a2.q.g
  obtain ⟨q1, q2, q3, q4⟩ := hQ1
  obtain ⟨S2, b1, b2, b3⟩ := x223 (X := X) (d := 9) (cls := cls) (by omega) (S := S1) hh q1 q2 q3 q4
  have evB := fun {cm cp : Nat} {L : zL} {st : List Value} => evV (X := X) (d := d) hd b1 (cm := cm) (cp := cp) (L := L) (st := st)
  have g2 := b2.q.g
  rw [g1] at b3
  have hk := hQ.2.2.2.1.1
  obtain ⟨y1, y2, y3, y4, y5, y6⟩ := a3
  have k : ∀ b i, 99 ≤ b → b ≤ 102 → gI S2 b i = gI S1 b i := fun b i w1 w2 => b2.2.1 b i (by omega) (by omega)
  have hlaid : Laid S2 (LnH how cls (gI S 74)) (fH how cls (gI S 74)) x.2.1 := ⟨by rw [g2, g1], by rw [b2.2.1 72 51 (by omega) (by omega)]; exact y1, fun i w1 w2 => by rw [k 101 i (by omega) (by omega), k 102 i (by omega) (by omega), k 99 i (by omega) (by omega)]; exact y3 i w1 w2, fun s o w1 w2 w3 => by rw [k 100 _ (by omega) (by omega)]; exact y4 s o w1 w2 w3, PrS_R hk b3, CuR_R (by rw [g2, g1])⟩
  obtain ⟨S3, c1, c2, c3⟩ := x227 (X := X) (d := 9) (by omega) (PrB_R (how := how) hQ.1 hk) hQ.1.1 (n := x.2.1) (by omega) hlaid
  have evC := fun {cm cp : Nat} {L : zL} {st : List Value} => evI (X := X) (d := d) hd c1 (cm := cm) (cp := cp) (L := L) (st := st)
  have k3 : ∀ b i, 99 ≤ b → b ≤ 102 → gI S3 b i = gI S1 b i := fun b i w1 w2 => (c2.2.1 b i (by omega)).trans (k b i w1 w2)
  have hu : UA S3 x.2.1 = UA S1 x.2.1 := UA_cg (fun i => k3 99 i (by omega) (by omega)) (fun i => k3 100 i (by omega) (by omega)) (fun i => k3 102 i (by omega) (by omega))
  have hb := (c3 0 0 (by omega) (by omega) hQ.1.1.1 (Or.inl (by omega))).1
  rw [show (201 : Int) * 0 + 0 = 0 from rfl] at hb
  refine ⟨S3, ?_, (a2.q.tr b2.q).tr c2.q, ⟨fun i => (c2.2.1 109 i (by omega)).trans ((b2.2.1 109 i (by omega) (by omega)).trans (a2.2.1 109 i (by omega) (by omega) (by omega))), fun i => (c2.2.2.1 91 i).trans ((b2.2.2.1 91 i (by omega) (by omega) (by omega)).trans (a2.2.2.1 91 i))⟩, ⟨by rw [c2.2.1 72 51 (by omega), b2.2.1 72 51 (by omega) (by omega)]; exact y1, y2, fun i w1 w2 => by rw [k3 101 i (by omega) (by omega), k3 102 i (by omega) (by omega), k3 99 i (by omega) (by omega)]; exact y3 i w1 w2, fun s o w1 w2 w3 => by rw [k3 100 _ (by omega) (by omega)]; exact y4 s o w1 w2 w3, by rw [hu]; exact y5, by rw [hu]; exact y6⟩, hlaid.fr c2, c3⟩
  show z_ev X d (228, 0, [some (.ref 72), some (.int (Int32.ofInt m)), some (.int (Int32.ofInt how)), none], [], mk S) = _
  by_cases q : gI S3 104 0 < 100000000
  · rw [if_pos q]
    simp (disch := first | omega | assumption | exact b01_rng _ | exact st_5 | exact st_12 | exact st_19 | (simp only [isSt_sI, isSt_sJ, isSt_sF, isSt_sG, isSt_sA]; assumption)) only [↓B228_0, ↓B228_5, ↓B228_10, ↓B228_14, ↓B228_26, ↓B228_27, ↓o_72, evA, evB, evC, i_lit, i_add, i_sub, i_mul, i_neg, i_lt, i_le, i_eq, i32_gI, i64_gJ, i32_id, i32_to, i64_to, sI_i32, sJ_i64, b01_t, b01_f, i32_b01, b01_0, ↓a_s0, ↓n_s0, ↓a_s1, ↓n_s1, Int.add_zero, t_lt, f_lt, t_le, f_le, t_eq, f_eq, true_and, and_true, false_and, and_false, and_self, ↓reduceIte, z_bool_of, or_true, true_or, or_false, false_or, Int.neg_neg, not_true_eq_false, not_false_eq_true, lg_lt, lg_le, lg_gt, lg_ge, lg_eq, j_lit, j_add, j_sub, j_mul, j_neg, j_eq, i64_id, ij, ji, z_rt, Nat.reduceEqDiff, Nat.reduceAdd, Int.reduceAdd, Int.reduceSub, Int.reduceMul, Int.reduceNeg, Int.reduceLT, Int.reduceLE, Int.reduceEq]
  · rw [if_neg q]
    simp (disch := first | omega | assumption | exact b01_rng _ | exact st_5 | exact st_12 | exact st_19 | (simp only [isSt_sI, isSt_sJ, isSt_sF, isSt_sG, isSt_sA]; assumption)) only [↓B228_0, ↓B228_5, ↓B228_10, ↓B228_14, ↓B228_22, ↓B228_27, ↓o_72, evA, evB, evC, i_lit, i_add, i_sub, i_mul, i_neg, i_lt, i_le, i_eq, i32_gI, i64_gJ, i32_id, i32_to, i64_to, sI_i32, sJ_i64, b01_t, b01_f, i32_b01, b01_0, ↓a_s0, ↓n_s0, ↓a_s1, ↓n_s1, Int.add_zero, t_lt, f_lt, t_le, f_le, t_eq, f_eq, true_and, and_true, false_and, and_false, and_self, ↓reduceIte, z_bool_of, or_true, true_or, or_false, false_or, Int.neg_neg, not_true_eq_false, not_false_eq_true, lg_lt, lg_le, lg_gt, lg_ge, lg_eq, j_lit, j_add, j_sub, j_mul, j_neg, j_eq, i64_id, ij, ji, z_rt, Nat.reduceEqDiff, Nat.reduceAdd, Int.reduceAdd, Int.reduceSub, Int.reduceMul, Int.reduceNeg, Int.reduceLT, Int.reduceLE, Int.reduceEq]
/-- a metre that takes the line is read -/
theorem read_m {S : zS} (hQ : RefQ S cls) {m v : Int} (hm : 0 ≤ m ∧ m < 6) {x : T3} (hX : MtR (gI S 74) (80 + 402 * m) x) (hv : v < 1152921504606846976) (hM : Mn 1152921504606846976 (Rd (LnH 0 cls (gI S 74)) x.1 0) (ct (fC 0 cls (gI S 74)) 0) v) : ∃ (S1 S2 : zS) (l : Int), z_ev X 20 (z_entry 228 [.ref 72, .int (Int32.ofInt m), .int (Int32.ofInt 0)] (mk S)) = some (vI l, mk S1) ∧ z_ev X 20 (z_entry 232 [.ref 72] (mk S1)) = some (none, mk S2) ∧ FrQm S S2 ∧ (∀ i, gI S2 109 i = gI S 109 i) ∧ ∀ s, 0 ≤ s → s < gI S 74 0 → gI S2 107 s = wyC v s := by
  obtain ⟨S1, u1, u2, u9, u3, u4, u5⟩ := x228k (X := X) (d := 20) (cls := cls) (how := 0) (by omega) (by omega) hQ hm hX
  obtain ⟨p1, p2⟩ := LfR.beg u3 u5 hQ.1.1.1
  have hl : gI S1 104 0 < 100000000 := p2.lt.mpr (hM.lt.mp hv)
  obtain ⟨S2, pre, v1, v2, v3, v4, v5, v6⟩ := x232 (X := X) (d := 20) (by omega) (PrB_R (how := 0) hQ.1 hQ.2.2.2.1.1) hQ.1.1 (n := x.2.1) (by have := u3.2.1; omega) u4 u5 hl
  rw [u3.2.2.2.2.1] at v3 v5
  obtain ⟨k1, k2⟩ := same_best hQ.1.1 hM p2 hv v3 v4 v5
  refine ⟨S1, S2, _, u1, v1, u2.tr v2.q, fun i => (v2.2.1 109 i (by omega)).trans (u9.1 i), fun s q1 q2 => ?_⟩
  obtain ⟨w, j1, j2, -⟩ := k2 s q1 q2
  have := v6 s.toNat w j1
  rw [show ((s.toNat : Nat) : Int) = s by omega] at this
  rw [this]; exact j2.symm
abbrev L257 (w rr m : Int) (x4 : Option Value) : zL := [some (.ref 72), some (.int (Int32.ofInt w)), some (.int (Int32.ofInt rr)), some (.int (Int32.ofInt m)), x4, none, none]
theorem l257b {w rr m n : Int} (hm : 0 ≤ m ∧ m < 6) (hn : 0 ≤ n ∧ n ≤ 20) : ∀ (c : Nat) (s : Int) (S : zS), s + c = n → 0 ≤ s → gI S 74 0 = n → z_ev X d (257, 60, L257 w rr m (vI s), [], mk S) = z_ev X d (257, 96, L257 w rr m (vI n), [], mk (sF S 109 (20 * m + s) (20 * m + n) (fun i => gI S 107 (i - 20 * m)))) := by
  intro c
  induction c with
  | zero =>
    intro s S hc hs h0
    have : s = n := by omega
    subst this
    rw [sF_nil (by omega), B257_60]
    simp (disch := first | omega | assumption | exact b01_rng _ | exact st_5 | exact st_12 | exact st_19 | (simp only [isSt_sI, isSt_sJ, isSt_sF, isSt_sG, isSt_sA]; assumption)) only [↓a_107, ↓a_109, ↓a_74, ↓n_107, ↓n_109, ↓n_74, ↓o_72, ↓r_72_3, ↓r_72_59, ↓r_72_61, ↓s_107, ↓s_109, ↓s_74, ↓w_72_0, i_lit, i_add, i_sub, i_mul, i_neg, i_lt, i_le, i_eq, i32_gI, i64_gJ, i32_id, i32_to, i64_to, sI_i32, sJ_i64, b01_t, b01_f, i32_b01, b01_0, ↓a_s0, ↓n_s0, ↓a_s1, ↓n_s1, Int.add_zero, t_lt, f_lt, t_le, f_le, t_eq, f_eq, true_and, and_true, false_and, and_false, and_self, ↓reduceIte, z_bool_of, or_true, true_or, or_false, false_or, Int.neg_neg, not_true_eq_false, not_false_eq_true, lg_lt, lg_le, lg_gt, lg_ge, lg_eq, j_lit, j_add, j_sub, j_mul, j_neg, j_eq, i64_id, ij, ji, z_rt, Nat.reduceEqDiff, Nat.reduceAdd, Int.reduceAdd, Int.reduceSub, Int.reduceMul, Int.reduceNeg, Int.reduceLT, Int.reduceLE, Int.reduceEq, h0]
  | succ c ih =>
    intro s S hc hs h0
    have e := ih (s + 1) (sI S 109 (20 * m + s) (gI S 107 s)) (by omega) (by omega) (by rw [gI_sI, if_neg (by omega)]; exact h0)
    have e2 : sF (sI S 109 (20 * m + s) (gI S 107 s)) 109 (20 * m + (s + 1)) (20 * m + n) (fun i => gI (sI S 109 (20 * m + s) (gI S 107 s)) 107 (i - 20 * m)) = sF S 109 (20 * m + s) (20 * m + n) (fun i => gI S 107 (i - 20 * m)) := by
      rw [show (fun i => gI (sI S 109 (20 * m + s) (gI S 107 s)) 107 (i - 20 * m)) = (fun i => gI S 107 (i - 20 * m)) from funext fun i => by rw [gI_sI, if_neg (by omega)], show 20 * m + (s + 1) = 20 * m + s + 1 by omega]
      exact sF_step (by omega) (by rw [show 20 * m + s - 20 * m = s by omega])
    rw [e2] at e
    rw [← e, B257_60]
    simp (disch := first | omega | assumption | exact b01_rng _ | exact st_5 | exact st_12 | exact st_19 | (simp only [isSt_sI, isSt_sJ, isSt_sF, isSt_sG, isSt_sA]; assumption)) only [↓B257_71, ↓a_107, ↓a_109, ↓a_74, ↓n_107, ↓n_109, ↓n_74, ↓o_72, ↓r_72_3, ↓r_72_59, ↓r_72_61, ↓s_107, ↓s_109, ↓s_74, ↓w_72_0, i_lit, i_add, i_sub, i_mul, i_neg, i_lt, i_le, i_eq, i32_gI, i64_gJ, i32_id, i32_to, i64_to, sI_i32, sJ_i64, b01_t, b01_f, i32_b01, b01_0, ↓a_s0, ↓n_s0, ↓a_s1, ↓n_s1, Int.add_zero, t_lt, f_lt, t_le, f_le, t_eq, f_eq, true_and, and_true, false_and, and_false, and_self, ↓reduceIte, z_bool_of, or_true, true_or, or_false, false_or, Int.neg_neg, not_true_eq_false, not_false_eq_true, lg_lt, lg_le, lg_gt, lg_ge, lg_eq, j_lit, j_add, j_sub, j_mul, j_neg, j_eq, i64_id, ij, ji, z_rt, Nat.reduceEqDiff, Nat.reduceAdd, Int.reduceAdd, Int.reduceSub, Int.reduceMul, Int.reduceNeg, Int.reduceLT, Int.reduceLE, Int.reduceEq, h0]
/-- the reference's readings are the class's -/
def RdR (S : zS) (n0 rr k : Int) (W : Int → Int → Int) : Prop := ∀ m s : Int, 0 ≤ m → m < k → bit1 rr m = 1 → 0 ≤ s → s < n0 → gI S 109 (20 * m + s) = W m s
theorem l257a (hd : 100 < d) {g : Int → Int} {w rr : Int} {V : Int → Int} (hg1 : 0 ≤ g 1 ∧ g 1 ≤ 6) (hb : ∀ i, 0 ≤ i → i < 32 → bit1 rr i = 0 ∨ bit1 rr i = 1) (hV : ∀ k, 0 ≤ k → k < 6 → BsR cls g rr k (V k)) : ∀ (c : Nat) (k : Int) (S : zS) (x4 : Option Value), k + c = g 1 → 0 ≤ k → RefQ S cls → gI S 74 = g → RdR S (g 0) rr k (fun m s => wyC (V m) s) → ∃ (S' : zS) (y4 : Option Value), z_ev X d (257, 28, L257 w rr k x4, [], mk S) = z_ev X d (257, 102, L257 w rr (g 1) y4, [], mk S') ∧ FrQm S S' ∧ RdR S' (g 0) rr (g 1) (fun m s => wyC (V m) s) := by
  intro c
  induction c with
  | zero =>
    intro k S x4 hc hk hQ hg hR
    have : k = g 1 := by omega
    subst this
    have h1 : gI S 74 1 = g 1 := by rw [hg]
    refine ⟨S, x4, ?_, FrQm.rf, hR⟩
    rw [B257_28]
    simp (disch := first | omega | assumption | exact b01_rng _ | exact st_5 | exact st_12 | exact st_19 | (simp only [isSt_sI, isSt_sJ, isSt_sF, isSt_sG, isSt_sA]; assumption)) only [↓a_107, ↓a_109, ↓a_74, ↓n_107, ↓n_109, ↓n_74, ↓o_72, ↓r_72_3, ↓r_72_59, ↓r_72_61, ↓s_107, ↓s_109, ↓s_74, ↓w_72_0, i_lit, i_add, i_sub, i_mul, i_neg, i_lt, i_le, i_eq, i32_gI, i64_gJ, i32_id, i32_to, i64_to, sI_i32, sJ_i64, b01_t, b01_f, i32_b01, b01_0, ↓a_s0, ↓n_s0, ↓a_s1, ↓n_s1, Int.add_zero, t_lt, f_lt, t_le, f_le, t_eq, f_eq, true_and, and_true, false_and, and_false, and_self, ↓reduceIte, z_bool_of, or_true, true_or, or_false, false_or, Int.neg_neg, not_true_eq_false, not_false_eq_true, lg_lt, lg_le, lg_gt, lg_ge, lg_eq, j_lit, j_add, j_sub, j_mul, j_neg, j_eq, i64_id, ij, ji, z_rt, Nat.reduceEqDiff, Nat.reduceAdd, Int.reduceAdd, Int.reduceSub, Int.reduceMul, Int.reduceNeg, Int.reduceLT, Int.reduceLE, Int.reduceEq, h1]
  | succ c ih =>
    intro k S x4 hc hk hQ hg hR
    have h1 : gI S 74 1 = g 1 := by rw [hg]
    have h0 : gI S 74 0 = g 0 := by rw [hg]
    have hg0 := hQ.1.1
    rw [h0] at hg0
    have hbk := hb k hk (by omega)
    have c151 : ∀ {cm cp : Nat} {L : zL} {st : List Value} (T : zS), z_evc X d 151 [.int (Int32.ofInt rr), .int (Int32.ofInt k)] (cm, cp, L, st, mk T) = z_ev X d (cm, cp, L, .int (Int32.ofInt (bit1 rr k)) :: st, mk T) := fun {cm cp L st} T => by
      refine evI (k := 0) (by omega) ?_
      show z_ev X 0 (151, 0, [some (.int (Int32.ofInt rr)), some (.int (Int32.ofInt k))], [], mk T) = _
      rcases hbk with z | z <;> simp (disch := first | omega | assumption | exact b01_rng _ | exact st_5 | exact st_12 | exact st_19 | (simp only [isSt_sI, isSt_sJ, isSt_sF, isSt_sG, isSt_sA]; assumption)) only [↓B151_0, ↓B151_9, ↓B151_13, ↓B151_14, bit1_of, z, i_lit, i_add, i_sub, i_mul, i_neg, i_lt, i_le, i_eq, i32_gI, i64_gJ, i32_id, i32_to, i64_to, sI_i32, sJ_i64, b01_t, b01_f, i32_b01, b01_0, ↓a_s0, ↓n_s0, ↓a_s1, ↓n_s1, Int.add_zero, t_lt, f_lt, t_le, f_le, t_eq, f_eq, true_and, and_true, false_and, and_false, and_self, ↓reduceIte, z_bool_of, or_true, true_or, or_false, false_or, Int.neg_neg, not_true_eq_false, not_false_eq_true, lg_lt, lg_le, lg_gt, lg_ge, lg_eq, j_lit, j_add, j_sub, j_mul, j_neg, j_eq, i64_id, ij, ji, z_rt, Nat.reduceEqDiff, Nat.reduceAdd, Int.reduceAdd, Int.reduceSub, Int.reduceMul, Int.reduceNeg, Int.reduceLT, Int.reduceLE, Int.reduceEq]
    rcases hbk with z | z
    · obtain ⟨S', y4, e1, e2, e3⟩ := ih (k + 1) S x4 (by omega) (by omega) hQ hg (fun m s q1 q2 q3 q4 q5 => by
        by_cases e : m = k
        · subst e; rw [z] at q3; omega
        · exact hR m s q1 (by omega) q3 q4 q5)
      refine ⟨S', y4, ?_, e2, e3⟩
      rw [← e1, B257_28]
      simp (disch := first | omega | assumption | exact b01_rng _ | exact st_5 | exact st_12 | exact st_19 | (simp only [isSt_sI, isSt_sJ, isSt_sF, isSt_sG, isSt_sA]; assumption)) only [↓B257_38, ↓B257_43, ↓B257_96, ↓a_107, ↓a_109, ↓a_74, ↓n_107, ↓n_109, ↓n_74, ↓o_72, ↓r_72_3, ↓r_72_59, ↓r_72_61, ↓s_107, ↓s_109, ↓s_74, ↓w_72_0, c151, z, i_lit, i_add, i_sub, i_mul, i_neg, i_lt, i_le, i_eq, i32_gI, i64_gJ, i32_id, i32_to, i64_to, sI_i32, sJ_i64, b01_t, b01_f, i32_b01, b01_0, ↓a_s0, ↓n_s0, ↓a_s1, ↓n_s1, Int.add_zero, t_lt, f_lt, t_le, f_le, t_eq, f_eq, true_and, and_true, false_and, and_false, and_self, ↓reduceIte, z_bool_of, or_true, true_or, or_false, false_or, Int.neg_neg, not_true_eq_false, not_false_eq_true, lg_lt, lg_le, lg_gt, lg_ge, lg_eq, j_lit, j_add, j_sub, j_mul, j_neg, j_eq, i64_id, ij, ji, z_rt, Nat.reduceEqDiff, Nat.reduceAdd, Int.reduceAdd, Int.reduceSub, Int.reduceMul, Int.reduceNeg, Int.reduceLT, Int.reduceLE, Int.reduceEq, h1]
    · obtain ⟨-, hv, x, hX, hM⟩ | ⟨y, -⟩ := hV k hk (by omega)
      · obtain ⟨S1, S2, l, r1, r2, r3, r4, r5⟩ := read_m (X := X) hQ (m := k) (v := V k) (by omega) (by rw [hg]; exact hX) hv.2 (by rw [hg]; exact hM)
        have ev1 := fun {cm cp : Nat} {L : zL} {st : List Value} => evI (X := X) (d := d) (by omega) r1 (cm := cm) (cp := cp) (L := L) (st := st)
        have ev2 := fun {cm cp : Nat} {L : zL} {st : List Value} => evV (X := X) (d := d) (by omega) r2 (cm := cm) (cp := cp) (L := L) (st := st)
        have g2 : gI S2 74 = g := r3.g.trans hg
        have cp := l257b (X := X) (d := d) (w := w) (rr := rr) (m := k) (n := g 0) (by omega) hg0 (g 0).toNat 0 S2 (by omega) (by omega) (by rw [g2])
        have f3 : FrQm S2 (sF S2 109 (20 * k + 0) (20 * k + g 0) (fun i => gI S2 107 (i - 20 * k))) := ⟨Dyn.sF (by decide) Dyn.rf, fun a i _ q _ => by rw [gI_sF, if_neg (by omega)], fun _ _ _ _ => rfl, fun _ _ => rfl⟩
        obtain ⟨S', y4, e1, e2, e3⟩ := ih (k + 1) _ (vI (g 0)) (by omega) (by omega) (hQ.fr (r3.tr f3)) (((r3.tr f3).g).trans hg) (fun m s q1 q2 q3 q4 q5 => by
          rw [gI_sF]
          by_cases e : m = k
          · subst e
            rw [if_pos ⟨rfl, by omega, by omega⟩, i32_gI, show 20 * m + s - 20 * m = s by omega]
            exact r5 s q4 (by rw [h0]; exact q5)
          · rw [if_neg (by omega), r4]; exact hR m s q1 (by omega) q3 q4 q5)
        refine ⟨S', y4, ?_, (r3.tr f3).tr e2, e3⟩
        have a1 : z_ev X d (257, 28, L257 w rr k x4, [], mk S) = z_ev X d (257, 60, L257 w rr k (vI 0), [], mk S2) := by
          rw [B257_28]
          simp (disch := first | omega | assumption | exact b01_rng _ | exact st_5 | exact st_12 | exact st_19 | (simp only [isSt_sI, isSt_sJ, isSt_sF, isSt_sG, isSt_sA]; assumption)) only [↓B257_38, ↓B257_43, ↓B257_46, ↓B257_52, ↓B257_57, ↓a_107, ↓a_109, ↓a_74, ↓n_107, ↓n_109, ↓n_74, ↓o_72, ↓r_72_3, ↓r_72_59, ↓r_72_61, ↓s_107, ↓s_109, ↓s_74, ↓w_72_0, ↓o_72, c151, ev1, ev2, z, i_lit, i_add, i_sub, i_mul, i_neg, i_lt, i_le, i_eq, i32_gI, i64_gJ, i32_id, i32_to, i64_to, sI_i32, sJ_i64, b01_t, b01_f, i32_b01, b01_0, ↓a_s0, ↓n_s0, ↓a_s1, ↓n_s1, Int.add_zero, t_lt, f_lt, t_le, f_le, t_eq, f_eq, true_and, and_true, false_and, and_false, and_self, ↓reduceIte, z_bool_of, or_true, true_or, or_false, false_or, Int.neg_neg, not_true_eq_false, not_false_eq_true, lg_lt, lg_le, lg_gt, lg_ge, lg_eq, j_lit, j_add, j_sub, j_mul, j_neg, j_eq, i64_id, ij, ji, z_rt, Nat.reduceEqDiff, Nat.reduceAdd, Int.reduceAdd, Int.reduceSub, Int.reduceMul, Int.reduceNeg, Int.reduceLT, Int.reduceLE, Int.reduceEq, h1]
        rw [a1, cp, ← e1]
        simp (disch := first | omega | assumption | exact b01_rng _ | exact st_5 | exact st_12 | exact st_19 | (simp only [isSt_sI, isSt_sJ, isSt_sF, isSt_sG, isSt_sA]; assumption)) only [↓B257_96, i_lit, i_add, i_sub, i_mul, i_neg, i_lt, i_le, i_eq, i32_gI, i64_gJ, i32_id, i32_to, i64_to, sI_i32, sJ_i64, b01_t, b01_f, i32_b01, b01_0, ↓a_s0, ↓n_s0, ↓a_s1, ↓n_s1, Int.add_zero, t_lt, f_lt, t_le, f_le, t_eq, f_eq, true_and, and_true, false_and, and_false, and_self, ↓reduceIte, z_bool_of, or_true, true_or, or_false, false_or, Int.neg_neg, not_true_eq_false, not_false_eq_true, lg_lt, lg_le, lg_gt, lg_ge, lg_eq, j_lit, j_add, j_sub, j_mul, j_neg, j_eq, i64_id, ij, ji, z_rt, Nat.reduceEqDiff, Nat.reduceAdd, Int.reduceAdd, Int.reduceSub, Int.reduceMul, Int.reduceNeg, Int.reduceLT, Int.reduceLE, Int.reduceEq]
      · rw [y] at z; omega
/-- how many metres read s as v, as the reference counts -/
def cbR (S : zS) (rr s v k : Int) : Bool := decide (bit1 rr k = 1 ∧ gI S 109 (20 * k + s) = v)
abbrev L256 (rr s most v : Int) (x5 x6 : Option Value) : zL := [some (.ref 72), some (.int (Int32.ofInt rr)), some (.int (Int32.ofInt s)), some (.int (Int32.ofInt most)), some (.int (Int32.ofInt v)), x5, x6]
theorem l256i (hd : 0 < d) {S : zS} {rr s most v : Int} {n : Nat} (hn : n ≤ 6) (h1 : gI S 74 1 = n) (hs : 0 ≤ s ∧ s < 20) (hv : 0 ≤ v ∧ v ≤ 2) (hb : ∀ i, 0 ≤ i → i < 32 → bit1 rr i = 0 ∨ bit1 rr i = 1) : ∀ (c k : Nat), k + c = n → z_ev X d (256, 17, L256 rr s most v (vI (cn (cbR S rr s v) k)) (vI k), [], mk S) = z_ev X d (256, 70, L256 rr s most v (vI (cn (cbR S rr s v) n)) (vI n), [], mk S) := by
  intro c
  induction c with
  | zero =>
    intro k hc
    have : k = n := by omega
    subst this
    rw [B256_17]
    simp (disch := first | omega | assumption | exact b01_rng _ | exact st_5 | exact st_12 | exact st_19 | (simp only [isSt_sI, isSt_sJ, isSt_sF, isSt_sG, isSt_sA]; assumption)) only [↓a_109, ↓a_74, ↓n_109, ↓n_74, ↓r_72_3, ↓r_72_61, ↓s_109, ↓s_74, i_lit, i_add, i_sub, i_mul, i_neg, i_lt, i_le, i_eq, i32_gI, i64_gJ, i32_id, i32_to, i64_to, sI_i32, sJ_i64, b01_t, b01_f, i32_b01, b01_0, ↓a_s0, ↓n_s0, ↓a_s1, ↓n_s1, Int.add_zero, t_lt, f_lt, t_le, f_le, t_eq, f_eq, true_and, and_true, false_and, and_false, and_self, ↓reduceIte, z_bool_of, or_true, true_or, or_false, false_or, Int.neg_neg, not_true_eq_false, not_false_eq_true, lg_lt, lg_le, lg_gt, lg_ge, lg_eq, j_lit, j_add, j_sub, j_mul, j_neg, j_eq, i64_id, ij, ji, z_rt, Nat.reduceEqDiff, Nat.reduceAdd, Int.reduceAdd, Int.reduceSub, Int.reduceMul, Int.reduceNeg, Int.reduceLT, Int.reduceLE, Int.reduceEq, h1]
  | succ c ih =>
    intro k hc
    have hcb := cn_b (cbR S rr s v) k
    have e := ih (k + 1) (by omega)
    have e1 : ((k + 1 : Nat) : Int) = (k : Int) + 1 := by omega
    rw [e1] at e
    have hbk := hb k (by omega) (by omega)
    have rg := gI_rng S 109 (20 * k + s)
    have c151 : ∀ {cm cp : Nat} {L : zL} {st : List Value}, z_evc X d 151 [.int (Int32.ofInt rr), .int (Int32.ofInt (k : Int))] (cm, cp, L, st, mk S) = z_ev X d (cm, cp, L, .int (Int32.ofInt (bit1 rr k)) :: st, mk S) := fun {cm cp L st} => by
      refine evI (k := 0) (by omega) ?_
      show z_ev X 0 (151, 0, [some (.int (Int32.ofInt rr)), some (.int (Int32.ofInt (k : Int)))], [], mk S) = _
      rcases hbk with z | z <;> simp (disch := first | omega | assumption | exact b01_rng _ | exact st_5 | exact st_12 | exact st_19 | (simp only [isSt_sI, isSt_sJ, isSt_sF, isSt_sG, isSt_sA]; assumption)) only [↓B151_0, ↓B151_9, ↓B151_13, ↓B151_14, bit1_of, z, i_lit, i_add, i_sub, i_mul, i_neg, i_lt, i_le, i_eq, i32_gI, i64_gJ, i32_id, i32_to, i64_to, sI_i32, sJ_i64, b01_t, b01_f, i32_b01, b01_0, ↓a_s0, ↓n_s0, ↓a_s1, ↓n_s1, Int.add_zero, t_lt, f_lt, t_le, f_le, t_eq, f_eq, true_and, and_true, false_and, and_false, and_self, ↓reduceIte, z_bool_of, or_true, true_or, or_false, false_or, Int.neg_neg, not_true_eq_false, not_false_eq_true, lg_lt, lg_le, lg_gt, lg_ge, lg_eq, j_lit, j_add, j_sub, j_mul, j_neg, j_eq, i64_id, ij, ji, z_rt, Nat.reduceEqDiff, Nat.reduceAdd, Int.reduceAdd, Int.reduceSub, Int.reduceMul, Int.reduceNeg, Int.reduceLT, Int.reduceLE, Int.reduceEq]
    rcases hbk with z | z
    · have h2 : cn (cbR S rr s v) (k + 1) = cn (cbR S rr s v) k := by
        show cn (cbR S rr s v) k + (if cbR S rr s v k = true then 1 else 0) = _
        rw [show cbR S rr s v k = false from decide_eq_false (fun y => by rw [z] at y; omega)]
        simp
      rw [h2] at e
      rw [← e, B256_17]
      simp (disch := first | omega | assumption | exact b01_rng _ | exact st_5 | exact st_12 | exact st_19 | (simp only [isSt_sI, isSt_sJ, isSt_sF, isSt_sG, isSt_sA]; assumption)) only [↓B256_28, ↓B256_36, ↓B256_60, ↓B256_61, ↓a_109, ↓a_74, ↓n_109, ↓n_74, ↓r_72_3, ↓r_72_61, ↓s_109, ↓s_74, c151, z, i_lit, i_add, i_sub, i_mul, i_neg, i_lt, i_le, i_eq, i32_gI, i64_gJ, i32_id, i32_to, i64_to, sI_i32, sJ_i64, b01_t, b01_f, i32_b01, b01_0, ↓a_s0, ↓n_s0, ↓a_s1, ↓n_s1, Int.add_zero, t_lt, f_lt, t_le, f_le, t_eq, f_eq, true_and, and_true, false_and, and_false, and_self, ↓reduceIte, z_bool_of, or_true, true_or, or_false, false_or, Int.neg_neg, not_true_eq_false, not_false_eq_true, lg_lt, lg_le, lg_gt, lg_ge, lg_eq, j_lit, j_add, j_sub, j_mul, j_neg, j_eq, i64_id, ij, ji, z_rt, Nat.reduceEqDiff, Nat.reduceAdd, Int.reduceAdd, Int.reduceSub, Int.reduceMul, Int.reduceNeg, Int.reduceLT, Int.reduceLE, Int.reduceEq, h1]
    · by_cases q2 : gI S 109 (20 * k + s) = v
      · have h2 : cn (cbR S rr s v) (k + 1) = cn (cbR S rr s v) k + 1 := by
          show cn (cbR S rr s v) k + (if cbR S rr s v k = true then 1 else 0) = _
          rw [show cbR S rr s v k = true from decide_eq_true ⟨z, q2⟩, if_pos rfl]
        rw [h2] at e
        rw [← e, B256_17]
        simp (disch := first | omega | assumption | exact b01_rng _ | exact st_5 | exact st_12 | exact st_19 | (simp only [isSt_sI, isSt_sJ, isSt_sF, isSt_sG, isSt_sA]; assumption)) only [↓B256_28, ↓B256_36, ↓B256_39, ↓B256_56, ↓B256_61, ↓a_109, ↓a_74, ↓n_109, ↓n_74, ↓r_72_3, ↓r_72_61, ↓s_109, ↓s_74, c151, z, q2, i_lit, i_add, i_sub, i_mul, i_neg, i_lt, i_le, i_eq, i32_gI, i64_gJ, i32_id, i32_to, i64_to, sI_i32, sJ_i64, b01_t, b01_f, i32_b01, b01_0, ↓a_s0, ↓n_s0, ↓a_s1, ↓n_s1, Int.add_zero, t_lt, f_lt, t_le, f_le, t_eq, f_eq, true_and, and_true, false_and, and_false, and_self, ↓reduceIte, z_bool_of, or_true, true_or, or_false, false_or, Int.neg_neg, not_true_eq_false, not_false_eq_true, lg_lt, lg_le, lg_gt, lg_ge, lg_eq, j_lit, j_add, j_sub, j_mul, j_neg, j_eq, i64_id, ij, ji, z_rt, Nat.reduceEqDiff, Nat.reduceAdd, Int.reduceAdd, Int.reduceSub, Int.reduceMul, Int.reduceNeg, Int.reduceLT, Int.reduceLE, Int.reduceEq, h1]
      · have h2 : cn (cbR S rr s v) (k + 1) = cn (cbR S rr s v) k := by
          show cn (cbR S rr s v) k + (if cbR S rr s v k = true then 1 else 0) = _
          rw [show cbR S rr s v k = false from decide_eq_false (fun y => q2 y.2)]
          simp
        rw [h2] at e
        rw [← e, B256_17]
        simp (disch := first | omega | assumption | exact b01_rng _ | exact st_5 | exact st_12 | exact st_19 | (simp only [isSt_sI, isSt_sJ, isSt_sF, isSt_sG, isSt_sA]; assumption)) only [↓B256_28, ↓B256_36, ↓B256_39, ↓B256_60, ↓B256_61, ↓a_109, ↓a_74, ↓n_109, ↓n_74, ↓r_72_3, ↓r_72_61, ↓s_109, ↓s_74, c151, z, q2, i_lit, i_add, i_sub, i_mul, i_neg, i_lt, i_le, i_eq, i32_gI, i64_gJ, i32_id, i32_to, i64_to, sI_i32, sJ_i64, b01_t, b01_f, i32_b01, b01_0, ↓a_s0, ↓n_s0, ↓a_s1, ↓n_s1, Int.add_zero, t_lt, f_lt, t_le, f_le, t_eq, f_eq, true_and, and_true, false_and, and_false, and_self, ↓reduceIte, z_bool_of, or_true, true_or, or_false, false_or, Int.neg_neg, not_true_eq_false, not_false_eq_true, lg_lt, lg_le, lg_gt, lg_ge, lg_eq, j_lit, j_add, j_sub, j_mul, j_neg, j_eq, i64_id, ij, ji, z_rt, Nat.reduceEqDiff, Nat.reduceAdd, Int.reduceAdd, Int.reduceSub, Int.reduceMul, Int.reduceNeg, Int.reduceLT, Int.reduceLE, Int.reduceEq, h1]
theorem t256 (hd : 0 < d) {S : zS} {rr s most v : Int} {n : Nat} (hn : n ≤ 6) (h1 : gI S 74 1 = n) (hs : 0 ≤ s ∧ s < 20) (hv : 0 ≤ v ∧ v ≤ 2) (hm : 0 ≤ most ∧ most ≤ 6) (hb : ∀ i, 0 ≤ i → i < 32 → bit1 rr i = 0 ∨ bit1 rr i = 1) {x5 x6 : Option Value} : z_ev X d (256, 5, L256 rr s most v x5 x6, [], mk S) = z_ev X d (256, 5, L256 rr s (max most (cn (cbR S rr s v) n)) (v + 1) (vI (cn (cbR S rr s v) n)) (vI n), [], mk S) := by
  have hcb := cn_b (cbR S rr s v) n
  have e := l256i (X := X) (d := d) (most := most) hd hn h1 hs hv hb n 0 (by omega)
  have a1 : z_ev X d (256, 5, L256 rr s most v x5 x6, [], mk S) = z_ev X d (256, 17, L256 rr s most v (vI (cn (cbR S rr s v) 0)) (vI ((0 : Nat) : Int)), [], mk S) := by
    rw [show cn (cbR S rr s v) 0 = 0 from rfl, show (((0 : Nat) : Int)) = 0 from rfl, B256_5]
    simp (disch := first | omega | assumption | exact b01_rng _ | exact st_5 | exact st_12 | exact st_19 | (simp only [isSt_sI, isSt_sJ, isSt_sF, isSt_sG, isSt_sA]; assumption)) only [↓B256_11, i_lit, i_add, i_sub, i_mul, i_neg, i_lt, i_le, i_eq, i32_gI, i64_gJ, i32_id, i32_to, i64_to, sI_i32, sJ_i64, b01_t, b01_f, i32_b01, b01_0, ↓a_s0, ↓n_s0, ↓a_s1, ↓n_s1, Int.add_zero, t_lt, f_lt, t_le, f_le, t_eq, f_eq, true_and, and_true, false_and, and_false, and_self, ↓reduceIte, z_bool_of, or_true, true_or, or_false, false_or, Int.neg_neg, not_true_eq_false, not_false_eq_true, lg_lt, lg_le, lg_gt, lg_ge, lg_eq, j_lit, j_add, j_sub, j_mul, j_neg, j_eq, i64_id, ij, ji, z_rt, Nat.reduceEqDiff, Nat.reduceAdd, Int.reduceAdd, Int.reduceSub, Int.reduceMul, Int.reduceNeg, Int.reduceLT, Int.reduceLE, Int.reduceEq]
  rw [a1, e]
  by_cases q : cn (cbR S rr s v) n ≤ most
  · rw [show max most (cn (cbR S rr s v) n) = most by omega]
    simp (disch := first | omega | assumption | exact b01_rng _ | exact st_5 | exact st_12 | exact st_19 | (simp only [isSt_sI, isSt_sJ, isSt_sF, isSt_sG, isSt_sA]; assumption)) only [↓B256_70, ↓B256_81, ↓B256_82, i_lit, i_add, i_sub, i_mul, i_neg, i_lt, i_le, i_eq, i32_gI, i64_gJ, i32_id, i32_to, i64_to, sI_i32, sJ_i64, b01_t, b01_f, i32_b01, b01_0, ↓a_s0, ↓n_s0, ↓a_s1, ↓n_s1, Int.add_zero, t_lt, f_lt, t_le, f_le, t_eq, f_eq, true_and, and_true, false_and, and_false, and_self, ↓reduceIte, z_bool_of, or_true, true_or, or_false, false_or, Int.neg_neg, not_true_eq_false, not_false_eq_true, lg_lt, lg_le, lg_gt, lg_ge, lg_eq, j_lit, j_add, j_sub, j_mul, j_neg, j_eq, i64_id, ij, ji, z_rt, Nat.reduceEqDiff, Nat.reduceAdd, Int.reduceAdd, Int.reduceSub, Int.reduceMul, Int.reduceNeg, Int.reduceLT, Int.reduceLE, Int.reduceEq]
  · rw [show max most (cn (cbR S rr s v) n) = cn (cbR S rr s v) n by omega]
    simp (disch := first | omega | assumption | exact b01_rng _ | exact st_5 | exact st_12 | exact st_19 | (simp only [isSt_sI, isSt_sJ, isSt_sF, isSt_sG, isSt_sA]; assumption)) only [↓B256_70, ↓B256_76, ↓B256_82, i_lit, i_add, i_sub, i_mul, i_neg, i_lt, i_le, i_eq, i32_gI, i64_gJ, i32_id, i32_to, i64_to, sI_i32, sJ_i64, b01_t, b01_f, i32_b01, b01_0, ↓a_s0, ↓n_s0, ↓a_s1, ↓n_s1, Int.add_zero, t_lt, f_lt, t_le, f_le, t_eq, f_eq, true_and, and_true, false_and, and_false, and_self, ↓reduceIte, z_bool_of, or_true, true_or, or_false, false_or, Int.neg_neg, not_true_eq_false, not_false_eq_true, lg_lt, lg_le, lg_gt, lg_ge, lg_eq, j_lit, j_add, j_sub, j_mul, j_neg, j_eq, i64_id, ij, ji, z_rt, Nat.reduceEqDiff, Nat.reduceAdd, Int.reduceAdd, Int.reduceSub, Int.reduceMul, Int.reduceNeg, Int.reduceLT, Int.reduceLE, Int.reduceEq]
theorem x256 (hd : 0 < d) {S : zS} {rr s : Int} {n : Nat} (hn : n ≤ 6) (h1 : gI S 74 1 = n) (hs : 0 ≤ s ∧ s < 20) (hb : ∀ i, 0 ≤ i → i < 32 → bit1 rr i = 0 ∨ bit1 rr i = 1) : z_ev X d (z_entry 256 [.ref 72, .int (Int32.ofInt rr), .int (Int32.ofInt s)] (mk S)) = some (vI (mx3 (fun v => cn (cbR S rr s v) n)), mk S) := by
  have h0 := cn_b (cbR S rr s 0) n
  have h1' := cn_b (cbR S rr s 1) n
  have h2 := cn_b (cbR S rr s 2) n
  have a0 : z_ev X d (z_entry 256 [.ref 72, .int (Int32.ofInt rr), .int (Int32.ofInt s)] (mk S)) = z_ev X d (256, 5, L256 rr s 0 0 none none, [], mk S) := by
    show z_ev X d (256, 0, [some (.ref 72), some (.int (Int32.ofInt rr)), some (.int (Int32.ofInt s)), none, none, none, none], [], mk S) = _
    simp (disch := first | omega | assumption | exact b01_rng _ | exact st_5 | exact st_12 | exact st_19 | (simp only [isSt_sI, isSt_sJ, isSt_sF, isSt_sG, isSt_sA]; assumption)) only [↓B256_0, i_lit, i_add, i_sub, i_mul, i_neg, i_lt, i_le, i_eq, i32_gI, i64_gJ, i32_id, i32_to, i64_to, sI_i32, sJ_i64, b01_t, b01_f, i32_b01, b01_0, ↓a_s0, ↓n_s0, ↓a_s1, ↓n_s1, Int.add_zero, t_lt, f_lt, t_le, f_le, t_eq, f_eq, true_and, and_true, false_and, and_false, and_self, ↓reduceIte, z_bool_of, or_true, true_or, or_false, false_or, Int.neg_neg, not_true_eq_false, not_false_eq_true, lg_lt, lg_le, lg_gt, lg_ge, lg_eq, j_lit, j_add, j_sub, j_mul, j_neg, j_eq, i64_id, ij, ji, z_rt, Nat.reduceEqDiff, Nat.reduceAdd, Int.reduceAdd, Int.reduceSub, Int.reduceMul, Int.reduceNeg, Int.reduceLT, Int.reduceLE, Int.reduceEq]
  rw [a0, t256 hd hn h1 hs (by omega) (by omega) hb, show (0 : Int) + 1 = 1 from rfl, t256 hd hn h1 hs (by omega) (by omega) hb, show (1 : Int) + 1 = 2 from rfl, t256 hd hn h1 hs (by omega) (by omega) hb, show (2 : Int) + 1 = 3 from rfl, B256_5]
  unfold mx3
  simp (disch := first | omega | assumption | exact b01_rng _ | exact st_5 | exact st_12 | exact st_19 | (simp only [isSt_sI, isSt_sJ, isSt_sF, isSt_sG, isSt_sA]; assumption)) only [↓B256_89, i_lit, i_add, i_sub, i_mul, i_neg, i_lt, i_le, i_eq, i32_gI, i64_gJ, i32_id, i32_to, i64_to, sI_i32, sJ_i64, b01_t, b01_f, i32_b01, b01_0, ↓a_s0, ↓n_s0, ↓a_s1, ↓n_s1, Int.add_zero, t_lt, f_lt, t_le, f_le, t_eq, f_eq, true_and, and_true, false_and, and_false, and_self, ↓reduceIte, z_bool_of, or_true, true_or, or_false, false_or, Int.neg_neg, not_true_eq_false, not_false_eq_true, lg_lt, lg_le, lg_gt, lg_ge, lg_eq, j_lit, j_add, j_sub, j_mul, j_neg, j_eq, i64_id, ij, ji, z_rt, Nat.reduceEqDiff, Nat.reduceAdd, Int.reduceAdd, Int.reduceSub, Int.reduceMul, Int.reduceNeg, Int.reduceLT, Int.reduceLE, Int.reduceEq]
/-- the first of the least, as the reference keeps it -/
def lsR (f : Int → Int) (k : Nat) : Int × Int := if k = 0 then (-1, 100000000) else lsn f k
theorem lsR_s (f : Int → Int) (hf : ∀ i, 0 ≤ f i ∧ f i ≤ 6) (k : Nat) : lsR f (k + 1) = if f k < (lsR f k).2 then ((k : Int), f k) else lsR f k := by
  have hk := hf k
  have hl := lsn_b f hf k
  unfold lsR
  rw [if_neg (by omega)]
  show (if (lsn f k).1 = -1 ∨ f k < (lsn f k).2 then ((k : Int), f k) else lsn f k) = _
  rcases hl with ⟨rfl, z⟩ | z
  · rw [if_pos rfl, z, if_pos (Or.inl rfl)]
    rw [if_pos (by show f (0 : Nat) < 100000000; omega)]
  · rw [if_neg (show ¬ k = 0 by omega)]
    by_cases q : f k < (lsn f k).2
    · rw [if_pos (Or.inr q), if_pos q]
    · rw [if_neg (fun y => by rcases y with y | y; omega; exact q y), if_neg q]
abbrev L257b (w rr lf wh p : Int) (x6 : Option Value) : zL := [some (.ref 72), some (.int (Int32.ofInt w)), some (.int (Int32.ofInt rr)), some (.int (Int32.ofInt lf)), some (.int (Int32.ofInt wh)), some (.int (Int32.ofInt p)), x6]
theorem l257c (hd : 1 < d) {S : zS} {n0 : Int} {w rr : Int} {n : Nat} (hw : 0 ≤ w ∧ w ≤ 1) (h0 : gI S 74 0 = n0) (hn0 : 0 ≤ n0 ∧ n0 ≤ 20) (hn : n ≤ 6) (h1 : gI S 74 1 = n) (hb : ∀ i, 0 ≤ i → i < 32 → bit1 rr i = 0 ∨ bit1 rr i = 1) : ∀ (c k : Nat) (x6 : Option Value), (k : Int) + c = n0 → z_ev X d (257, 112, L257b w rr (lsR (fun s => mx3 (fun v => cn (cbR S rr s v) n)) k).2 (lsR (fun s => mx3 (fun v => cn (cbR S rr s v) n)) k).1 k x6, [], mk S) = some (vI (if w = 0 then (lsn (fun s => mx3 (fun v => cn (cbR S rr s v) n)) n0.toNat).1 else (lsn (fun s => mx3 (fun v => cn (cbR S rr s v) n)) n0.toNat).2), mk S) := by
  have hfb : ∀ i : Int, 0 ≤ (fun s => mx3 (fun v => cn (cbR S rr s v) n)) i ∧ (fun s => mx3 (fun v => cn (cbR S rr s v) n)) i ≤ 6 := fun i => mx3_b _ (fun v => by have := cn_b (cbR S rr i v) n; exact ⟨this.1, by omega⟩)
  have hx : ∀ k : Nat, (k : Int) < n0 → z_ev X 1 (z_entry 256 [.ref 72, .int (Int32.ofInt rr), .int (Int32.ofInt (k : Int))] (mk S)) = some (vI ((fun s => mx3 (fun v => cn (cbR S rr s v) n)) (k : Int)), mk S) := fun k hk => x256 (X := X) (d := 1) (by omega) hn h1 (by omega) hb
  generalize (fun s => mx3 (fun v => cn (cbR S rr s v) n)) = f at hfb hx ⊢
  intro c
  induction c with
  | zero =>
    intro k x6 hc
    have e : n0.toNat = k := by omega
    have hl := lsn_b f hfb k
    rw [e, B257_112]
    unfold lsR
    by_cases k0 : k = 0
    · subst k0
      rw [if_pos rfl, show lsn f 0 = (-1, -1) from rfl]
      rw [show (if w = 0 then (((-1 : Int), (-1 : Int))).1 else (((-1 : Int), (-1 : Int))).2) = -1 from by split <;> rfl]
      simp (disch := first | omega | assumption | exact b01_rng _ | exact st_5 | exact st_12 | exact st_19 | (simp only [isSt_sI, isSt_sJ, isSt_sF, isSt_sG, isSt_sA]; assumption)) only [↓B257_166, ↓B257_176, ↓B257_182, ↓a_107, ↓a_109, ↓a_74, ↓n_107, ↓n_109, ↓n_74, ↓o_72, ↓r_72_3, ↓r_72_59, ↓r_72_61, ↓s_107, ↓s_109, ↓s_74, ↓w_72_0, h0, i_lit, i_add, i_sub, i_mul, i_neg, i_lt, i_le, i_eq, i32_gI, i64_gJ, i32_id, i32_to, i64_to, sI_i32, sJ_i64, b01_t, b01_f, i32_b01, b01_0, ↓a_s0, ↓n_s0, ↓a_s1, ↓n_s1, Int.add_zero, t_lt, f_lt, t_le, f_le, t_eq, f_eq, true_and, and_true, false_and, and_false, and_self, ↓reduceIte, z_bool_of, or_true, true_or, or_false, false_or, Int.neg_neg, not_true_eq_false, not_false_eq_true, lg_lt, lg_le, lg_gt, lg_ge, lg_eq, j_lit, j_add, j_sub, j_mul, j_neg, j_eq, i64_id, ij, ji, z_rt, Nat.reduceEqDiff, Nat.reduceAdd, Int.reduceAdd, Int.reduceSub, Int.reduceMul, Int.reduceNeg, Int.reduceLT, Int.reduceLE, Int.reduceEq]
    · rw [if_neg k0]
      generalize lsn f k = pr at hl ⊢
      obtain ⟨a, b⟩ := pr
      simp only [Prod.mk.injEq] at hl
      by_cases q : w = 0
      · rw [if_pos q]
        simp (disch := first | omega | assumption | exact b01_rng _ | exact st_5 | exact st_12 | exact st_19 | (simp only [isSt_sI, isSt_sJ, isSt_sF, isSt_sG, isSt_sA]; assumption)) only [↓B257_166, ↓B257_172, ↓B257_176, ↓B257_182, ↓a_107, ↓a_109, ↓a_74, ↓n_107, ↓n_109, ↓n_74, ↓o_72, ↓r_72_3, ↓r_72_59, ↓r_72_61, ↓s_107, ↓s_109, ↓s_74, ↓w_72_0, h0, q, i_lit, i_add, i_sub, i_mul, i_neg, i_lt, i_le, i_eq, i32_gI, i64_gJ, i32_id, i32_to, i64_to, sI_i32, sJ_i64, b01_t, b01_f, i32_b01, b01_0, ↓a_s0, ↓n_s0, ↓a_s1, ↓n_s1, Int.add_zero, t_lt, f_lt, t_le, f_le, t_eq, f_eq, true_and, and_true, false_and, and_false, and_self, ↓reduceIte, z_bool_of, or_true, true_or, or_false, false_or, Int.neg_neg, not_true_eq_false, not_false_eq_true, lg_lt, lg_le, lg_gt, lg_ge, lg_eq, j_lit, j_add, j_sub, j_mul, j_neg, j_eq, i64_id, ij, ji, z_rt, Nat.reduceEqDiff, Nat.reduceAdd, Int.reduceAdd, Int.reduceSub, Int.reduceMul, Int.reduceNeg, Int.reduceLT, Int.reduceLE, Int.reduceEq]
      · rw [if_neg q]
        simp (disch := first | omega | assumption | exact b01_rng _ | exact st_5 | exact st_12 | exact st_19 | (simp only [isSt_sI, isSt_sJ, isSt_sF, isSt_sG, isSt_sA]; assumption)) only [↓B257_166, ↓B257_172, ↓B257_181, ↓B257_182, ↓a_107, ↓a_109, ↓a_74, ↓n_107, ↓n_109, ↓n_74, ↓o_72, ↓r_72_3, ↓r_72_59, ↓r_72_61, ↓s_107, ↓s_109, ↓s_74, ↓w_72_0, h0, q, i_lit, i_add, i_sub, i_mul, i_neg, i_lt, i_le, i_eq, i32_gI, i64_gJ, i32_id, i32_to, i64_to, sI_i32, sJ_i64, b01_t, b01_f, i32_b01, b01_0, ↓a_s0, ↓n_s0, ↓a_s1, ↓n_s1, Int.add_zero, t_lt, f_lt, t_le, f_le, t_eq, f_eq, true_and, and_true, false_and, and_false, and_self, ↓reduceIte, z_bool_of, or_true, true_or, or_false, false_or, Int.neg_neg, not_true_eq_false, not_false_eq_true, lg_lt, lg_le, lg_gt, lg_ge, lg_eq, j_lit, j_add, j_sub, j_mul, j_neg, j_eq, i64_id, ij, ji, z_rt, Nat.reduceEqDiff, Nat.reduceAdd, Int.reduceAdd, Int.reduceSub, Int.reduceMul, Int.reduceNeg, Int.reduceLT, Int.reduceLE, Int.reduceEq]
  | succ c ih =>
    intro k x6 hc
    have hl := lsn_b f hfb k
    have hk := hfb (k : Int)
    have ev := fun {cm cp : Nat} {L : zL} {st : List Value} => evI (X := X) (d := d) hd (hx k (by omega)) (cm := cm) (cp := cp) (L := L) (st := st)
    have e := ih (k + 1) (vI (f k)) (by omega)
    rw [show ((k + 1 : Nat) : Int) = (k : Int) + 1 by omega] at e
    rw [← e, B257_112, lsR_s f hfb]
    have hlr : -1 ≤ (lsR f k).1 ∧ (lsR f k).1 ≤ 20 ∧ 0 ≤ (lsR f k).2 ∧ (lsR f k).2 ≤ 100000000 := by
      unfold lsR
      by_cases k0 : k = 0
      · rw [if_pos k0]; simp
      · rw [if_neg k0]; omega
    generalize lsR f k = pr at hlr ⊢
    obtain ⟨a, b⟩ := pr
    simp only [] at hlr
    by_cases q2 : f k < b
    · rw [if_pos q2]
      simp (disch := first | omega | assumption | exact b01_rng _ | exact st_5 | exact st_12 | exact st_19 | (simp only [isSt_sI, isSt_sJ, isSt_sF, isSt_sG, isSt_sA]; assumption)) only [↓B257_123, ↓B257_130, ↓B257_138, ↓B257_145, ↓B257_153, ↓B257_159, ↓a_107, ↓a_109, ↓a_74, ↓n_107, ↓n_109, ↓n_74, ↓o_72, ↓r_72_3, ↓r_72_59, ↓r_72_61, ↓s_107, ↓s_109, ↓s_74, ↓w_72_0, ↓o_72, h0, ev, i_lit, i_add, i_sub, i_mul, i_neg, i_lt, i_le, i_eq, i32_gI, i64_gJ, i32_id, i32_to, i64_to, sI_i32, sJ_i64, b01_t, b01_f, i32_b01, b01_0, ↓a_s0, ↓n_s0, ↓a_s1, ↓n_s1, Int.add_zero, t_lt, f_lt, t_le, f_le, t_eq, f_eq, true_and, and_true, false_and, and_false, and_self, ↓reduceIte, z_bool_of, or_true, true_or, or_false, false_or, Int.neg_neg, not_true_eq_false, not_false_eq_true, lg_lt, lg_le, lg_gt, lg_ge, lg_eq, j_lit, j_add, j_sub, j_mul, j_neg, j_eq, i64_id, ij, ji, z_rt, Nat.reduceEqDiff, Nat.reduceAdd, Int.reduceAdd, Int.reduceSub, Int.reduceMul, Int.reduceNeg, Int.reduceLT, Int.reduceLE, Int.reduceEq]
    · rw [if_neg q2]
      simp (disch := first | omega | assumption | exact b01_rng _ | exact st_5 | exact st_12 | exact st_19 | (simp only [isSt_sI, isSt_sJ, isSt_sF, isSt_sG, isSt_sA]; assumption)) only [↓B257_123, ↓B257_130, ↓B257_143, ↓B257_145, ↓B257_158, ↓B257_159, ↓a_107, ↓a_109, ↓a_74, ↓n_107, ↓n_109, ↓n_74, ↓o_72, ↓r_72_3, ↓r_72_59, ↓r_72_61, ↓s_107, ↓s_109, ↓s_74, ↓w_72_0, ↓o_72, h0, ev, i_lit, i_add, i_sub, i_mul, i_neg, i_lt, i_le, i_eq, i32_gI, i64_gJ, i32_id, i32_to, i64_to, sI_i32, sJ_i64, b01_t, b01_f, i32_b01, b01_0, ↓a_s0, ↓n_s0, ↓a_s1, ↓n_s1, Int.add_zero, t_lt, f_lt, t_le, f_le, t_eq, f_eq, true_and, and_true, false_and, and_false, and_self, ↓reduceIte, z_bool_of, or_true, true_or, or_false, false_or, Int.neg_neg, not_true_eq_false, not_false_eq_true, lg_lt, lg_le, lg_gt, lg_ge, lg_eq, j_lit, j_add, j_sub, j_mul, j_neg, j_eq, i64_id, ij, ji, z_rt, Nat.reduceEqDiff, Nat.reduceAdd, Int.reduceAdd, Int.reduceSub, Int.reduceMul, Int.reduceNeg, Int.reduceLT, Int.reduceLE, Int.reduceEq]
theorem lsn_cg {f f' : Int → Int} : ∀ {k : Nat}, (∀ i : Nat, i < k → f' i = f i) → lsn f' k = lsn f k := by
  intro k
  induction k with
  | zero => intro _; rfl
  | succ k ih =>
    intro h
    unfold lsn
    rw [ih (fun i hi => h i (by omega)), h k (by omega)]
theorem p_listen {S : zS} {w : Int} (hw : r32 w) (hd : 200 ≤ d) (hI : Inv PM QL S) : PairAt PM QL X 125 257 [.int (Int32.ofInt w)] S d := by
  obtain ⟨s1, s2, s3⟩ := hI.1.1
  obtain ⟨b1, b2, b3⟩ := hI.1.2.1
  obtain ⟨f1, f2, f3⟩ := hI.1.2.2.2.2.1
  obtain ⟨o, cls, l1, l2⟩ := hI.1.lawp (k := gI S 74 4) (by omega)
  obtain ⟨S1, r, w1, w2, w3, w5⟩ := x124 (X := X) (d := 30) (by omega) hI l1.1 (l1.c78 hI.1 (by omega) (by omega))
  obtain ⟨rr, hrr, hrb⟩ : ∃ rr : Int, r = Int32.ofInt rr ∧ 0 ≤ rr ∧ rr < 64 := by
    obtain ⟨v, v1, v2⟩ := w5.sm (by omega)
    have : 2 ^ (gI S 74 1).toNat ≤ 2 ^ 6 := Nat.pow_le_pow_right (by decide) (by omega)
    exact ⟨(v : Int), v2, by omega, by omega⟩
  subst hrr
  have hQ := ((RefQ.mk hI l2).c w2).fr (FrQm.th (S := S1))
  have ev1 := fun {cm cp : Nat} {L : zL} {st : List Value} => evR (X := X) (d := d) (by omega) w1 (cm := cm) (cp := cp) (L := L) (st := st)
  have hbt : ∀ i, 0 ≤ i → i < 32 → bit1 rr i = 0 ∨ bit1 rr i = 1 := fun i q1 q2 => by
    rcases w5.bit1 (by omega) (i := i) ⟨q1, q2⟩ with ⟨z, -⟩ | ⟨z, -⟩ <;> omega
  -- the reference's canBe, wherever the class has gone on to
  have refc : ∀ T : zS, FrQc S T → ∃ T' : zS, z_ev X 30 (z_entry 254 [.ref 72] (mk (sI T 72 0 0))) = some (some (.int (Int32.ofInt rr)), mk T') ∧ FrQm T T' ∧ RefQ T' cls ∧ gI T' 74 = gI S 74 := fun T hT => by
    have hQ := ((RefQ.mk hI l2).c hT).fr (FrQm.th (S := T))
    have g2 : gI (sI T 72 0 0) 74 = gI S 74 := by rw [(FrQm.th (S := T)).g, hT.g]
    obtain ⟨T', r', u1, u2, u3⟩ := x254 (X := X) (d := 30) (by omega) hQ (by rw [g2]; exact hI.1.hdb) (by rw [g2]; exact hI.1.mets)
    rw [g2] at u3
    have e := w5.uniq u3
    subst e
    exact ⟨T', u1, FrQm.th.tr u2, hQ.fr u2, u2.g.trans g2⟩
  have c150' := fun (T : zS) {cm cp : Nat} {L : zL} {st : List Value} => c150 (X := X) (d := d) (by omega) (cm := cm) (cp := cp) (L := L) (st := st) (S := T) w 0 1 (by omega) (by omega) (by omega)
  by_cases q : (0 ≤ w ∧ w ≤ 1) ∧ rr ≠ 0
  · obtain ⟨q, q0⟩ := q
    have hI1 := hI.qc w2 w3
    have g1 := w2.g
    obtain ⟨S2, e1, e2, e3, e4⟩ := l125a (X := X) (d := d) (w := w) (rr := rr) (cls := cls) (by omega) w5 ⟨b2, b3⟩ l2 6 0 S1 (by omega) (by omega) hI1 g1 (l1.fr w2) (fun j q1 q2 => by omega)
    have hF2 := w2.tr e2
    have hJ : ∀ j, 0 ≤ j → j < 6 → 0 ≤ gJ S2 69 j ∧ gJ S2 69 j ≤ 1152921504606846976 := fun j q1 q2 => by
      rcases e4 j q1 q2 with ⟨-, z, -⟩ | ⟨-, z⟩ <;> omega
    have cl := l125b (X := X) (d := d) (w := w) (rr := rr) (by omega) (S := S2) (n := gI S 74 0) q (by rw [hF2.2.1 5 6 (by omega)]; exact s1) ⟨s2, s3⟩ hJ (gI S 74 0).toNat 0 none (by omega)
    obtain ⟨T1, t1, t2, t3, t4⟩ := refc S2 hF2
    have ev2 := fun {cm cp : Nat} {L : zL} {st : List Value} => evR (X := X) (d := d) (by omega) t1 (cm := cm) (cp := cp) (L := L) (st := st)
    obtain ⟨T2, y4, u1, u2, u3⟩ := l257a (X := X) (d := d) (w := w) (rr := rr) (cls := cls) (V := gJ S2 69) (by omega) ⟨b2, b3⟩ hbt e4 (gI S 74 1).toNat 0 T1 none (by omega) (by omega) t3 t4 (fun m s q1 q2 => by omega)
    have g3 : gI T2 74 = gI S 74 := u2.g.trans t4
    have rl := l257c (X := X) (d := d) (w := w) (rr := rr) (n := (gI S 74 1).toNat) (by omega) (S := T2) (n0 := gI S 74 0) q (by rw [g3]) ⟨s2, s3⟩ (by omega) (by rw [g3]; omega) hbt (gI S 74 0).toNat 0 none (by omega)
    -- both count alike
    have hcnt : ∀ i : Nat, i < (gI S 74 0).toNat → (fun s => mx3 (fun v => cn (cbR T2 rr s v) (gI S 74 1).toNat)) (i : Int) = (fun s => mx3 (fun v => cn (cbC S2 s v) 6)) (i : Int) := fun i hi => by
      show mx3 (fun v => cn (cbR T2 rr i v) (gI S 74 1).toNat) = mx3 (fun v => cn (cbC S2 i v) 6)
      congr 1
      funext v
      obtain ⟨kk, hkk⟩ : ∃ kk : Nat, 6 = (gI S 74 1).toNat + kk := ⟨6 - (gI S 74 1).toNat, by omega⟩
      rw [show cn (cbC S2 i v) 6 = cn (cbC S2 i v) ((gI S 74 1).toNat + kk) from by rw [← hkk]]
      rw [cn_no (fun j z1 z2 => by
        rcases w5.bit1 (by omega) (i := (j : Int)) ⟨by omega, by omega⟩ with ⟨-, z, -⟩ | ⟨z, -⟩
        · omega
        · rcases e4 j (by omega) (by omega) with ⟨y, -⟩ | ⟨-, y⟩
          · rw [y] at z; omega
          · exact decide_eq_false (fun x => by rw [y] at x; omega))]
      refine cn_cg (fun j hj => ?_)
      rcases e4 j (by omega) (by omega) with ⟨y, z, -⟩ | ⟨y, z⟩
      · have := u3 j i (by omega) (by omega) y (by omega) (by omega)
        show decide _ = decide _
        rw [this]
        exact decide_eq_decide.mpr ⟨fun x => ⟨z.2, x.2⟩, fun x => ⟨y, x.2⟩⟩
      · show decide _ = decide _
        exact decide_eq_decide.mpr ⟨fun x => by rw [y] at x; omega, fun x => by rw [z] at x; omega⟩
    rw [lsn_cg (f' := fun s => mx3 (fun v => cn (cbR T2 rr s v) (gI S 74 1).toNat)) (f := fun s => mx3 (fun v => cn (cbC S2 s v) 6)) hcnt] at rl
    refine pair_q hI (S1 := S2) (S2 := T2) (v := if w = 0 then (lsn (fun s => mx3 (fun v => cn (cbC S2 s v) 6)) (gI S 74 0).toNat).1 else (lsn (fun s => mx3 (fun v => cn (cbC S2 s v) 6)) (gI S 74 0).toNat).2) ?_ hF2 e3 ?_ (t2.tr u2)
    · rw [← cl]
      show z_ev X d (125, 0, [some (.ref 4), some (.int (Int32.ofInt w)), none, none, none, none, none], [], mk S) = _
      have a1 : z_ev X d (125, 0, [some (.ref 4), some (.int (Int32.ofInt w)), none, none, none, none, none], [], mk S) = z_ev X d (125, 22, L125a w rr 0, [], mk S1) := by
        simp (disch := first | omega | assumption | exact b01_rng _ | exact st_5 | exact st_12 | exact st_19 | (simp only [isSt_sI, isSt_sJ, isSt_sF, isSt_sG, isSt_sA]; assumption)) only [↓B125_0, ↓B125_4, ↓B125_9, ↓B125_14, ↓B125_20, ↓o_4, ev1, q0, i_lit, i_add, i_sub, i_mul, i_neg, i_lt, i_le, i_eq, i32_gI, i64_gJ, i32_id, i32_to, i64_to, sI_i32, sJ_i64, b01_t, b01_f, i32_b01, b01_0, ↓a_s0, ↓n_s0, ↓a_s1, ↓n_s1, Int.add_zero, t_lt, f_lt, t_le, f_le, t_eq, f_eq, true_and, and_true, false_and, and_false, and_self, ↓reduceIte, z_bool_of, or_true, true_or, or_false, false_or, Int.neg_neg, not_true_eq_false, not_false_eq_true, lg_lt, lg_le, lg_gt, lg_ge, lg_eq, j_lit, j_add, j_sub, j_mul, j_neg, j_eq, i64_id, ij, ji, z_rt, Nat.reduceEqDiff, Nat.reduceAdd, Int.reduceAdd, Int.reduceSub, Int.reduceMul, Int.reduceNeg, Int.reduceLT, Int.reduceLE, Int.reduceEq]
      rw [a1, e1]
      show _ = z_ev X d (125, 78, L125b w rr (-1) (-1) 0 none, [], mk S2)
      simp (disch := first | omega | assumption | exact b01_rng _ | exact st_5 | exact st_12 | exact st_19 | (simp only [isSt_sI, isSt_sJ, isSt_sF, isSt_sG, isSt_sA]; assumption)) only [↓B125_70, i_lit, i_add, i_sub, i_mul, i_neg, i_lt, i_le, i_eq, i32_gI, i64_gJ, i32_id, i32_to, i64_to, sI_i32, sJ_i64, b01_t, b01_f, i32_b01, b01_0, ↓a_s0, ↓n_s0, ↓a_s1, ↓n_s1, Int.add_zero, t_lt, f_lt, t_le, f_le, t_eq, f_eq, true_and, and_true, false_and, and_false, and_self, ↓reduceIte, z_bool_of, or_true, true_or, or_false, false_or, Int.neg_neg, not_true_eq_false, not_false_eq_true, lg_lt, lg_le, lg_gt, lg_ge, lg_eq, j_lit, j_add, j_sub, j_mul, j_neg, j_eq, i64_id, ij, ji, z_rt, Nat.reduceEqDiff, Nat.reduceAdd, Int.reduceAdd, Int.reduceSub, Int.reduceMul, Int.reduceNeg, Int.reduceLT, Int.reduceLE, Int.reduceEq]
    · rw [← rl]
      show z_ev X d (257, 0, [some (.ref 72), some (.int (Int32.ofInt w)), none, none, none, none, none], [], mk S2) = _
      have a1 : z_ev X d (257, 0, [some (.ref 72), some (.int (Int32.ofInt w)), none, none, none, none, none], [], mk S2) = z_ev X d (257, 28, L257 w rr 0 none, [], mk T1) := by
        have cc := fun {cm cp : Nat} {L : zL} {st : List Value} => c150' T1 (cm := cm) (cp := cp) (L := L) (st := st)
        rw [show b01 (0 ≤ w ∧ w ≤ 1) = 1 from if_pos q] at cc
        simp (disch := first | omega | assumption | exact b01_rng _ | exact st_5 | exact st_12 | exact st_19 | (simp only [isSt_sI, isSt_sJ, isSt_sF, isSt_sG, isSt_sA]; assumption)) only [↓B257_0, ↓B257_9, ↓B257_17, ↓B257_20, ↓B257_26, ↓a_107, ↓a_109, ↓a_74, ↓n_107, ↓n_109, ↓n_74, ↓o_72, ↓r_72_3, ↓r_72_59, ↓r_72_61, ↓s_107, ↓s_109, ↓s_74, ↓w_72_0, ↓o_72, ev2, cc, q0, i_lit, i_add, i_sub, i_mul, i_neg, i_lt, i_le, i_eq, i32_gI, i64_gJ, i32_id, i32_to, i64_to, sI_i32, sJ_i64, b01_t, b01_f, i32_b01, b01_0, ↓a_s0, ↓n_s0, ↓a_s1, ↓n_s1, Int.add_zero, t_lt, f_lt, t_le, f_le, t_eq, f_eq, true_and, and_true, false_and, and_false, and_self, ↓reduceIte, z_bool_of, or_true, true_or, or_false, false_or, Int.neg_neg, not_true_eq_false, not_false_eq_true, lg_lt, lg_le, lg_gt, lg_ge, lg_eq, j_lit, j_add, j_sub, j_mul, j_neg, j_eq, i64_id, ij, ji, z_rt, Nat.reduceEqDiff, Nat.reduceAdd, Int.reduceAdd, Int.reduceSub, Int.reduceMul, Int.reduceNeg, Int.reduceLT, Int.reduceLE, Int.reduceEq]
      rw [a1, u1]
      show _ = z_ev X d (257, 112, L257b w rr 100000000 (-1) 0 none, [], mk T2)
      simp (disch := first | omega | assumption | exact b01_rng _ | exact st_5 | exact st_12 | exact st_19 | (simp only [isSt_sI, isSt_sJ, isSt_sF, isSt_sG, isSt_sA]; assumption)) only [↓B257_102, i_lit, i_add, i_sub, i_mul, i_neg, i_lt, i_le, i_eq, i32_gI, i64_gJ, i32_id, i32_to, i64_to, sI_i32, sJ_i64, b01_t, b01_f, i32_b01, b01_0, ↓a_s0, ↓n_s0, ↓a_s1, ↓n_s1, Int.add_zero, t_lt, f_lt, t_le, f_le, t_eq, f_eq, true_and, and_true, false_and, and_false, and_self, ↓reduceIte, z_bool_of, or_true, true_or, or_false, false_or, Int.neg_neg, not_true_eq_false, not_false_eq_true, lg_lt, lg_le, lg_gt, lg_ge, lg_eq, j_lit, j_add, j_sub, j_mul, j_neg, j_eq, i64_id, ij, ji, z_rt, Nat.reduceEqDiff, Nat.reduceAdd, Int.reduceAdd, Int.reduceSub, Int.reduceMul, Int.reduceNeg, Int.reduceLT, Int.reduceLE, Int.reduceEq]
  · obtain ⟨T1, t1, t2, t3, t4⟩ := refc S1 w2
    have ev2 := fun {cm cp : Nat} {L : zL} {st : List Value} => evR (X := X) (d := d) (by omega) t1 (cm := cm) (cp := cp) (L := L) (st := st)
    refine pair_q (v := -1) hI (S1 := S1) (S2 := T1) ?_ w2 w3 ?_ t2
    · show z_ev X d (125, 0, [some (.ref 4), some (.int (Int32.ofInt w)), none, none, none, none, none], [], mk S) = _
      by_cases z1 : w < 0
      · simp (disch := first | omega | assumption | exact b01_rng _ | exact st_5 | exact st_12 | exact st_19 | (simp only [isSt_sI, isSt_sJ, isSt_sF, isSt_sG, isSt_sA]; assumption)) only [↓B125_0, ↓B125_4, ↓B125_18, ↓o_4, ev1, i_lit, i_add, i_sub, i_mul, i_neg, i_lt, i_le, i_eq, i32_gI, i64_gJ, i32_id, i32_to, i64_to, sI_i32, sJ_i64, b01_t, b01_f, i32_b01, b01_0, ↓a_s0, ↓n_s0, ↓a_s1, ↓n_s1, Int.add_zero, t_lt, f_lt, t_le, f_le, t_eq, f_eq, true_and, and_true, false_and, and_false, and_self, ↓reduceIte, z_bool_of, or_true, true_or, or_false, false_or, Int.neg_neg, not_true_eq_false, not_false_eq_true, lg_lt, lg_le, lg_gt, lg_ge, lg_eq, j_lit, j_add, j_sub, j_mul, j_neg, j_eq, i64_id, ij, ji, z_rt, Nat.reduceEqDiff, Nat.reduceAdd, Int.reduceAdd, Int.reduceSub, Int.reduceMul, Int.reduceNeg, Int.reduceLT, Int.reduceLE, Int.reduceEq]
      · by_cases z2 : 1 < w
        · simp (disch := first | omega | assumption | exact b01_rng _ | exact st_5 | exact st_12 | exact st_19 | (simp only [isSt_sI, isSt_sJ, isSt_sF, isSt_sG, isSt_sA]; assumption)) only [↓B125_0, ↓B125_4, ↓B125_9, ↓B125_18, ↓o_4, ev1, i_lit, i_add, i_sub, i_mul, i_neg, i_lt, i_le, i_eq, i32_gI, i64_gJ, i32_id, i32_to, i64_to, sI_i32, sJ_i64, b01_t, b01_f, i32_b01, b01_0, ↓a_s0, ↓n_s0, ↓a_s1, ↓n_s1, Int.add_zero, t_lt, f_lt, t_le, f_le, t_eq, f_eq, true_and, and_true, false_and, and_false, and_self, ↓reduceIte, z_bool_of, or_true, true_or, or_false, false_or, Int.neg_neg, not_true_eq_false, not_false_eq_true, lg_lt, lg_le, lg_gt, lg_ge, lg_eq, j_lit, j_add, j_sub, j_mul, j_neg, j_eq, i64_id, ij, ji, z_rt, Nat.reduceEqDiff, Nat.reduceAdd, Int.reduceAdd, Int.reduceSub, Int.reduceMul, Int.reduceNeg, Int.reduceLT, Int.reduceLE, Int.reduceEq]
        · have z3 : rr = 0 := Classical.byContradiction fun y => q ⟨by omega, y⟩
          simp (disch := first | omega | assumption | exact b01_rng _ | exact st_5 | exact st_12 | exact st_19 | (simp only [isSt_sI, isSt_sJ, isSt_sF, isSt_sG, isSt_sA]; assumption)) only [↓B125_0, ↓B125_4, ↓B125_9, ↓B125_14, ↓B125_18, ↓o_4, ev1, z3, i_lit, i_add, i_sub, i_mul, i_neg, i_lt, i_le, i_eq, i32_gI, i64_gJ, i32_id, i32_to, i64_to, sI_i32, sJ_i64, b01_t, b01_f, i32_b01, b01_0, ↓a_s0, ↓n_s0, ↓a_s1, ↓n_s1, Int.add_zero, t_lt, f_lt, t_le, f_le, t_eq, f_eq, true_and, and_true, false_and, and_false, and_self, ↓reduceIte, z_bool_of, or_true, true_or, or_false, false_or, Int.neg_neg, not_true_eq_false, not_false_eq_true, lg_lt, lg_le, lg_gt, lg_ge, lg_eq, j_lit, j_add, j_sub, j_mul, j_neg, j_eq, i64_id, ij, ji, z_rt, Nat.reduceEqDiff, Nat.reduceAdd, Int.reduceAdd, Int.reduceSub, Int.reduceMul, Int.reduceNeg, Int.reduceLT, Int.reduceLE, Int.reduceEq]
    · show z_ev X d (257, 0, [some (.ref 72), some (.int (Int32.ofInt w)), none, none, none, none, none], [], mk S1) = _
      have cc := fun {cm cp : Nat} {L : zL} {st : List Value} => c150' T1 (cm := cm) (cp := cp) (L := L) (st := st)
      by_cases z1 : 0 ≤ w ∧ w ≤ 1
      · rw [show b01 (0 ≤ w ∧ w ≤ 1) = 1 from if_pos z1] at cc
        have z3 : rr = 0 := Classical.byContradiction fun y => q ⟨z1, y⟩
        simp (disch := first | omega | assumption | exact b01_rng _ | exact st_5 | exact st_12 | exact st_19 | (simp only [isSt_sI, isSt_sJ, isSt_sF, isSt_sG, isSt_sA]; assumption)) only [↓B257_0, ↓B257_9, ↓B257_17, ↓B257_20, ↓B257_24, ↓a_107, ↓a_109, ↓a_74, ↓n_107, ↓n_109, ↓n_74, ↓o_72, ↓r_72_3, ↓r_72_59, ↓r_72_61, ↓s_107, ↓s_109, ↓s_74, ↓w_72_0, ↓o_72, ev2, cc, z3, i_lit, i_add, i_sub, i_mul, i_neg, i_lt, i_le, i_eq, i32_gI, i64_gJ, i32_id, i32_to, i64_to, sI_i32, sJ_i64, b01_t, b01_f, i32_b01, b01_0, ↓a_s0, ↓n_s0, ↓a_s1, ↓n_s1, Int.add_zero, t_lt, f_lt, t_le, f_le, t_eq, f_eq, true_and, and_true, false_and, and_false, and_self, ↓reduceIte, z_bool_of, or_true, true_or, or_false, false_or, Int.neg_neg, not_true_eq_false, not_false_eq_true, lg_lt, lg_le, lg_gt, lg_ge, lg_eq, j_lit, j_add, j_sub, j_mul, j_neg, j_eq, i64_id, ij, ji, z_rt, Nat.reduceEqDiff, Nat.reduceAdd, Int.reduceAdd, Int.reduceSub, Int.reduceMul, Int.reduceNeg, Int.reduceLT, Int.reduceLE, Int.reduceEq]
      · rw [show b01 (0 ≤ w ∧ w ≤ 1) = 0 from if_neg z1] at cc
        simp (disch := first | omega | assumption | exact b01_rng _ | exact st_5 | exact st_12 | exact st_19 | (simp only [isSt_sI, isSt_sJ, isSt_sF, isSt_sG, isSt_sA]; assumption)) only [↓B257_0, ↓B257_9, ↓B257_17, ↓B257_24, ↓a_107, ↓a_109, ↓a_74, ↓n_107, ↓n_109, ↓n_74, ↓o_72, ↓r_72_3, ↓r_72_59, ↓r_72_61, ↓s_107, ↓s_109, ↓s_74, ↓w_72_0, ↓o_72, ev2, cc, i_lit, i_add, i_sub, i_mul, i_neg, i_lt, i_le, i_eq, i32_gI, i64_gJ, i32_id, i32_to, i64_to, sI_i32, sJ_i64, b01_t, b01_f, i32_b01, b01_0, ↓a_s0, ↓n_s0, ↓a_s1, ↓n_s1, Int.add_zero, t_lt, f_lt, t_le, f_le, t_eq, f_eq, true_and, and_true, false_and, and_false, and_self, ↓reduceIte, z_bool_of, or_true, true_or, or_false, false_or, Int.neg_neg, not_true_eq_false, not_false_eq_true, lg_lt, lg_le, lg_gt, lg_ge, lg_eq, j_lit, j_add, j_sub, j_mul, j_neg, j_eq, i64_id, ij, ji, z_rt, Nat.reduceEqDiff, Nat.reduceAdd, Int.reduceAdd, Int.reduceSub, Int.reduceMul, Int.reduceNeg, Int.reduceLT, Int.reduceLE, Int.reduceEq]
end
