/-! METRES AS THEY ARE READ: what both sides must come to -/
/-- a fault at a token, or signs and the token behind -/
abbrev pR : Type := Nat ⊕ (List Int × Nat)
def pTimes (c v : Nat → Int) (r : List Int) (t : Nat) : pR := if c t = 261 then (if c (t + 1) = 300 ∧ 1 ≤ v (t + 1) ∧ v (t + 1) ≤ 9 then .inr (r ++ [6 + v (t + 1)], t + 2) else .inl (t + 1)) else .inr (r, t)
/-- a unit, brackets being read by M (none: too deep) -/
def pUnit (c v : Nat → Int) (M : Option (Nat → pR)) (t : Nat) : pR := match M with
  | some f => if c t = 40 then (match f (t + 1) with
      | .inl e => .inl e
      | .inr (r, t1) => if c t1 = 41 then pTimes c v r (t1 + 1) else .inl t1) else if 256 ≤ c t ∧ c t ≤ 259 then pTimes c v [c t - 256] (t + 1) else .inl t
  | none => if 256 ≤ c t ∧ c t ≤ 259 then pTimes c v [c t - 256] (t + 1) else .inl t
def begU (c : Int) : Prop := c = 40 ∨ 256 ≤ c ∧ c ≤ 259
/-- rows of units (sign 4), of choices (sign 5): acc is what was read, sg joins; go on while 'more' (which says from where) -/
def pRow (U : Nat → pR) (more : Nat → Option Nat) (sg : Int) : Nat → List Int → Nat → pR
  | 0, _, t => .inl t
  | m + 1, acc, t => match U t with
    | .inl e => .inl e
    | .inr (r, t1) => match more t1 with
      | some t2 => pRow U more sg m (if acc = [] then r else acc ++ r ++ [sg]) t2
      | none => .inr (if acc = [] then r else acc ++ r ++ [sg], t1)
noncomputable def moreU (c : Nat → Int) (t : Nat) : Option Nat := @ite _ (begU (c t)) (Classical.propDecidable _) (some t) none
def moreC (c : Nat → Int) (t : Nat) : Option Nat := if c t = 260 then some (t + 1) else none
noncomputable def pCh (c v : Nat → Int) (M : Option (Nat → pR)) (t : Nat) : pR := pRow (pUnit c v M) (moreU c) 4 500 [] t
noncomputable def pMe (c v : Nat → Int) (M : Option (Nat → pR)) (t : Nat) : pR := pRow (pCh c v M) (moreC c) 5 500 [] t
/-- a metre, so many brackets deeper at most -/
noncomputable def pM (c v : Nat → Int) : Nat → Nat → pR
  | 0, t => pMe c v none t
  | d + 1, t => pMe c v (some (pM c v d)) t
theorem e38a {X : zX} {d : Nat} (hd : 0 ≤ d) {S : zS} (a m : Nat) (i : Int) (ha : zdes S a = some (.inr (0, m))) (h4 : 4 ≤ a) (hm : m < 1000) (hi : 0 ≤ i ∧ i < m) : z_ev X d (z_entry 38 [.ref a, .int (Int32.ofInt i)] (mk S)) = some (some (.int (Int32.ofInt (gI S a i))), mk S) := by
  show z_ev X d (38, 0, [some (.ref a), some (.int (Int32.ofInt i))], [], mk S) = _
  simp (disch := first | omega | assumption | exact b01_rng _ | exact st_5 | exact st_12 | exact st_19 | (simp only [isSt_sI, isSt_sJ, isSt_sF, isSt_sG, isSt_sA]; assumption)) only [↓B38_0, ↓B38_4, ↓B38_10, ↓B38_17, i_lit, i_add, i_sub, i_mul, i_neg, i_lt, i_le, i_eq, i32_gI, i64_gJ, i32_id, i32_to, i64_to, sI_i32, sJ_i64, b01_t, b01_f, i32_b01, b01_0, ↓a_s0, ↓n_s0, ↓a_s1, ↓n_s1, Int.add_zero, t_lt, f_lt, t_le, f_le, t_eq, f_eq, true_and, and_true, false_and, and_false, and_self, ↓reduceIte, z_bool_of, or_true, true_or, or_false, false_or, Int.neg_neg, not_true_eq_false, not_false_eq_true, lg_lt, lg_le, lg_gt, lg_ge, lg_eq, j_lit, j_add, j_sub, j_mul, j_neg, j_eq, i64_id, ij, ji, z_rt, Nat.reduceEqDiff, Nat.reduceAdd, Int.reduceAdd, Int.reduceSub, Int.reduceMul, Int.reduceNeg, Int.reduceLT, Int.reduceLE, Int.reduceEq, ↓L_len (X := X) h4 (show 0 < 6 by decide) ha, ↓G_ald (X := X) h4 (Or.inl rfl) ha]
theorem c38a {X : zX} {d : Nat} (hd : 0 < d) {S : zS} (a m : Nat) (i : Int) (ha : zdes S a = some (.inr (0, m))) (h4 : 4 ≤ a) (hm : m < 1000) (hi : 0 ≤ i ∧ i < m) {cm cp : Nat} {L : zL} {st : List Value} : z_evc X d 38 [.ref a, .int (Int32.ofInt i)] (cm, cp, L, st, mk S) = z_ev X d (cm, cp, L, .int (Int32.ofInt (gI S a i)) :: st, mk S) := z_evc_of (r := (some (.int (Int32.ofInt (gI S a i))), mk S)) (ck := (cm, cp, L, st, mk S)) hd (e38a (X := X) (Nat.le_refl _) a m i ha h4 hm hi)
theorem e38b {X : zX} {d : Nat} (hd : 0 ≤ d) {S : zS} (a m : Nat) (i : Int) (ha : zdes S a = some (.inr (0, m))) (h4 : 4 ≤ a) (hm : m < 1000) (hi : r32 i) (hi2 : i < 0 ∨ m ≤ i) : z_ev X d (z_entry 38 [.ref a, .int (Int32.ofInt i)] (mk S)) = some (some (.int (Int32.ofInt (-1))), mk S) := by
  show z_ev X d (38, 0, [some (.ref a), some (.int (Int32.ofInt i))], [], mk S) = _
  by_cases q : i < 0
  · simp (disch := first | omega | assumption | exact b01_rng _ | exact st_5 | exact st_12 | exact st_19 | (simp only [isSt_sI, isSt_sJ, isSt_sF, isSt_sG, isSt_sA]; assumption)) only [↓B38_0, ↓B38_16, ↓B38_17, i_lit, i_add, i_sub, i_mul, i_neg, i_lt, i_le, i_eq, i32_gI, i64_gJ, i32_id, i32_to, i64_to, sI_i32, sJ_i64, b01_t, b01_f, i32_b01, b01_0, ↓a_s0, ↓n_s0, ↓a_s1, ↓n_s1, Int.add_zero, t_lt, f_lt, t_le, f_le, t_eq, f_eq, true_and, and_true, false_and, and_false, and_self, ↓reduceIte, z_bool_of, or_true, true_or, or_false, false_or, Int.neg_neg, not_true_eq_false, not_false_eq_true, lg_lt, lg_le, lg_gt, lg_ge, lg_eq, j_lit, j_add, j_sub, j_mul, j_neg, j_eq, i64_id, ij, ji, z_rt, Nat.reduceEqDiff, Nat.reduceAdd, Int.reduceAdd, Int.reduceSub, Int.reduceMul, Int.reduceNeg, Int.reduceLT, Int.reduceLE, Int.reduceEq]
  · simp (disch := first | omega | assumption | exact b01_rng _ | exact st_5 | exact st_12 | exact st_19 | (simp only [isSt_sI, isSt_sJ, isSt_sF, isSt_sG, isSt_sA]; assumption)) only [↓B38_0, ↓B38_4, ↓B38_16, ↓B38_17, i_lit, i_add, i_sub, i_mul, i_neg, i_lt, i_le, i_eq, i32_gI, i64_gJ, i32_id, i32_to, i64_to, sI_i32, sJ_i64, b01_t, b01_f, i32_b01, b01_0, ↓a_s0, ↓n_s0, ↓a_s1, ↓n_s1, Int.add_zero, t_lt, f_lt, t_le, f_le, t_eq, f_eq, true_and, and_true, false_and, and_false, and_self, ↓reduceIte, z_bool_of, or_true, true_or, or_false, false_or, Int.neg_neg, not_true_eq_false, not_false_eq_true, lg_lt, lg_le, lg_gt, lg_ge, lg_eq, j_lit, j_add, j_sub, j_mul, j_neg, j_eq, i64_id, ij, ji, z_rt, Nat.reduceEqDiff, Nat.reduceAdd, Int.reduceAdd, Int.reduceSub, Int.reduceMul, Int.reduceNeg, Int.reduceLT, Int.reduceLE, Int.reduceEq, ↓L_len (X := X) h4 (show 0 < 6 by decide) ha]
theorem c38b {X : zX} {d : Nat} (hd : 0 < d) {S : zS} (a m : Nat) (i : Int) (ha : zdes S a = some (.inr (0, m))) (h4 : 4 ≤ a) (hm : m < 1000) (hi : r32 i) (hi2 : i < 0 ∨ m ≤ i) {cm cp : Nat} {L : zL} {st : List Value} : z_evc X d 38 [.ref a, .int (Int32.ofInt i)] (cm, cp, L, st, mk S) = z_ev X d (cm, cp, L, .int (Int32.ofInt (-1)) :: st, mk S) := z_evc_of (r := (some (.int (Int32.ofInt (-1))), mk S)) (ck := (cm, cp, L, st, mk S)) hd (e38b (X := X) (Nat.le_refl _) a m i ha h4 hm hi hi2)
/-- number: good .. -/
theorem z180 {X : zX} {d : Nat} (hd : 3 < d) {b : Int → Int} {n : Int} {t : Nat} (hT : Tape b n) {S : zS} (h : MAt S b n t) {lo hi : Int} (hlo : 0 ≤ lo ∧ lo < 100000) (hhi : 0 ≤ hi ∧ hi < 100000) (hs : tsort b n (tpos b n t) = 2) (hw : lo ≤ tworth b n (tpos b n t) ∧ tworth b n (tpos b n t) ≤ hi) : ∃ S' : zS, (∀ {cm cp : Nat} {L : zL} {st : List Value}, z_evc X d 180 [.ref 72, .long (Int64.ofInt lo), .long (Int64.ofInt hi)] (cm, cp, L, st, mk S) = z_ev X d (cm, cp, L, .int (Int32.ofInt (tworth b n (tpos b n t))) :: st, mk S')) ∧ MAt S' b n (t + 1) ∧ FrN S S' := by
  obtain ⟨S', g1, g2, g3⟩ := z179 (X := X) (d := 3) (by omega) hT h
  have h1 : gI S 72 16 = 2 := by rw [h.2.2.1.2.2.1]; exact hs
  have h2 := h.2.2.1.2.2.2
  have : z_ev X 3 (z_entry 180 [.ref 72, .long (Int64.ofInt lo), .long (Int64.ofInt hi)] (mk S)) = some (some (.int (Int32.ofInt (tworth b n (tpos b n t)))), mk S') := by
    show z_ev X 3 (180, 0, [some (.ref 72), some (.long (Int64.ofInt lo)), none, some (.long (Int64.ofInt hi)), none, none], [], mk S) = _
    simp (disch := first | omega | assumption | exact b01_rng _ | exact st_5 | exact st_12 | exact st_19 | (simp only [isSt_sI, isSt_sJ, isSt_sF, isSt_sG, isSt_sA]; assumption)) only [↓B180_0, ↓B180_16, ↓B180_25, ↓B180_28, ↓B180_32, ↓B180_33, ↓B180_36, ↓o_72, ↓r_72_16, ↓r_72_17, c150, i_lit, i_add, i_sub, i_mul, i_neg, i_lt, i_le, i_eq, i32_gI, i64_gJ, i32_id, i32_to, i64_to, sI_i32, sJ_i64, b01_t, b01_f, i32_b01, b01_0, ↓a_s0, ↓n_s0, ↓a_s1, ↓n_s1, Int.add_zero, t_lt, f_lt, t_le, f_le, t_eq, f_eq, true_and, and_true, false_and, and_false, and_self, ↓reduceIte, z_bool_of, or_true, true_or, or_false, false_or, Int.neg_neg, not_true_eq_false, not_false_eq_true, lg_lt, lg_le, lg_gt, lg_ge, lg_eq, j_lit, j_add, j_sub, j_mul, j_neg, j_eq, i64_id, ij, ji, z_rt, Nat.reduceEqDiff, Nat.reduceAdd, Int.reduceAdd, Int.reduceSub, Int.reduceMul, Int.reduceNeg, Int.reduceLT, Int.reduceLE, Int.reduceEq, h1, h2, g1]
  exact ⟨S', fun {cm cp L st} => z_evc_of (r := (some (.int (Int32.ofInt (tworth b n (tpos b n t)))), mk S')) (ck := (cm, cp, L, st, mk S)) hd this, g2, g3⟩
/-- .. or not -/
theorem y180 {X : zX} {d : Nat} (hd : 3 < d) {S : zS} (h0 : gI S 72 19 = 0) {lo hi w : Int} (hlo : 0 ≤ lo ∧ lo < 100000) (hhi : 0 ≤ hi ∧ hi < 100000) (hw : gJ S 72 17 = w) (hn : ¬ (gI S 72 16 = 2 ∧ lo ≤ w ∧ w ≤ hi)) {cm cp : Nat} {L : zL} {st : List Value} : z_evc X d 180 [.ref 72, .long (Int64.ofInt lo), .long (Int64.ofInt hi)] (cm, cp, L, st, mk S) = z_ev X d (cm, cp, L, .int (Int32.ofInt w) :: st, mk (sI (sI S 72 19 1) 72 18 (gI S 72 14))) := by
  have hr := gJ_rng S 72 17
  have hr2 := gI_rng S 72 16
  have : z_ev X 3 (z_entry 180 [.ref 72, .long (Int64.ofInt lo), .long (Int64.ofInt hi)] (mk S)) = some (some (.int (Int32.ofInt w)), mk (sI (sI S 72 19 1) 72 18 (gI S 72 14))) := by
    show z_ev X 3 (180, 0, [some (.ref 72), some (.long (Int64.ofInt lo)), none, some (.long (Int64.ofInt hi)), none, none], [], mk S) = _
    rw [hw] at hr
    by_cases q : gI S 72 16 = 2
    · have q2 : ¬ (lo ≤ w ∧ w ≤ hi) := fun h => hn ⟨q, h⟩
      simp (disch := first | omega | assumption | exact b01_rng _ | exact st_5 | exact st_12 | exact st_19 | (simp only [isSt_sI, isSt_sJ, isSt_sF, isSt_sG, isSt_sA]; assumption)) only [↓B180_0, ↓B180_16, ↓B180_25, ↓B180_28, ↓B180_32, ↓B180_33, ↓B180_36, ↓o_72, ↓r_72_16, ↓r_72_17, c150, c179b, i_lit, i_add, i_sub, i_mul, i_neg, i_lt, i_le, i_eq, i32_gI, i64_gJ, i32_id, i32_to, i64_to, sI_i32, sJ_i64, b01_t, b01_f, i32_b01, b01_0, ↓a_s0, ↓n_s0, ↓a_s1, ↓n_s1, Int.add_zero, t_lt, f_lt, t_le, f_le, t_eq, f_eq, true_and, and_true, false_and, and_false, and_self, ↓reduceIte, z_bool_of, or_true, true_or, or_false, false_or, Int.neg_neg, not_true_eq_false, not_false_eq_true, lg_lt, lg_le, lg_gt, lg_ge, lg_eq, j_lit, j_add, j_sub, j_mul, j_neg, j_eq, i64_id, ij, ji, z_rt, Nat.reduceEqDiff, Nat.reduceAdd, Int.reduceAdd, Int.reduceSub, Int.reduceMul, Int.reduceNeg, Int.reduceLT, Int.reduceLE, Int.reduceEq, hw, q, q2]
    · simp (disch := first | omega | assumption | exact b01_rng _ | exact st_5 | exact st_12 | exact st_19 | (simp only [isSt_sI, isSt_sJ, isSt_sF, isSt_sG, isSt_sA]; assumption)) only [↓B180_0, ↓B180_16, ↓B180_25, ↓B180_28, ↓B180_32, ↓B180_33, ↓B180_36, ↓o_72, ↓r_72_16, ↓r_72_17, c179b, i_lit, i_add, i_sub, i_mul, i_neg, i_lt, i_le, i_eq, i32_gI, i64_gJ, i32_id, i32_to, i64_to, sI_i32, sJ_i64, b01_t, b01_f, i32_b01, b01_0, ↓a_s0, ↓n_s0, ↓a_s1, ↓n_s1, Int.add_zero, t_lt, f_lt, t_le, f_le, t_eq, f_eq, true_and, and_true, false_and, and_false, and_self, ↓reduceIte, z_bool_of, or_true, true_or, or_false, false_or, Int.neg_neg, not_true_eq_false, not_false_eq_true, lg_lt, lg_le, lg_gt, lg_ge, lg_eq, j_lit, j_add, j_sub, j_mul, j_neg, j_eq, i64_id, ij, ji, z_rt, Nat.reduceEqDiff, Nat.reduceAdd, Int.reduceAdd, Int.reduceSub, Int.reduceMul, Int.reduceNeg, Int.reduceLT, Int.reduceLE, Int.reduceEq, hw, q]
  exact z_evc_of (r := (some (.int (Int32.ofInt w)), mk (sI (sI S 72 19 1) 72 18 (gI S 72 14)))) (ck := (cm, cp, L, st, mk S)) hd this
