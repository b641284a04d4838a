/-! the reference reads a metre -/
theorem mW {b : Int → Int} {n : Int} (hT : Tape b n) (t : Nat) {k : Nat} {x : Int} (hx : E28[k]? = some x) : (tsort b n (tpos b n t) = 1 ∧ tworth b n (tpos b n t) = x) = (tc b n t = 256 + k) := by
  have hr := tpos_rng (b := b) hT.1.1 t
  have hk : k < 28 := (List.getElem?_eq_some_iff.mp hx).1
  by_cases q : tpos b n t = n
  · apply propext
    show _ ↔ tC b n (tpos b n t) = 256 + k
    unfold tC tsort
    rw [if_pos q, if_pos q]
    constructor
    · rintro ⟨h, -⟩; omega
    · intro h; omega
  · exact propext (tok_word hr.2.1 (hT.2 _ hr.1 (by omega)) hr.2.2 hx)
theorem mS {b : Int → Int} {n : Int} (hT : Tape b n) (t : Nat) {c : Int} (hc : 0 ≤ c ∧ c ≤ 255) (hl : ¬ isL c) (hd : ¬ isD c) : (tsort b n (tpos b n t) = 3 ∧ tworth b n (tpos b n t) = c) = (tc b n t = c) := by
  have hr := tpos_rng (b := b) hT.1.1 t
  by_cases q : tpos b n t = n
  · apply propext
    show _ ↔ tC b n (tpos b n t) = c
    unfold tC tsort
    rw [if_pos q, if_pos q]
    constructor
    · rintro ⟨h, -⟩; omega
    · intro h; omega
  · exact propext (tok_sign hr.2.1 (hT.2 _ hr.1 (by omega)) hr.2.2 hc hl hd)
theorem mD {b : Int → Int} {n : Int} (hT : Tape b n) (t : Nat) : (tsort b n (tpos b n t) = 2) = (tc b n t = 300) := by
  have hr := tpos_rng (b := b) hT.1.1 t
  by_cases q : tpos b n t = n
  · apply propext
    show _ ↔ tC b n (tpos b n t) = 300
    unfold tC tsort
    rw [if_pos q, if_pos q]
    constructor <;> intro h <;> omega
  · exact propext (tok_digits hr.2.1 (hT.2 _ hr.1 (by omega)) hr.2.2)
theorem mE {b : Int → Int} {n : Int} (hT : Tape b n) (t : Nat) : (tsort b n (tpos b n t) = 0) = (tc b n t = 301) := by
  have hr := tpos_rng (b := b) hT.1.1 t
  by_cases q : tpos b n t = n
  · apply propext
    show _ ↔ tC b n (tpos b n t) = 301
    unfold tC tsort
    rw [if_pos q, if_pos q]
    exact ⟨fun _ => rfl, fun _ => rfl⟩
  · exact propext (tok_end hr.2.1 (hT.2 _ hr.1 (by omega)) hr.2.2)
/-- a number, on both sides, where it matters -/
theorem mV {b : Int → Int} {n : Int} (hT : Tape b n) (t : Nat) (hc : tc b n t = 300) : 0 ≤ tworth b n (tpos b n t) ∧ (tworth b n (tpos b n t) ≤ 9999 ∧ tv b n t = tworth b n (tpos b n t) ∨ 9999 < tworth b n (tpos b n t) ∧ tv b n t = 9999) := by
  have hr := tpos_rng (b := b) hT.1.1 t
  have q : tpos b n t ≠ n := by
    intro q
    have : tC b n (tpos b n t) = 300 := hc
    unfold tC at this
    rw [if_pos q] at this
    omega
  rcases tC_cases hr.2.1 (hT.2 _ hr.1 (by omega)) hr.2.2 with ⟨h1, -⟩ | ⟨h1, h2, h3, h4⟩ | ⟨h1, h2, h3, h4, h5⟩ | ⟨h1, h2, h3, h4, h5, h6⟩
  · exact absurd h1 q
  · have := findE_rng (w := tworth b n (tpos b n t)) E28 256 (by omega) (by decide)
    have : tC b n (tpos b n t) = 300 := hc
    omega
  · exact tok_val h1 h2 h3
  · have := hT.2 _ hr.1 h1
    have : tC b n (tpos b n t) = 300 := hc
    omega
theorem tpos_end {b : Int → Int} {n : Int} {T : Nat} (h : tpos b n T = n) : ∀ t : Nat, T ≤ t → tpos b n t = n := by
  intro t
  induction t with
  | zero => intro h1; have : T = 0 := by omega
            subst this; exact h
  | succ t ih =>
    intro h1
    by_cases q : T = t + 1
    · subst q; exact h
    · show @ite _ (tpos b n t < n) (Classical.propDecidable _) _ n = n
      rw [if_neg (by rw [ih (by omega)]; omega)]
theorem tc_lt {b : Int → Int} {n : Int} {T t : Nat} (h : tpos b n T = n) (hc : tc b n t ≠ 301) : t < T := by
  apply Classical.byContradiction
  intro q
  apply hc
  show tC b n (tpos b n t) = 301
  unfold tC
  rw [if_pos (tpos_end h t (by omega))]
/-- the reference's words at token t -/
theorem MAt.w {S : zS} {b : Int → Int} {n : Int} {t : Nat} (h : MAt S b n t) (hT : Tape b n) {k : Nat} {x : Int} (hx : E28[k]? = some x) : (gI S 72 16 = 1 ∧ gJ S 72 17 = x) = (tc b n t = 256 + k) := by
  rw [h.2.2.1.2.2.1, h.2.2.1.2.2.2]; exact mW hT t hx
theorem MAt.s {S : zS} {b : Int → Int} {n : Int} {t : Nat} (h : MAt S b n t) (hT : Tape b n) {c : Int} (hc : 0 ≤ c ∧ c ≤ 255) (hl : ¬ isL c) (hd : ¬ isD c) : (gI S 72 16 = 3 ∧ gJ S 72 17 = c) = (tc b n t = c) := by
  rw [h.2.2.1.2.2.1, h.2.2.1.2.2.2]; exact mS hT t hc hl hd
/-- what reading a metre changes -/
def FrP (S S' : zS) : Prop := Dyn S S' ∧ (∀ a i, ¬ (a = 72 ∧ ((14 ≤ i ∧ i ≤ 16) ∨ i = 18 ∨ i = 19 ∨ i = 44 ∨ i = 47)) → a ≠ 94 → a ≠ 95 → a ≠ 96 → gI S' a i = gI S a i) ∧ (∀ a i, ¬ (a = 72 ∧ i = 17) → gJ S' a i = gJ S a i) ∧ (∀ a i, gQ S' a i = gQ S a i)
theorem FrP.rf {S : zS} : FrP S S := ⟨Dyn.rf, fun _ _ _ _ _ _ => rfl, fun _ _ _ => rfl, fun _ _ => rfl⟩
theorem FrP.tr {A B C : zS} (h1 : FrP A B) (h2 : FrP B C) : FrP A C := ⟨h1.1.tr h2.1, fun a i q1 q2 q3 q4 => (h2.2.1 a i q1 q2 q3 q4).trans (h1.2.1 a i q1 q2 q3 q4), fun a i q => (h2.2.2.1 a i q).trans (h1.2.2.1 a i q), fun a i => (h2.2.2.2 a i).trans (h1.2.2.2 a i)⟩
theorem FrN.m {A B : zS} (h : FrN A B) : FrP A B := ⟨h.1, fun a i q1 _ _ _ => h.2.1 a i (by omega), h.2.2.1, h.2.2.2⟩
theorem FrP.I {S : zS} {a : Nat} {i x : Int} (h : (a = 72 ∧ (i = 18 ∨ i = 19 ∨ i = 44 ∨ i = 47)) ∨ a = 94 ∨ a = 95 ∨ a = 96) : FrP S (sI S a i x) := ⟨Dyn.sI (by omega) Dyn.rf, fun b j q1 q2 q3 q4 => by rw [gI_sI, if_neg (by omega)], fun _ _ _ => rfl, fun _ _ => rfl⟩
/-- token t, the signs R, so deep, by levels: units, choices -/
def RS (S : zS) (b : Int → Int) (n : Int) (T t : Nat) (R : List Int) (dp : Int) (u c : Int → Int) : Prop := MAt S b n t ∧ (t ≤ T ∧ gI S 72 18 = -1) ∧ gI S 72 44 = R.length ∧ R.length ≤ 2 * t + 1 ∧ (∀ (j : Nat) (x : Int), R[j]? = some x → gI S 94 j = x) ∧ (gI S 72 47 = dp ∧ 0 ≤ dp ∧ dp ≤ 8) ∧ ∀ i, 0 ≤ i → i ≤ dp → gI S 95 i = u i ∧ gI S 96 i = c i
def RBad (S : zS) (f : Int) : Prop := gI S 72 19 = 1 ∧ gI S 72 18 = f
def RTape (b : Int → Int) (n : Int) (T : Nat) : Prop := Tape b n ∧ tpos b n T = n ∧ T ≤ 400
theorem MAt.fr {S S' : zS} {b : Int → Int} {n : Int} {t : Nat} (h : MAt S b n t) (h1 : ∀ i, i = 13 ∨ i = 14 ∨ i = 15 ∨ i = 16 ∨ i = 19 → gI S' 72 i = gI S 72 i) (h2 : ∀ i, gI S' 81 i = gI S 81 i) (h3 : gJ S' 72 17 = gJ S 72 17) : MAt S' b n t := by
  obtain ⟨a1, a2, ⟨a3, a4, a5, a6⟩, a7⟩ := h
  exact ⟨by rw [h1 13 (by omega)]; exact a1, by rw [← a2]; funext i; exact h2 i, ⟨by rw [h1 14 (by omega)]; exact a3, by rw [h1 15 (by omega)]; exact a4, by rw [h1 16 (by omega)]; exact a5, by rw [h3]; exact a6⟩, by rw [h1 19 (by omega)]; exact a7⟩
/-- going on to the next token -/
theorem RS.nx {S S' : zS} {b : Int → Int} {n : Int} {T t t' : Nat} {R : List Int} {dp : Int} {u c : Int → Int} (h : RS S b n T t R dp u c) (hM : MAt S' b n t') (hF : FrN S S') (h1 : t ≤ t') (h2 : t' ≤ T) : RS S' b n T t' R dp u c := by
  obtain ⟨a1, a2, a3, a4, a5, a6, a7⟩ := h
  exact ⟨hM, ⟨h2, by rw [hF.2.1 _ _ (by omega)]; exact a2.2⟩, by rw [hF.2.1 _ _ (by omega)]; exact a3, by omega, fun j x q => by rw [hF.2.1 _ _ (by omega)]; exact a5 j x q, ⟨by rw [hF.2.1 _ _ (by omega)]; exact a6.1, a6.2⟩, fun i q1 q2 => by rw [hF.2.1 _ _ (by omega), hF.2.1 _ _ (by omega)]; exact a7 i q1 q2⟩
def signS (S : zS) (x : Int) : zS := sI (sI S 94 (gI S 72 44) x) 72 44 (gI S 72 44 + 1)
theorem e209 {X : zX} {d : Nat} (hd : 0 ≤ d) {S : zS} (x : Int) (h : 0 ≤ gI S 72 44 ∧ gI S 72 44 < 900) (hx : r32 x) : z_ev X d (z_entry 209 [.ref 72, .int (Int32.ofInt x)] (mk S)) = some (none, mk (signS S x)) := by
  show z_ev X d (209, 0, [some (.ref 72), some (.int (Int32.ofInt x))], [], mk S) = _
  simp (disch := first | omega | assumption | exact b01_rng _ | exact st_5 | exact st_12 | exact st_19 | (simp only [isSt_sI, isSt_sJ, isSt_sF, isSt_sG, isSt_sA]; assumption)) only [↓B209_0, ↓a_94, ↓n_94, ↓r_72_43, ↓r_72_44, ↓s_94, ↓w_72_44, i_lit, i_add, i_sub, i_mul, i_neg, i_lt, i_le, i_eq, i32_gI, i64_gJ, i32_id, i32_to, i64_to, sI_i32, sJ_i64, b01_t, b01_f, i32_b01, b01_0, ↓a_s0, ↓n_s0, ↓a_s1, ↓n_s1, Int.add_zero, t_lt, f_lt, t_le, f_le, t_eq, f_eq, true_and, and_true, false_and, and_false, and_self, ↓reduceIte, z_bool_of, or_true, true_or, or_false, false_or, Int.neg_neg, not_true_eq_false, not_false_eq_true, lg_lt, lg_le, lg_gt, lg_ge, lg_eq, j_lit, j_add, j_sub, j_mul, j_neg, j_eq, i64_id, ij, ji, z_rt, Nat.reduceEqDiff, Nat.reduceAdd, Int.reduceAdd, Int.reduceSub, Int.reduceMul, Int.reduceNeg, Int.reduceLT, Int.reduceLE, Int.reduceEq, gI_sI, gI_sJ, gI_sF, gI_sG, gI_sQ, gI_sA, gJ_sI, gJ_sJ, gJ_sF, gJ_sG, gJ_sQ, gJ_sA, gQ_sI, gQ_sJ, gQ_sF, gQ_sG, gQ_sQ, gQ_sA, gH_sI, gH_sJ, gH_sF, gH_sG, gH_sQ, gH_sA, gN_sI, gN_sJ, gN_sF, gN_sG, gN_sQ, gN_sA, gW_sI, gW_sJ, gW_sF, gW_sG, gW_sQ, gW_sA, signS]
theorem c209 {X : zX} {d : Nat} (hd : 0 < d) {S : zS} (x : Int) (h : 0 ≤ gI S 72 44 ∧ gI S 72 44 < 900) (hx : r32 x) {cm cp : Nat} {L : zL} {st : List Value} : z_evc X d 209 [.ref 72, .int (Int32.ofInt x)] (cm, cp, L, st, mk S) = z_ev X d (cm, cp, L, st, mk (signS S x)) := z_evc_of (r := (none, mk (signS S x))) (ck := (cm, cp, L, st, mk S)) hd (e209 (X := X) (Nat.le_refl _) x h hx)
theorem RS.sign {S : zS} {b : Int → Int} {n : Int} {T t : Nat} {R : List Int} {dp : Int} {u c : Int → Int} (h : RS S b n T t R dp u c) {x : Int} (hx : r32 x) (hT : T ≤ 400) (hl : R.length ≤ 2 * t) : RS (signS S x) b n T t (R ++ [x]) dp u c := by
  obtain ⟨a1, a2, a3, a4, a5, a6, a7⟩ := h
  unfold signS
  refine ⟨a1.fr (fun i q => by (repeat (first | rw [gI_sI, if_neg (by omega)] | rw [gI_sF, if_neg (by omega)] | rw [gI_sJ] | rw [gI_sG] | rw [gI_sQ]))) (fun i => by (repeat (first | rw [gI_sI, if_neg (by omega)] | rw [gI_sF, if_neg (by omega)] | rw [gI_sJ] | rw [gI_sG] | rw [gI_sQ]))) rfl, ⟨a2.1, by (repeat (first | rw [gI_sI, if_neg (by omega)] | rw [gI_sF, if_neg (by omega)] | rw [gI_sJ] | rw [gI_sG] | rw [gI_sQ])); exact a2.2⟩, ?_, ?_, fun j y q => ?_, ⟨by (repeat (first | rw [gI_sI, if_neg (by omega)] | rw [gI_sF, if_neg (by omega)] | rw [gI_sJ] | rw [gI_sG] | rw [gI_sQ])); exact a6.1, a6.2⟩, fun i q1 q2 => ?_⟩
  · rw [gI_sI, if_pos ⟨rfl, rfl⟩, i32_id (by omega) (by omega), a3, List.length_append]; rfl
  · rw [List.length_append]; show R.length + 1 ≤ _; omega
  · rw [gI_sI, if_neg (by omega), gI_sI, a3]
    by_cases e : j = R.length
    · subst e
      rw [if_pos ⟨rfl, rfl⟩, i32_id (by omega) (by omega)]
      rw [List.getElem?_append_right (Nat.le_refl _), Nat.sub_self] at q
      exact Option.some.inj q
    · rw [if_neg (by omega)]
      have hj : j < R.length := by
        have := (List.getElem?_eq_some_iff.mp q).1
        rw [List.length_append] at this
        have : j < R.length + 1 := this
        omega
      rw [List.getElem?_append_left hj] at q
      exact a5 j y q
  · rw [gI_sI, if_neg (by omega), gI_sI, if_neg (by omega), gI_sI, if_neg (by omega), gI_sI, if_neg (by omega)]; exact a7 i q1 q2
theorem FrP.sign {S : zS} {x : Int} : FrP S (signS S x) := (FrP.I (Or.inr (Or.inl rfl))).tr (FrP.I (Or.inl ⟨rfl, by omega⟩))
/-- one of the four steps, or none -/
def stp (c : Int) : Int := if 256 ≤ c ∧ c ≤ 259 then c - 256 else -1
theorem z210 {X : zX} {d : Nat} (hd : 1 < d) {b : Int → Int} {n : Int} {t : Nat} (hT : Tape b n) {S : zS} (h : MAt S b n t) (hC : gJ S 93 0 = 409031 ∧ gJ S 93 1 = 20201044 ∧ gJ S 93 2 = 1497 ∧ gJ S 93 3 = 3764) {cm cp : Nat} {L : zL} {st : List Value} : z_evc X d 210 [.ref 72] (cm, cp, L, st, mk S) = z_ev X d (cm, cp, L, .int (Int32.ofInt (stp (tc b n t))) :: st, mk S) := by
  have : z_ev X 1 (z_entry 210 [.ref 72] (mk S)) = some (some (.int (Int32.ofInt (stp (tc b n t)))), mk S) := by
    show z_ev X 1 (210, 0, [some (.ref 72), none, none], [], mk S) = _
    have w0 : (gI S 72 16 = 1 ∧ gJ S 72 17 = 409031) = (tc b n t = 256) := h.w hT (k := 0) rfl
    have w1 : (gI S 72 16 = 1 ∧ gJ S 72 17 = 20201044) = (tc b n t = 257) := h.w hT (k := 1) rfl
    have w2 : (gI S 72 16 = 1 ∧ gJ S 72 17 = 1497) = (tc b n t = 258) := h.w hT (k := 2) rfl
    have w3 : (gI S 72 16 = 1 ∧ gJ S 72 17 = 3764) = (tc b n t = 259) := h.w hT (k := 3) rfl
    obtain ⟨c0, c1, c2, c3⟩ := hC
    obtain ⟨z, hz⟩ : ∃ z, tc b n t = z := ⟨_, rfl⟩
    rw [hz] at w0 w1 w2 w3 ⊢
    rcases (show z = 256 ∨ z = 257 ∨ z = 258 ∨ z = 259 ∨ ¬ (256 ≤ z ∧ z ≤ 259) by omega) with e | e | e | e | e
    · have es : stp z = 0 := by subst e; rfl
      simp (disch := first | omega | assumption | exact b01_rng _ | exact st_5 | exact st_12 | exact st_19 | (simp only [isSt_sI, isSt_sJ, isSt_sF, isSt_sG, isSt_sA]; assumption)) only [↓B210_0, ↓B210_4, ↓B210_9, ↓B210_19, ↓B210_22, ↓B210_26, ↓B210_27, ↓B210_34, ↓a_93, ↓n_93, ↓o_72, ↓r_72_42, ↓s_93, c177, i_lit, i_add, i_sub, i_mul, i_neg, i_lt, i_le, i_eq, i32_gI, i64_gJ, i32_id, i32_to, i64_to, sI_i32, sJ_i64, b01_t, b01_f, i32_b01, b01_0, ↓a_s0, ↓n_s0, ↓a_s1, ↓n_s1, Int.add_zero, t_lt, f_lt, t_le, f_le, t_eq, f_eq, true_and, and_true, false_and, and_false, and_self, ↓reduceIte, z_bool_of, or_true, true_or, or_false, false_or, Int.neg_neg, not_true_eq_false, not_false_eq_true, lg_lt, lg_le, lg_gt, lg_ge, lg_eq, j_lit, j_add, j_sub, j_mul, j_neg, j_eq, i64_id, ij, ji, z_rt, Nat.reduceEqDiff, Nat.reduceAdd, Int.reduceAdd, Int.reduceSub, Int.reduceMul, Int.reduceNeg, Int.reduceLT, Int.reduceLE, Int.reduceEq, c0, c1, c2, c3, w0, w1, w2, w3, Int.zero_add, es]
    · have es : stp z = 1 := by subst e; rfl
      simp (disch := first | omega | assumption | exact b01_rng _ | exact st_5 | exact st_12 | exact st_19 | (simp only [isSt_sI, isSt_sJ, isSt_sF, isSt_sG, isSt_sA]; assumption)) only [↓B210_0, ↓B210_4, ↓B210_9, ↓B210_19, ↓B210_22, ↓B210_26, ↓B210_27, ↓B210_34, ↓a_93, ↓n_93, ↓o_72, ↓r_72_42, ↓s_93, c177, i_lit, i_add, i_sub, i_mul, i_neg, i_lt, i_le, i_eq, i32_gI, i64_gJ, i32_id, i32_to, i64_to, sI_i32, sJ_i64, b01_t, b01_f, i32_b01, b01_0, ↓a_s0, ↓n_s0, ↓a_s1, ↓n_s1, Int.add_zero, t_lt, f_lt, t_le, f_le, t_eq, f_eq, true_and, and_true, false_and, and_false, and_self, ↓reduceIte, z_bool_of, or_true, true_or, or_false, false_or, Int.neg_neg, not_true_eq_false, not_false_eq_true, lg_lt, lg_le, lg_gt, lg_ge, lg_eq, j_lit, j_add, j_sub, j_mul, j_neg, j_eq, i64_id, ij, ji, z_rt, Nat.reduceEqDiff, Nat.reduceAdd, Int.reduceAdd, Int.reduceSub, Int.reduceMul, Int.reduceNeg, Int.reduceLT, Int.reduceLE, Int.reduceEq, c0, c1, c2, c3, w0, w1, w2, w3, Int.zero_add, es]
    · have es : stp z = 2 := by subst e; rfl
      simp (disch := first | omega | assumption | exact b01_rng _ | exact st_5 | exact st_12 | exact st_19 | (simp only [isSt_sI, isSt_sJ, isSt_sF, isSt_sG, isSt_sA]; assumption)) only [↓B210_0, ↓B210_4, ↓B210_9, ↓B210_19, ↓B210_22, ↓B210_26, ↓B210_27, ↓B210_34, ↓a_93, ↓n_93, ↓o_72, ↓r_72_42, ↓s_93, c177, i_lit, i_add, i_sub, i_mul, i_neg, i_lt, i_le, i_eq, i32_gI, i64_gJ, i32_id, i32_to, i64_to, sI_i32, sJ_i64, b01_t, b01_f, i32_b01, b01_0, ↓a_s0, ↓n_s0, ↓a_s1, ↓n_s1, Int.add_zero, t_lt, f_lt, t_le, f_le, t_eq, f_eq, true_and, and_true, false_and, and_false, and_self, ↓reduceIte, z_bool_of, or_true, true_or, or_false, false_or, Int.neg_neg, not_true_eq_false, not_false_eq_true, lg_lt, lg_le, lg_gt, lg_ge, lg_eq, j_lit, j_add, j_sub, j_mul, j_neg, j_eq, i64_id, ij, ji, z_rt, Nat.reduceEqDiff, Nat.reduceAdd, Int.reduceAdd, Int.reduceSub, Int.reduceMul, Int.reduceNeg, Int.reduceLT, Int.reduceLE, Int.reduceEq, c0, c1, c2, c3, w0, w1, w2, w3, Int.zero_add, es]
    · have es : stp z = 3 := by subst e; rfl
      simp (disch := first | omega | assumption | exact b01_rng _ | exact st_5 | exact st_12 | exact st_19 | (simp only [isSt_sI, isSt_sJ, isSt_sF, isSt_sG, isSt_sA]; assumption)) only [↓B210_0, ↓B210_4, ↓B210_9, ↓B210_19, ↓B210_22, ↓B210_26, ↓B210_27, ↓B210_34, ↓a_93, ↓n_93, ↓o_72, ↓r_72_42, ↓s_93, c177, i_lit, i_add, i_sub, i_mul, i_neg, i_lt, i_le, i_eq, i32_gI, i64_gJ, i32_id, i32_to, i64_to, sI_i32, sJ_i64, b01_t, b01_f, i32_b01, b01_0, ↓a_s0, ↓n_s0, ↓a_s1, ↓n_s1, Int.add_zero, t_lt, f_lt, t_le, f_le, t_eq, f_eq, true_and, and_true, false_and, and_false, and_self, ↓reduceIte, z_bool_of, or_true, true_or, or_false, false_or, Int.neg_neg, not_true_eq_false, not_false_eq_true, lg_lt, lg_le, lg_gt, lg_ge, lg_eq, j_lit, j_add, j_sub, j_mul, j_neg, j_eq, i64_id, ij, ji, z_rt, Nat.reduceEqDiff, Nat.reduceAdd, Int.reduceAdd, Int.reduceSub, Int.reduceMul, Int.reduceNeg, Int.reduceLT, Int.reduceLE, Int.reduceEq, c0, c1, c2, c3, w0, w1, w2, w3, Int.zero_add, es]
    · have es : stp z = -1 := by unfold stp; rw [if_neg e]
      simp (disch := first | omega | assumption | exact b01_rng _ | exact st_5 | exact st_12 | exact st_19 | (simp only [isSt_sI, isSt_sJ, isSt_sF, isSt_sG, isSt_sA]; assumption)) only [↓B210_0, ↓B210_4, ↓B210_9, ↓B210_19, ↓B210_22, ↓B210_26, ↓B210_27, ↓B210_34, ↓a_93, ↓n_93, ↓o_72, ↓r_72_42, ↓s_93, c177, i_lit, i_add, i_sub, i_mul, i_neg, i_lt, i_le, i_eq, i32_gI, i64_gJ, i32_id, i32_to, i64_to, sI_i32, sJ_i64, b01_t, b01_f, i32_b01, b01_0, ↓a_s0, ↓n_s0, ↓a_s1, ↓n_s1, Int.add_zero, t_lt, f_lt, t_le, f_le, t_eq, f_eq, true_and, and_true, false_and, and_false, and_self, ↓reduceIte, z_bool_of, or_true, true_or, or_false, false_or, Int.neg_neg, not_true_eq_false, not_false_eq_true, lg_lt, lg_le, lg_gt, lg_ge, lg_eq, j_lit, j_add, j_sub, j_mul, j_neg, j_eq, i64_id, ij, ji, z_rt, Nat.reduceEqDiff, Nat.reduceAdd, Int.reduceAdd, Int.reduceSub, Int.reduceMul, Int.reduceNeg, Int.reduceLT, Int.reduceLE, Int.reduceEq, c0, c1, c2, c3, w0, w1, w2, w3, Int.zero_add, es]
  exact z_evc_of (r := (some (.int (Int32.ofInt (stp (tc b n t)))), mk S)) (ck := (cm, cp, L, st, mk S)) hd this
def StW (S : zS) : Prop := gJ S 93 0 = 409031 ∧ gJ S 93 1 = 20201044 ∧ gJ S 93 2 = 1497 ∧ gJ S 93 3 = 3764
theorem StW.fr {S S' : zS} (h : StW S) (hF : FrP S S') : StW S' := by
  unfold StW
  rw [hF.2.2.1 _ _ (by omega), hF.2.2.1 _ _ (by omega), hF.2.2.1 _ _ (by omega), hF.2.2.1 _ _ (by omega)]; exact h
/-- units so many, of this level -/
def up1 (f : Int → Int) (k x : Int) (i : Int) : Int := if i = k then x else f i
/-- a unit more: the sign that joins it -/
def unitS (S : zS) (dp k : Int) : zS := if 1 ≤ k then signS (sI S 95 dp (k + 1)) 4 else sI S 95 dp (k + 1)
theorem l212 {X : zX} {d : Nat} (hd : 0 < d) {S : zS} {dp k : Int} (h47 : gI S 72 47 = dp) (hdp : 0 ≤ dp ∧ dp ≤ 8) (hk : gI S 95 dp = k) (hk2 : 0 ≤ k ∧ k < 1000) (h44 : 0 ≤ gI S 72 44 ∧ gI S 72 44 < 900) {x1 : Option Value} : z_ev X d (212, 38, [some (.ref 72), x1], [], mk S) = some (none, mk (unitS S dp k)) := by
  unfold unitS
  by_cases q : 1 ≤ k
  · rw [if_pos q]
    have h44' : gI (sI S 95 dp (k + 1)) 72 44 = gI S 72 44 := by (repeat (first | rw [gI_sI, if_neg (by omega)] | rw [gI_sF, if_neg (by omega)] | rw [gI_sJ] | rw [gI_sG] | rw [gI_sQ]))
    simp (disch := first | omega | assumption | exact b01_rng _ | exact st_5 | exact st_12 | exact st_19 | (simp only [isSt_sI, isSt_sJ, isSt_sF, isSt_sG, isSt_sA]; assumption)) only [↓B212_0, ↓B212_7, ↓B212_10, ↓B212_14, ↓B212_22, ↓B212_30, ↓B212_38, ↓B212_64, ↓B212_69, ↓a_95, ↓n_95, ↓o_72, ↓r_72_19, ↓r_72_45, ↓r_72_47, ↓s_95, c209, i_lit, i_add, i_sub, i_mul, i_neg, i_lt, i_le, i_eq, i32_gI, i64_gJ, i32_id, i32_to, i64_to, sI_i32, sJ_i64, b01_t, b01_f, i32_b01, b01_0, ↓a_s0, ↓n_s0, ↓a_s1, ↓n_s1, Int.add_zero, t_lt, f_lt, t_le, f_le, t_eq, f_eq, true_and, and_true, false_and, and_false, and_self, ↓reduceIte, z_bool_of, or_true, true_or, or_false, false_or, Int.neg_neg, not_true_eq_false, not_false_eq_true, lg_lt, lg_le, lg_gt, lg_ge, lg_eq, j_lit, j_add, j_sub, j_mul, j_neg, j_eq, i64_id, ij, ji, z_rt, Nat.reduceEqDiff, Nat.reduceAdd, Int.reduceAdd, Int.reduceSub, Int.reduceMul, Int.reduceNeg, Int.reduceLT, Int.reduceLE, Int.reduceEq, gI_sI, gI_sJ, gI_sF, gI_sG, gI_sQ, gI_sA, gJ_sI, gJ_sJ, gJ_sF, gJ_sG, gJ_sQ, gJ_sA, gQ_sI, gQ_sJ, gQ_sF, gQ_sG, gQ_sQ, gQ_sA, gH_sI, gH_sJ, gH_sF, gH_sG, gH_sQ, gH_sA, gN_sI, gN_sJ, gN_sF, gN_sG, gN_sQ, gN_sA, gW_sI, gW_sJ, gW_sF, gW_sG, gW_sQ, gW_sA, h47, hk]
  · rw [if_neg q]
    simp (disch := first | omega | assumption | exact b01_rng _ | exact st_5 | exact st_12 | exact st_19 | (simp only [isSt_sI, isSt_sJ, isSt_sF, isSt_sG, isSt_sA]; assumption)) only [↓B212_0, ↓B212_7, ↓B212_10, ↓B212_14, ↓B212_22, ↓B212_30, ↓B212_38, ↓B212_64, ↓B212_69, ↓a_95, ↓n_95, ↓o_72, ↓r_72_19, ↓r_72_45, ↓r_72_47, ↓s_95, c209, i_lit, i_add, i_sub, i_mul, i_neg, i_lt, i_le, i_eq, i32_gI, i64_gJ, i32_id, i32_to, i64_to, sI_i32, sJ_i64, b01_t, b01_f, i32_b01, b01_0, ↓a_s0, ↓n_s0, ↓a_s1, ↓n_s1, Int.add_zero, t_lt, f_lt, t_le, f_le, t_eq, f_eq, true_and, and_true, false_and, and_false, and_self, ↓reduceIte, z_bool_of, or_true, true_or, or_false, false_or, Int.neg_neg, not_true_eq_false, not_false_eq_true, lg_lt, lg_le, lg_gt, lg_ge, lg_eq, j_lit, j_add, j_sub, j_mul, j_neg, j_eq, i64_id, ij, ji, z_rt, Nat.reduceEqDiff, Nat.reduceAdd, Int.reduceAdd, Int.reduceSub, Int.reduceMul, Int.reduceNeg, Int.reduceLT, Int.reduceLE, Int.reduceEq, gI_sI, gI_sJ, gI_sF, gI_sG, gI_sQ, gI_sA, gJ_sI, gJ_sJ, gJ_sF, gJ_sG, gJ_sQ, gJ_sA, gQ_sI, gQ_sJ, gQ_sF, gQ_sG, gQ_sQ, gQ_sA, gH_sI, gH_sJ, gH_sF, gH_sG, gH_sQ, gH_sA, gN_sI, gN_sJ, gN_sF, gN_sG, gN_sQ, gN_sA, gW_sI, gW_sJ, gW_sF, gW_sG, gW_sQ, gW_sA, h47, hk]
theorem RS.unit {S : zS} {b : Int → Int} {n : Int} {T t : Nat} {R : List Int} {dp : Int} {u c : Int → Int} (h : RS S b n T t R dp u c) (hT : T ≤ 400) (hl : R.length + 1 ≤ 2 * t) (hk2 : 0 ≤ u dp ∧ u dp < 1000) : RS (unitS S dp (u dp)) b n T t (R ++ (if 1 ≤ u dp then [4] else [])) dp (up1 u dp (u dp + 1)) c ∧ FrP S (unitS S dp (u dp)) := by
  have h' : RS (sI S 95 dp (u dp + 1)) b n T t R dp (up1 u dp (u dp + 1)) c := by
    obtain ⟨a1, a2, a3, a4, a5, a6, a7⟩ := h
    refine ⟨a1.fr (fun i q => by (repeat (first | rw [gI_sI, if_neg (by omega)] | rw [gI_sF, if_neg (by omega)] | rw [gI_sJ] | rw [gI_sG] | rw [gI_sQ]))) (fun i => by (repeat (first | rw [gI_sI, if_neg (by omega)] | rw [gI_sF, if_neg (by omega)] | rw [gI_sJ] | rw [gI_sG] | rw [gI_sQ]))) rfl, ⟨a2.1, by (repeat (first | rw [gI_sI, if_neg (by omega)] | rw [gI_sF, if_neg (by omega)] | rw [gI_sJ] | rw [gI_sG] | rw [gI_sQ])); exact a2.2⟩, by (repeat (first | rw [gI_sI, if_neg (by omega)] | rw [gI_sF, if_neg (by omega)] | rw [gI_sJ] | rw [gI_sG] | rw [gI_sQ])); exact a3, a4, fun j x q => by (repeat (first | rw [gI_sI, if_neg (by omega)] | rw [gI_sF, if_neg (by omega)] | rw [gI_sJ] | rw [gI_sG] | rw [gI_sQ])); exact a5 j x q, ⟨by (repeat (first | rw [gI_sI, if_neg (by omega)] | rw [gI_sF, if_neg (by omega)] | rw [gI_sJ] | rw [gI_sG] | rw [gI_sQ])); exact a6.1, a6.2⟩, fun i q1 q2 => ?_⟩
    rw [gI_sI, gI_sI, if_neg (show ¬ (96 = 95 ∧ i = dp) by omega)]
    unfold up1
    by_cases e : i = dp
    · rw [if_pos ⟨rfl, e⟩, if_pos e, i32_id (by omega) (by omega)]; exact ⟨rfl, (a7 i q1 q2).2⟩
    · rw [if_neg (by omega), if_neg e]; exact a7 i q1 q2
  unfold unitS
  by_cases q : 1 ≤ u dp
  · rw [if_pos q, if_pos q]
    exact ⟨h'.sign (by omega) hT (by omega), (FrP.I (by omega)).tr FrP.sign⟩
  · rw [if_neg q, if_neg q, List.append_nil]
    exact ⟨h', FrP.I (by omega)⟩
/-- endUnit: no times; so often; a fault -/
theorem z212 {X : zX} {d : Nat} (hd : 4 < d) {b : Int → Int} {n : Int} {T t : Nat} (hT : RTape b n T) {S : zS} {R : List Int} {dp : Int} {u c : Int → Int} (h : RS S b n T t R dp u c) (hl : R.length + 1 ≤ 2 * t) (hk2 : 0 ≤ u dp ∧ u dp < 1000) : match pTimes (tc b n) (tv b n) [] t with
  | .inl e => ∃ S' : zS, (∀ {cm cp : Nat} {L : zL} {st : List Value}, z_evc X d 212 [.ref 72] (cm, cp, L, st, mk S) = z_ev X d (cm, cp, L, st, mk S')) ∧ RBad S' (tpos b n e) ∧ FrP S S'
  | .inr (r, t1) => ∃ S' : zS, (∀ {cm cp : Nat} {L : zL} {st : List Value}, z_evc X d 212 [.ref 72] (cm, cp, L, st, mk S) = z_ev X d (cm, cp, L, st, mk S')) ∧ t ≤ t1 ∧ RS S' b n T t1 (R ++ r ++ (if 1 ≤ u dp then [4] else [])) dp (up1 u dp (u dp + 1)) c ∧ (R ++ r).length + 1 ≤ 2 * t1 ∧ FrP S S' := by
  have wt : (gI S 72 16 = 1 ∧ gJ S 72 17 = 21279923) = (tc b n t = 261) := h.1.w hT.1 (k := 5) rfl
  obtain ⟨t1, t2, t3⟩ := hT
  unfold pTimes
  by_cases q : tc b n t = 261
  · rw [if_pos q]
    have htT := tc_lt t2 (t := t) (by omega)
    obtain ⟨S1, a1, a2, a3⟩ := z176 (X := X) (d := 4) (by omega) t1 h.1
    have hS1 := h.nx a2 a3 (by omega) (by omega)
    by_cases q1 : tc b n (t + 1) = 300 ∧ 1 ≤ tv b n (t + 1) ∧ tv b n (t + 1) ≤ 9
    · rw [if_pos q1]
      have htT1 := tc_lt t2 (t := t + 1) (by omega)
      have hv := mV t1 (t + 1) q1.1
      have hv2 : tv b n (t + 1) = tworth b n (tpos b n (t + 1)) := by omega
      have hs2 : tsort b n (tpos b n (t + 1)) = 2 := by rw [mD t1]; exact q1.1
      obtain ⟨S2, b1, b2, b3⟩ := z180 (X := X) (d := 4) (by omega) t1 a2 (lo := 1) (hi := 9) (by omega) (by omega) hs2 (by omega)
      have hS2 := hS1.nx b2 b3 (by omega) (by omega)
      have hS3 := hS2.sign (x := 6 + tv b n (t + 1)) (by omega) t3 (by omega)
      have hl3 : (R ++ [6 + tv b n (t + 1)]).length = R.length + 1 := by rw [List.length_append]; rfl
      obtain ⟨c1, c2⟩ := hS3.unit t3 (by rw [hl3]; omega) hk2
      have h19 := b2.2.2.2
      have h44 := hS2.2.2.1
      have h44' := hS3.2.2.1
      have h47 := hS3.2.2.2.2.2.1
      have h95 := (hS3.2.2.2.2.2.2 dp (by omega) (by omega)).1
      have hl1 := h.2.2.2.1
      refine ⟨_, fun {cm cp L st} => z_evc_of (r := (none, mk (unitS (signS S2 (6 + tv b n (t + 1))) dp (u dp)))) (ck := (cm, cp, L, st, mk S)) hd ?_, by omega, c1, by show (R ++ [6 + tv b n (t + 1)]).length + 1 ≤ _; rw [hl3]; omega, (a3.m.tr b3.m).tr (FrP.sign.tr c2)⟩
      show z_ev X 4 (212, 0, [some (.ref 72), none], [], mk S) = _
      rw [← l212 (X := X) (d := 4) (by omega) (S := signS S2 (6 + tv b n (t + 1))) (dp := dp) (k := u dp) h47.1 h47.2 h95 hk2 (by omega) (x1 := some (.int (Int32.ofInt (tv b n (t + 1)))))]
      rw [← hv2] at b1
      simp (disch := first | omega | assumption | exact b01_rng _ | exact st_5 | exact st_12 | exact st_19 | (simp only [isSt_sI, isSt_sJ, isSt_sF, isSt_sG, isSt_sA]; assumption)) only [↓B212_0, ↓B212_7, ↓B212_10, ↓B212_14, ↓B212_22, ↓B212_30, ↓B212_64, ↓B212_69, ↓a_95, ↓n_95, ↓o_72, ↓r_72_19, ↓r_72_45, ↓r_72_47, ↓s_95, c177, c209, a1, b1, i_lit, i_add, i_sub, i_mul, i_neg, i_lt, i_le, i_eq, i32_gI, i64_gJ, i32_id, i32_to, i64_to, sI_i32, sJ_i64, b01_t, b01_f, i32_b01, b01_0, ↓a_s0, ↓n_s0, ↓a_s1, ↓n_s1, Int.add_zero, t_lt, f_lt, t_le, f_le, t_eq, f_eq, true_and, and_true, false_and, and_false, and_self, ↓reduceIte, z_bool_of, or_true, true_or, or_false, false_or, Int.neg_neg, not_true_eq_false, not_false_eq_true, lg_lt, lg_le, lg_gt, lg_ge, lg_eq, j_lit, j_add, j_sub, j_mul, j_neg, j_eq, i64_id, ij, ji, z_rt, Nat.reduceEqDiff, Nat.reduceAdd, Int.reduceAdd, Int.reduceSub, Int.reduceMul, Int.reduceNeg, Int.reduceLT, Int.reduceLE, Int.reduceEq, wt, h19]
    · rw [if_neg q1]
      have hdp := h.2.2.2.2.2.1.2
      have hn := t1.1
      have h19 : gI S1 72 19 = 0 := a2.2.2.2
      have hbad : ¬ (gI S1 72 16 = 2 ∧ 1 ≤ gJ S1 72 17 ∧ gJ S1 72 17 ≤ 9) := by
        rw [a2.2.2.1.2.2.1, a2.2.2.1.2.2.2, mD t1]
        rintro ⟨w1, w2, w3⟩
        have hv := mV t1 (t + 1) w1
        exact q1 ⟨w1, by omega, by omega⟩
      have k180 := fun {cm cp : Nat} {L : zL} {st : List Value} => y180 (X := X) (d := 4) (by omega) (S := S1) h19 (lo := 1) (hi := 9) (by omega) (by omega) rfl hbad (cm := cm) (cp := cp) (L := L) (st := st)
      have h14 : gI S1 72 14 = tpos b n (t + 1) := a2.2.2.1.1
      have hr := tpos_rng (b := b) t1.1.1 (t + 1)
      have hl1 := h.2.2.2.1
      have h44 : gI (sI (sI S1 72 19 1) 72 18 (gI S1 72 14)) 72 44 = R.length := by (repeat (first | rw [gI_sI, if_neg (by omega)] | rw [gI_sF, if_neg (by omega)] | rw [gI_sJ] | rw [gI_sG] | rw [gI_sQ])); exact hS1.2.2.1
      have h47 : gI (sI (sI S1 72 19 1) 72 18 (gI S1 72 14)) 72 47 = dp := by (repeat (first | rw [gI_sI, if_neg (by omega)] | rw [gI_sF, if_neg (by omega)] | rw [gI_sJ] | rw [gI_sG] | rw [gI_sQ])); exact hS1.2.2.2.2.2.1.1
      have h95 : gI (sI (sI S1 72 19 1) 72 18 (gI S1 72 14)) 95 dp = u dp := by (repeat (first | rw [gI_sI, if_neg (by omega)] | rw [gI_sF, if_neg (by omega)] | rw [gI_sJ] | rw [gI_sG] | rw [gI_sQ])); exact (hS1.2.2.2.2.2.2 dp (by omega) (by omega)).1
      have h19' : gI (sI (sI S1 72 19 1) 72 18 (gI S1 72 14)) 72 19 = 1 := by simp (disch := first | omega | assumption | exact b01_rng _ | exact st_5 | exact st_12 | exact st_19 | (simp only [isSt_sI, isSt_sJ, isSt_sF, isSt_sG, isSt_sA]; assumption)) only [gI_sI, i_lit, i_add, i_sub, i_mul, i_neg, i_lt, i_le, i_eq, i32_gI, i64_gJ, i32_id, i32_to, i64_to, sI_i32, sJ_i64, b01_t, b01_f, i32_b01, b01_0, ↓a_s0, ↓n_s0, ↓a_s1, ↓n_s1, Int.add_zero, t_lt, f_lt, t_le, f_le, t_eq, f_eq, true_and, and_true, false_and, and_false, and_self, ↓reduceIte, z_bool_of, or_true, true_or, or_false, false_or, Int.neg_neg, not_true_eq_false, not_false_eq_true, lg_lt, lg_le, lg_gt, lg_ge, lg_eq, j_lit, j_add, j_sub, j_mul, j_neg, j_eq, i64_id, ij, ji, z_rt, Nat.reduceEqDiff, Nat.reduceAdd, Int.reduceAdd, Int.reduceSub, Int.reduceMul, Int.reduceNeg, Int.reduceLT, Int.reduceLE, Int.reduceEq]
      have h18' : gI (sI (sI S1 72 19 1) 72 18 (gI S1 72 14)) 72 18 = tpos b n (t + 1) := by simp (disch := first | omega | assumption | exact b01_rng _ | exact st_5 | exact st_12 | exact st_19 | (simp only [isSt_sI, isSt_sJ, isSt_sF, isSt_sG, isSt_sA]; assumption)) only [gI_sI, i_lit, i_add, i_sub, i_mul, i_neg, i_lt, i_le, i_eq, i32_gI, i64_gJ, i32_id, i32_to, i64_to, sI_i32, sJ_i64, b01_t, b01_f, i32_b01, b01_0, ↓a_s0, ↓n_s0, ↓a_s1, ↓n_s1, Int.add_zero, t_lt, f_lt, t_le, f_le, t_eq, f_eq, true_and, and_true, false_and, and_false, and_self, ↓reduceIte, z_bool_of, or_true, true_or, or_false, false_or, Int.neg_neg, not_true_eq_false, not_false_eq_true, lg_lt, lg_le, lg_gt, lg_ge, lg_eq, j_lit, j_add, j_sub, j_mul, j_neg, j_eq, i64_id, ij, ji, z_rt, Nat.reduceEqDiff, Nat.reduceAdd, Int.reduceAdd, Int.reduceSub, Int.reduceMul, Int.reduceNeg, Int.reduceLT, Int.reduceLE, Int.reduceEq, h14]
      have hF : FrP S (sI (sI S1 72 19 1) 72 18 (gI S1 72 14)) := a3.m.tr ((FrP.I (by omega)).tr (FrP.I (by omega)))
      generalize sI (sI S1 72 19 1) 72 18 (gI S1 72 14) = Z at *
      have hu : FrP Z (unitS Z dp (u dp)) := by
        unfold unitS; split
        · exact (FrP.I (by omega)).tr FrP.sign
        · exact FrP.I (by omega)
      refine ⟨unitS Z dp (u dp), fun {cm cp L st} => z_evc_of (r := (none, mk (unitS Z dp (u dp)))) (ck := (cm, cp, L, st, mk S)) hd ?_, ?_, hF.tr hu⟩
      · show z_ev X 4 (212, 0, [some (.ref 72), none], [], mk S) = _
        rw [← l212 (X := X) (d := 4) (by omega) (S := Z) (dp := dp) (k := u dp) h47 hdp h95 hk2 (by omega) (x1 := some (.int (Int32.ofInt (gJ S1 72 17))))]
        simp (disch := first | omega | assumption | exact b01_rng _ | exact st_5 | exact st_12 | exact st_19 | (simp only [isSt_sI, isSt_sJ, isSt_sF, isSt_sG, isSt_sA]; assumption)) only [↓B212_0, ↓B212_7, ↓B212_10, ↓B212_14, ↓B212_22, ↓B212_30, ↓B212_64, ↓B212_69, ↓a_95, ↓n_95, ↓o_72, ↓r_72_19, ↓r_72_45, ↓r_72_47, ↓s_95, c177, a1, k180, i_lit, i_add, i_sub, i_mul, i_neg, i_lt, i_le, i_eq, i32_gI, i64_gJ, i32_id, i32_to, i64_to, sI_i32, sJ_i64, b01_t, b01_f, i32_b01, b01_0, ↓a_s0, ↓n_s0, ↓a_s1, ↓n_s1, Int.add_zero, t_lt, f_lt, t_le, f_le, t_eq, f_eq, true_and, and_true, false_and, and_false, and_self, ↓reduceIte, z_bool_of, or_true, true_or, or_false, false_or, Int.neg_neg, not_true_eq_false, not_false_eq_true, lg_lt, lg_le, lg_gt, lg_ge, lg_eq, j_lit, j_add, j_sub, j_mul, j_neg, j_eq, i64_id, ij, ji, z_rt, Nat.reduceEqDiff, Nat.reduceAdd, Int.reduceAdd, Int.reduceSub, Int.reduceMul, Int.reduceNeg, Int.reduceLT, Int.reduceLE, Int.reduceEq, wt, h19']
      · unfold unitS
        split
        · unfold signS RBad
          rw [gI_sI, if_neg (by omega), gI_sI, if_neg (by omega), gI_sI, if_neg (by omega), gI_sI, if_neg (by omega), gI_sI, if_neg (by omega), gI_sI, if_neg (by omega)]
          exact ⟨h19', h18'⟩
        · unfold RBad
          rw [gI_sI, if_neg (by omega), gI_sI, if_neg (by omega)]
          exact ⟨h19', h18'⟩
  · rw [if_neg q]
    obtain ⟨c1, c2⟩ := h.unit t3 hl hk2
    have h44 := h.2.2.1
    have h47 := h.2.2.2.2.2.1
    have h95 := (h.2.2.2.2.2.2 dp (by omega) (by omega)).1
    have hl1 := h.2.2.2.1
    have htT := h.2.1
    refine ⟨_, fun {cm cp L st} => z_evc_of (r := (none, mk (unitS S dp (u dp)))) (ck := (cm, cp, L, st, mk S)) hd ?_, Nat.le_refl _, by rw [List.append_nil]; exact c1, by rw [List.append_nil]; omega, c2⟩
    show z_ev X 4 (212, 0, [some (.ref 72), none], [], mk S) = _
    rw [← l212 (X := X) (d := 4) (by omega) (S := S) (dp := dp) (k := u dp) h47.1 h47.2 h95 hk2 (by omega) (x1 := none)]
    simp (disch := first | omega | assumption | exact b01_rng _ | exact st_5 | exact st_12 | exact st_19 | (simp only [isSt_sI, isSt_sJ, isSt_sF, isSt_sG, isSt_sA]; assumption)) only [↓B212_0, ↓B212_7, ↓B212_10, ↓B212_14, ↓B212_22, ↓B212_30, ↓B212_64, ↓B212_69, ↓a_95, ↓n_95, ↓o_72, ↓r_72_19, ↓r_72_45, ↓r_72_47, ↓s_95, c177, i_lit, i_add, i_sub, i_mul, i_neg, i_lt, i_le, i_eq, i32_gI, i64_gJ, i32_id, i32_to, i64_to, sI_i32, sJ_i64, b01_t, b01_f, i32_b01, b01_0, ↓a_s0, ↓n_s0, ↓a_s1, ↓n_s1, Int.add_zero, t_lt, f_lt, t_le, f_le, t_eq, f_eq, true_and, and_true, false_and, and_false, and_self, ↓reduceIte, z_bool_of, or_true, true_or, or_false, false_or, Int.neg_neg, not_true_eq_false, not_false_eq_true, lg_lt, lg_le, lg_gt, lg_ge, lg_eq, j_lit, j_add, j_sub, j_mul, j_neg, j_eq, i64_id, ij, ji, z_rt, Nat.reduceEqDiff, Nat.reduceAdd, Int.reduceAdd, Int.reduceSub, Int.reduceMul, Int.reduceNeg, Int.reduceLT, Int.reduceLE, Int.reduceEq, wt, q]
/-- endChoice -/
def choiceS (S : zS) (dp k : Int) : zS := if 1 ≤ k then signS (sI (sI S 95 dp 0) 96 dp (k + 1)) 5 else sI (sI S 95 dp 0) 96 dp (k + 1)
theorem e213 {X : zX} {d : Nat} (hd : 1 ≤ d) {S : zS} (dp k : Int) (h47 : gI S 72 47 = dp) (hdp : 0 ≤ dp ∧ dp ≤ 8) (hk : gI S 96 dp = k) (hk2 : 0 ≤ k ∧ k < 1000) (h44 : 0 ≤ gI S 72 44 ∧ gI S 72 44 < 900) : z_ev X d (z_entry 213 [.ref 72] (mk S)) = some (none, mk (choiceS S dp k)) := by
  show z_ev X d (213, 0, [some (.ref 72)], [], mk S) = _
  unfold choiceS
  by_cases q : 1 ≤ k
  · rw [if_pos q]
    have h44' : gI (sI (sI S 95 dp 0) 96 dp (k + 1)) 72 44 = gI S 72 44 := by (repeat (first | rw [gI_sI, if_neg (by omega)] | rw [gI_sF, if_neg (by omega)] | rw [gI_sJ] | rw [gI_sG] | rw [gI_sQ]))
    simp (disch := first | omega | assumption | exact b01_rng _ | exact st_5 | exact st_12 | exact st_19 | (simp only [isSt_sI, isSt_sJ, isSt_sF, isSt_sG, isSt_sA]; assumption)) only [↓B213_0, ↓B213_36, ↓B213_41, ↓a_95, ↓a_96, ↓n_95, ↓n_96, ↓o_72, ↓r_72_45, ↓r_72_46, ↓r_72_47, ↓s_95, ↓s_96, c209, i_lit, i_add, i_sub, i_mul, i_neg, i_lt, i_le, i_eq, i32_gI, i64_gJ, i32_id, i32_to, i64_to, sI_i32, sJ_i64, b01_t, b01_f, i32_b01, b01_0, ↓a_s0, ↓n_s0, ↓a_s1, ↓n_s1, Int.add_zero, t_lt, f_lt, t_le, f_le, t_eq, f_eq, true_and, and_true, false_and, and_false, and_self, ↓reduceIte, z_bool_of, or_true, true_or, or_false, false_or, Int.neg_neg, not_true_eq_false, not_false_eq_true, lg_lt, lg_le, lg_gt, lg_ge, lg_eq, j_lit, j_add, j_sub, j_mul, j_neg, j_eq, i64_id, ij, ji, z_rt, Nat.reduceEqDiff, Nat.reduceAdd, Int.reduceAdd, Int.reduceSub, Int.reduceMul, Int.reduceNeg, Int.reduceLT, Int.reduceLE, Int.reduceEq, gI_sI, gI_sJ, gI_sF, gI_sG, gI_sQ, gI_sA, gJ_sI, gJ_sJ, gJ_sF, gJ_sG, gJ_sQ, gJ_sA, gQ_sI, gQ_sJ, gQ_sF, gQ_sG, gQ_sQ, gQ_sA, gH_sI, gH_sJ, gH_sF, gH_sG, gH_sQ, gH_sA, gN_sI, gN_sJ, gN_sF, gN_sG, gN_sQ, gN_sA, gW_sI, gW_sJ, gW_sF, gW_sG, gW_sQ, gW_sA, h47, hk]
  · rw [if_neg q]
    simp (disch := first | omega | assumption | exact b01_rng _ | exact st_5 | exact st_12 | exact st_19 | (simp only [isSt_sI, isSt_sJ, isSt_sF, isSt_sG, isSt_sA]; assumption)) only [↓B213_0, ↓B213_36, ↓B213_41, ↓a_95, ↓a_96, ↓n_95, ↓n_96, ↓o_72, ↓r_72_45, ↓r_72_46, ↓r_72_47, ↓s_95, ↓s_96, c209, i_lit, i_add, i_sub, i_mul, i_neg, i_lt, i_le, i_eq, i32_gI, i64_gJ, i32_id, i32_to, i64_to, sI_i32, sJ_i64, b01_t, b01_f, i32_b01, b01_0, ↓a_s0, ↓n_s0, ↓a_s1, ↓n_s1, Int.add_zero, t_lt, f_lt, t_le, f_le, t_eq, f_eq, true_and, and_true, false_and, and_false, and_self, ↓reduceIte, z_bool_of, or_true, true_or, or_false, false_or, Int.neg_neg, not_true_eq_false, not_false_eq_true, lg_lt, lg_le, lg_gt, lg_ge, lg_eq, j_lit, j_add, j_sub, j_mul, j_neg, j_eq, i64_id, ij, ji, z_rt, Nat.reduceEqDiff, Nat.reduceAdd, Int.reduceAdd, Int.reduceSub, Int.reduceMul, Int.reduceNeg, Int.reduceLT, Int.reduceLE, Int.reduceEq, gI_sI, gI_sJ, gI_sF, gI_sG, gI_sQ, gI_sA, gJ_sI, gJ_sJ, gJ_sF, gJ_sG, gJ_sQ, gJ_sA, gQ_sI, gQ_sJ, gQ_sF, gQ_sG, gQ_sQ, gQ_sA, gH_sI, gH_sJ, gH_sF, gH_sG, gH_sQ, gH_sA, gN_sI, gN_sJ, gN_sF, gN_sG, gN_sQ, gN_sA, gW_sI, gW_sJ, gW_sF, gW_sG, gW_sQ, gW_sA, h47, hk]
theorem c213 {X : zX} {d : Nat} (hd : 1 < d) {S : zS} (dp k : Int) (h47 : gI S 72 47 = dp) (hdp : 0 ≤ dp ∧ dp ≤ 8) (hk : gI S 96 dp = k) (hk2 : 0 ≤ k ∧ k < 1000) (h44 : 0 ≤ gI S 72 44 ∧ gI S 72 44 < 900) {cm cp : Nat} {L : zL} {st : List Value} : z_evc X d 213 [.ref 72] (cm, cp, L, st, mk S) = z_ev X d (cm, cp, L, st, mk (choiceS S dp k)) := z_evc_of (r := (none, mk (choiceS S dp k))) (ck := (cm, cp, L, st, mk S)) hd (e213 (X := X) (Nat.le_refl _) dp k h47 hdp hk hk2 h44)
theorem RS.choice {S : zS} {b : Int → Int} {n : Int} {T t : Nat} {R : List Int} {dp : Int} {u c : Int → Int} (h : RS S b n T t R dp u c) (hT : T ≤ 400) (hl : R.length ≤ 2 * t) (hk2 : 0 ≤ c dp ∧ c dp < 1000) : RS (choiceS S dp (c dp)) b n T t (R ++ (if 1 ≤ c dp then [5] else [])) dp (up1 u dp 0) (up1 c dp (c dp + 1)) ∧ FrP S (choiceS S dp (c dp)) := by
  have h' : RS (sI (sI S 95 dp 0) 96 dp (c dp + 1)) b n T t R dp (up1 u dp 0) (up1 c dp (c dp + 1)) := by
    obtain ⟨a1, a2, a3, a4, a5, a6, a7⟩ := h
    refine ⟨a1.fr (fun i q => by (repeat (first | rw [gI_sI, if_neg (by omega)] | rw [gI_sF, if_neg (by omega)] | rw [gI_sJ] | rw [gI_sG] | rw [gI_sQ]))) (fun i => by (repeat (first | rw [gI_sI, if_neg (by omega)] | rw [gI_sF, if_neg (by omega)] | rw [gI_sJ] | rw [gI_sG] | rw [gI_sQ]))) rfl, ⟨a2.1, by (repeat (first | rw [gI_sI, if_neg (by omega)] | rw [gI_sF, if_neg (by omega)] | rw [gI_sJ] | rw [gI_sG] | rw [gI_sQ])); exact a2.2⟩, by (repeat (first | rw [gI_sI, if_neg (by omega)] | rw [gI_sF, if_neg (by omega)] | rw [gI_sJ] | rw [gI_sG] | rw [gI_sQ])); exact a3, a4, fun j x q => by (repeat (first | rw [gI_sI, if_neg (by omega)] | rw [gI_sF, if_neg (by omega)] | rw [gI_sJ] | rw [gI_sG] | rw [gI_sQ])); exact a5 j x q, ⟨by (repeat (first | rw [gI_sI, if_neg (by omega)] | rw [gI_sF, if_neg (by omega)] | rw [gI_sJ] | rw [gI_sG] | rw [gI_sQ])); exact a6.1, a6.2⟩, fun i q1 q2 => ?_⟩
    unfold up1
    by_cases e : i = dp
    · rw [if_pos e, if_pos e]
      refine ⟨?_, ?_⟩
      · rw [gI_sI, if_neg (by omega), gI_sI, if_pos ⟨rfl, e⟩]; rfl
      · rw [gI_sI, if_pos ⟨rfl, e⟩, i32_id (by omega) (by omega)]
    · rw [if_neg e, if_neg e, gI_sI, if_neg (by omega), gI_sI, if_neg (by omega), gI_sI, if_neg (by omega)]
      refine ⟨(a7 i q1 q2).1, ?_⟩
      rw [gI_sI, if_neg (by omega)]; exact (a7 i q1 q2).2
  unfold choiceS
  by_cases q : 1 ≤ c dp
  · rw [if_pos q, if_pos q]
    exact ⟨h'.sign (by omega) hT (by omega), ((FrP.I (by omega)).tr (FrP.I (by omega))).tr FrP.sign⟩
  · rw [if_neg q, if_neg q, List.append_nil]
    exact ⟨h', (FrP.I (by omega)).tr (FrP.I (by omega))⟩
theorem e211 {X : zX} {d : Nat} (hd : 0 ≤ d) {S : zS} (dp : Int) (h47 : gI S 72 47 = dp) (hdp : 0 ≤ dp ∧ dp ≤ 8) : z_ev X d (z_entry 211 [.ref 72] (mk S)) = some (none, mk (sI (sI S 95 dp 0) 96 dp 0)) := by
  show z_ev X d (211, 0, [some (.ref 72)], [], mk S) = _
  simp (disch := first | omega | assumption | exact b01_rng _ | exact st_5 | exact st_12 | exact st_19 | (simp only [isSt_sI, isSt_sJ, isSt_sF, isSt_sG, isSt_sA]; assumption)) only [↓B211_0, ↓a_95, ↓a_96, ↓n_95, ↓n_96, ↓r_72_45, ↓r_72_46, ↓r_72_47, ↓s_95, ↓s_96, i_lit, i_add, i_sub, i_mul, i_neg, i_lt, i_le, i_eq, i32_gI, i64_gJ, i32_id, i32_to, i64_to, sI_i32, sJ_i64, b01_t, b01_f, i32_b01, b01_0, ↓a_s0, ↓n_s0, ↓a_s1, ↓n_s1, Int.add_zero, t_lt, f_lt, t_le, f_le, t_eq, f_eq, true_and, and_true, false_and, and_false, and_self, ↓reduceIte, z_bool_of, or_true, true_or, or_false, false_or, Int.neg_neg, not_true_eq_false, not_false_eq_true, lg_lt, lg_le, lg_gt, lg_ge, lg_eq, j_lit, j_add, j_sub, j_mul, j_neg, j_eq, i64_id, ij, ji, z_rt, Nat.reduceEqDiff, Nat.reduceAdd, Int.reduceAdd, Int.reduceSub, Int.reduceMul, Int.reduceNeg, Int.reduceLT, Int.reduceLE, Int.reduceEq, gI_sI, gI_sJ, gI_sF, gI_sG, gI_sQ, gI_sA, gJ_sI, gJ_sJ, gJ_sF, gJ_sG, gJ_sQ, gJ_sA, gQ_sI, gQ_sJ, gQ_sF, gQ_sG, gQ_sQ, gQ_sA, gH_sI, gH_sJ, gH_sF, gH_sG, gH_sQ, gH_sA, gN_sI, gN_sJ, gN_sF, gN_sG, gN_sQ, gN_sA, gW_sI, gW_sJ, gW_sF, gW_sG, gW_sQ, gW_sA, h47]

theorem c211 {X : zX} {d : Nat} (hd : 0 < d) {S : zS} (dp : Int) (h47 : gI S 72 47 = dp) (hdp : 0 ≤ dp ∧ dp ≤ 8) {cm cp : Nat} {L : zL} {st : List Value} : z_evc X d 211 [.ref 72] (cm, cp, L, st, mk S) = z_ev X d (cm, cp, L, st, mk (sI (sI S 95 dp 0) 96 dp 0)) := z_evc_of (r := (none, mk (sI (sI S 95 dp 0) 96 dp 0))) (ck := (cm, cp, L, st, mk S)) hd (e211 (X := X) (Nat.le_refl _) dp h47 hdp)