/-! the reference writes a metre out -/
theorem e152 {X : zX} {d : Nat} (hd : 0 ≤ d) {S : zS} (v lo hi : Int) (h1 : -9223372036854775808 ≤ v ∧ v < 9223372036854775808) (h2 : 0 ≤ lo ∧ lo ≤ hi) (h3 : hi < 2147483648) : z_ev X d (z_entry 152 [.long (Int64.ofInt v), .int (Int32.ofInt lo), .int (Int32.ofInt hi)] (mk S)) = some (some (.int (Int32.ofInt (if v < lo then lo else if hi < v then hi else v))), mk S) := by
  show z_ev X d (152, 0, [some (.long (Int64.ofInt v)), none, some (.int (Int32.ofInt lo)), some (.int (Int32.ofInt hi))], [], mk S) = _
  by_cases q1 : v < lo
  · simp (disch := first | omega | assumption | exact b01_rng _ | exact st_5 | exact st_12 | exact st_19 | (simp only [isSt_sI, isSt_sJ, isSt_sF, isSt_sG, isSt_sA]; assumption)) only [↓B152_0, ↓B152_7, ↓B152_11, ↓B152_18, ↓B152_22, ↓B152_24, i_lit, i_add, i_sub, i_mul, i_neg, i_lt, i_le, i_eq, i32_gI, i64_gJ, i32_id, i32_to, i64_to, sI_i32, sJ_i64, b01_t, b01_f, i32_b01, b01_0, ↓a_s0, ↓n_s0, ↓a_s1, ↓n_s1, Int.add_zero, t_lt, f_lt, t_le, f_le, t_eq, f_eq, true_and, and_true, false_and, and_false, and_self, ↓reduceIte, z_bool_of, or_true, true_or, or_false, false_or, Int.neg_neg, not_true_eq_false, not_false_eq_true, lg_lt, lg_le, lg_gt, lg_ge, lg_eq, j_lit, j_add, j_sub, j_mul, j_neg, j_eq, i64_id, ij, ji, z_rt, Nat.reduceEqDiff, Nat.reduceAdd, Int.reduceAdd, Int.reduceSub, Int.reduceMul, Int.reduceNeg, Int.reduceLT, Int.reduceLE, Int.reduceEq, q1]
  · by_cases q2 : hi < v
    · simp (disch := first | omega | assumption | exact b01_rng _ | exact st_5 | exact st_12 | exact st_19 | (simp only [isSt_sI, isSt_sJ, isSt_sF, isSt_sG, isSt_sA]; assumption)) only [↓B152_0, ↓B152_7, ↓B152_11, ↓B152_18, ↓B152_22, ↓B152_24, i_lit, i_add, i_sub, i_mul, i_neg, i_lt, i_le, i_eq, i32_gI, i64_gJ, i32_id, i32_to, i64_to, sI_i32, sJ_i64, b01_t, b01_f, i32_b01, b01_0, ↓a_s0, ↓n_s0, ↓a_s1, ↓n_s1, Int.add_zero, t_lt, f_lt, t_le, f_le, t_eq, f_eq, true_and, and_true, false_and, and_false, and_self, ↓reduceIte, z_bool_of, or_true, true_or, or_false, false_or, Int.neg_neg, not_true_eq_false, not_false_eq_true, lg_lt, lg_le, lg_gt, lg_ge, lg_eq, j_lit, j_add, j_sub, j_mul, j_neg, j_eq, i64_id, ij, ji, z_rt, Nat.reduceEqDiff, Nat.reduceAdd, Int.reduceAdd, Int.reduceSub, Int.reduceMul, Int.reduceNeg, Int.reduceLT, Int.reduceLE, Int.reduceEq, q1, q2]
    · simp (disch := first | omega | assumption | exact b01_rng _ | exact st_5 | exact st_12 | exact st_19 | (simp only [isSt_sI, isSt_sJ, isSt_sF, isSt_sG, isSt_sA]; assumption)) only [↓B152_0, ↓B152_7, ↓B152_11, ↓B152_18, ↓B152_22, ↓B152_24, i_lit, i_add, i_sub, i_mul, i_neg, i_lt, i_le, i_eq, i32_gI, i64_gJ, i32_id, i32_to, i64_to, sI_i32, sJ_i64, b01_t, b01_f, i32_b01, b01_0, ↓a_s0, ↓n_s0, ↓a_s1, ↓n_s1, Int.add_zero, t_lt, f_lt, t_le, f_le, t_eq, f_eq, true_and, and_true, false_and, and_false, and_self, ↓reduceIte, z_bool_of, or_true, true_or, or_false, false_or, Int.neg_neg, not_true_eq_false, not_false_eq_true, lg_lt, lg_le, lg_gt, lg_ge, lg_eq, j_lit, j_add, j_sub, j_mul, j_neg, j_eq, i64_id, ij, ji, z_rt, Nat.reduceEqDiff, Nat.reduceAdd, Int.reduceAdd, Int.reduceSub, Int.reduceMul, Int.reduceNeg, Int.reduceLT, Int.reduceLE, Int.reduceEq, q1, q2]
theorem c152 {X : zX} {d : Nat} (hd : 0 < d) {S : zS} (v lo hi : Int) (h1 : -9223372036854775808 ≤ v ∧ v < 9223372036854775808) (h2 : 0 ≤ lo ∧ lo ≤ hi) (h3 : hi < 2147483648) {cm cp : Nat} {L : zL} {st : List Value} : z_evc X d 152 [.long (Int64.ofInt v), .int (Int32.ofInt lo), .int (Int32.ofInt hi)] (cm, cp, L, st, mk S) = z_ev X d (cm, cp, L, .int (Int32.ofInt (if v < lo then lo else if hi < v then hi else v)) :: st, mk S) := z_evc_of (r := (some (.int (Int32.ofInt (if v < lo then lo else if hi < v then hi else v))), mk S)) (ck := (cm, cp, L, st, mk S)) hd (e152 (X := X) (Nat.le_refl _) v lo hi h1 h2 h3)
/-- a row holds these -/
def Cont (S : zS) (a : Nat) (W : List Int) : Prop := ∀ (j : Nat) (x : Int), W[j]? = some x → gI S a j = x
theorem Cont.fr {S S' : zS} {a : Nat} {W : List Int} (h : Cont S a W) (hf : ∀ i, gI S' a i = gI S a i) : Cont S' a W := fun j x q => by rw [hf]; exact h j x q
theorem Cont.snoc {S : zS} {a : Nat} {W : List Int} (h : Cont S a W) {x : Int} (hx : r32 x) : Cont (sI S a W.length x) a (W ++ [x]) := by
  intro j y q
  rw [gI_sI]
  by_cases e : j = W.length
  · subst e
    rw [if_pos ⟨rfl, rfl⟩, i32_id (by omega) (by omega)]
    rw [List.getElem?_append_right (Nat.le_refl _), Nat.sub_self] at q
    exact Option.some.inj q
  · rw [if_neg (by omega)]
    have hj : j < W.length := by
      have := (List.getElem?_eq_some_iff.mp q).1
      rw [List.length_append] at this
      have : j < W.length + 1 := this
      omega
    rw [List.getElem?_append_left hj] at q
    exact h j y q
theorem len1 (W : List Int) (x : Int) : (W ++ [x]).length = W.length + 1 := by rw [List.length_append]; rfl
def FrH (S S' : zS) : Prop := Dyn S S' ∧ (∀ a i, a ≠ 97 → a ≠ 98 → gI S' a i = gI S a i) ∧ (∀ a i, gJ S' a i = gJ S a i) ∧ (∀ a i, gQ S' a i = gQ S a i)
theorem FrH.rf {S : zS} : FrH S S := ⟨Dyn.rf, fun _ _ _ _ => rfl, fun _ _ => rfl, fun _ _ => rfl⟩
theorem FrH.tr {A B C : zS} (h1 : FrH A B) (h2 : FrH B C) : FrH A C := ⟨h1.1.tr h2.1, fun a i q1 q2 => (h2.2.1 a i q1 q2).trans (h1.2.1 a i q1 q2), fun a i => (h2.2.2.1 a i).trans (h1.2.2.1 a i), fun a i => (h2.2.2.2 a i).trans (h1.2.2.2 a i)⟩
theorem FrH.I {S : zS} {a : Nat} {i x : Int} (h : a = 97 ∨ a = 98) : FrH S (sI S a i x) := ⟨Dyn.sI (by omega) Dyn.rf, fun b j q1 q2 => by rw [gI_sI, if_neg (by omega)], fun _ _ => rfl, fun _ _ => rfl⟩
/-- the heap while steps are counted -/
def hs (S : zS) : List T3 → Prop
  | [] => True
  | x :: r => gI S 97 r.length = min 1000000 (x.2.1 : Int) ∧ hs S r
theorem hs_fr {S S' : zS} : ∀ (st : List T3), (∀ i : Int, 0 ≤ i → i < st.length → gI S' 97 i = gI S 97 i) → hs S st → hs S' st := by
  intro st
  induction st with
  | nil => intro _ _; trivial
  | cons x r ih =>
    intro h1 h2
    have e : (x :: r).length = r.length + 1 := rfl
    exact ⟨by rw [h1 _ (by omega) (by omega)]; exact h2.1, ih (fun i q1 q2 => h1 i q1 (by omega)) h2.2⟩
theorem l216 {X : zX} {d : Nat} (hd : 0 < d) : ∀ (rest pre : List Int) (st : List T3) (S : zS) (x3 : Option Value), gI S 72 44 = (pre ++ rest).length → (pre ++ rest).length ≤ 850 → Cont S 94 (pre ++ rest) → vld rest st.length → st.length ≤ pre.length → hs S st → rest.foldl dst3 st ≠ [] → ∃ S' : zS, z_ev X d (216, 4, [some (.ref 72), some (.int (Int32.ofInt st.length)), some (.int (Int32.ofInt pre.length)), x3], [], mk S) = some (some (.int (Int32.ofInt (gI S' 97 0))), mk S') ∧ hs S' (rest.foldl dst3 st) ∧ FrH S S' := by
  intro rest
  induction rest with
  | nil =>
    intro pre st S x3 h44 hlen hC hv hle hh hne
    rw [List.append_nil] at h44 hlen hC
    refine ⟨S, ?_, hh, FrH.rf⟩
    rw [B216_4]
    simp (disch := first | omega | assumption | exact b01_rng _ | exact st_5 | exact st_12 | exact st_19 | (simp only [isSt_sI, isSt_sJ, isSt_sF, isSt_sG, isSt_sA]; assumption)) only [↓B216_0, ↓B216_12, ↓B216_24, ↓B216_37, ↓B216_43, ↓B216_77, ↓B216_81, ↓B216_110, ↓B216_111, ↓B216_117, ↓a_94, ↓a_97, ↓n_94, ↓n_97, ↓r_72_43, ↓r_72_44, ↓r_72_48, ↓s_94, ↓s_97, i_lit, i_add, i_sub, i_mul, i_neg, i_lt, i_le, i_eq, i32_gI, i64_gJ, i32_id, i32_to, i64_to, sI_i32, sJ_i64, b01_t, b01_f, i32_b01, b01_0, ↓a_s0, ↓n_s0, ↓a_s1, ↓n_s1, Int.add_zero, t_lt, f_lt, t_le, f_le, t_eq, f_eq, true_and, and_true, false_and, and_false, and_self, ↓reduceIte, z_bool_of, or_true, true_or, or_false, false_or, Int.neg_neg, not_true_eq_false, not_false_eq_true, lg_lt, lg_le, lg_gt, lg_ge, lg_eq, j_lit, j_add, j_sub, j_mul, j_neg, j_eq, i64_id, ij, ji, z_rt, Nat.reduceEqDiff, Nat.reduceAdd, Int.reduceAdd, Int.reduceSub, Int.reduceMul, Int.reduceNeg, Int.reduceLT, Int.reduceLE, Int.reduceEq, h44]
  | cons op rest ih =>
    intro pre st S x3 h44 hlen hC hv hle hh hne
    have hle2 : (pre ++ op :: rest).length = pre.length + (rest.length + 1) := by rw [List.length_append]; rfl
    have e94 : gI S 94 pre.length = op := hC pre.length op (by rw [List.getElem?_append_right (Nat.le_refl _), Nat.sub_self]; rfl)
    have eA : pre ++ op :: rest = (pre ++ [op]) ++ rest := by simp
    have el : (pre ++ [op]).length = pre.length + 1 := len1 _ _
    have elI : ((pre ++ [op]).length : Int) = (pre.length : Int) + 1 := by rw [el]; omega
    have hv' : if op < 4 then 0 ≤ op ∧ vld rest (st.length + 1) else if op < 6 then 2 ≤ st.length ∧ vld rest (st.length - 1) else 7 ≤ op ∧ op ≤ 15 ∧ 1 ≤ st.length ∧ vld rest st.length := hv
    have hfold : (op :: rest).foldl dst3 st = rest.foldl dst3 (dst3 st op) := rfl
    rw [hfold] at hne ⊢
    by_cases q1 : op < 4
    · rw [if_pos q1] at hv'
      have ed : dst3 st op = (l1 op, 1, [op]) :: st := by unfold dst3; rw [if_pos q1]
      rw [ed] at hne ⊢
      have hhs : hs (sI S 97 st.length 1) ((l1 op, 1, [op]) :: st) := ⟨by rw [gI_sI, if_pos ⟨rfl, rfl⟩]; rfl, hs_fr st (fun i w1 w2 => by rw [gI_sI, if_neg (by omega)]) hh⟩
      obtain ⟨S', a1, a2, a3⟩ := ih (pre ++ [op]) ((l1 op, 1, [op]) :: st) (sI S 97 st.length 1) (some (.int (Int32.ofInt op))) (by rw [gI_sI, if_neg (by omega), ← eA]; exact h44) (by rw [← eA]; exact hlen) (by rw [← eA]; exact hC.fr (fun i => by rw [gI_sI, if_neg (by omega)])) hv'.2 (by rw [el]; exact Nat.succ_le_succ hle) hhs hne
      refine ⟨S', ?_, a2, (FrH.I (Or.inl rfl)).tr a3⟩
      rw [elI, show (((l1 op, 1, [op]) :: st).length : Int) = (st.length : Int) + 1 from by rw [List.length_cons]; omega] at a1
      rw [← a1, B216_4]
      simp (disch := first | omega | assumption | exact b01_rng _ | exact st_5 | exact st_12 | exact st_19 | (simp only [isSt_sI, isSt_sJ, isSt_sF, isSt_sG, isSt_sA]; assumption)) only [↓B216_0, ↓B216_12, ↓B216_24, ↓B216_37, ↓B216_43, ↓B216_77, ↓B216_81, ↓B216_110, ↓B216_111, ↓B216_117, ↓a_94, ↓a_97, ↓n_94, ↓n_97, ↓r_72_43, ↓r_72_44, ↓r_72_48, ↓s_94, ↓s_97, i_lit, i_add, i_sub, i_mul, i_neg, i_lt, i_le, i_eq, i32_gI, i64_gJ, i32_id, i32_to, i64_to, sI_i32, sJ_i64, b01_t, b01_f, i32_b01, b01_0, ↓a_s0, ↓n_s0, ↓a_s1, ↓n_s1, Int.add_zero, t_lt, f_lt, t_le, f_le, t_eq, f_eq, true_and, and_true, false_and, and_false, and_self, ↓reduceIte, z_bool_of, or_true, true_or, or_false, false_or, Int.neg_neg, not_true_eq_false, not_false_eq_true, lg_lt, lg_le, lg_gt, lg_ge, lg_eq, j_lit, j_add, j_sub, j_mul, j_neg, j_eq, i64_id, ij, ji, z_rt, Nat.reduceEqDiff, Nat.reduceAdd, Int.reduceAdd, Int.reduceSub, Int.reduceMul, Int.reduceNeg, Int.reduceLT, Int.reduceLE, Int.reduceEq, h44, e94]
    · rw [if_neg q1] at hv'
      by_cases q2 : op < 6
      · rw [if_pos q2] at hv'
        cases st with
        | nil => exact absurd hv'.1 (by simp)
        | cons B st =>
          cases st with
          | nil => exact absurd hv'.1 (by simp)
          | cons A r =>
            have ed : ∃ y : T3, dst3 (B :: A :: r) op = y :: r ∧ y.2.1 = A.2.1 + B.2.1 := by
              unfold dst3
              rw [if_neg q1]
              simp only []
              by_cases q3 : op = 4
              · rw [if_pos q3]; exact ⟨_, rfl, rfl⟩
              · rw [if_neg q3, if_pos (by omega)]; exact ⟨_, rfl, rfl⟩
            obtain ⟨y, ed, ey⟩ := ed
            rw [ed] at hne ⊢
            obtain ⟨h1, h2, h3⟩ := hh
            have e1 : (B :: A :: r).length = r.length + 2 := rfl
            have e2 : (A :: r).length = r.length + 1 := rfl
            rw [e2] at h1
            rw [e1] at hv' hle
            have hm : (if 1000000 < min 1000000 (A.2.1 : Int) + min 1000000 (B.2.1 : Int) then 1000000 else min 1000000 (A.2.1 : Int) + min 1000000 (B.2.1 : Int)) = min 1000000 (y.2.1 : Int) := by
              rw [ey]; split <;> omega
            have hhs : hs (sI S 97 r.length (min 1000000 (y.2.1 : Int))) (y :: r) := ⟨by rw [gI_sI, if_pos ⟨rfl, rfl⟩, i32_id (by omega) (by omega)], hs_fr r (fun i w1 w2 => by rw [gI_sI, if_neg (by omega)]) h3⟩
            obtain ⟨S', a1, a2, a3⟩ := ih (pre ++ [op]) (y :: r) (sI S 97 r.length (min 1000000 (y.2.1 : Int))) (some (.int (Int32.ofInt op))) (by rw [gI_sI, if_neg (by omega), ← eA]; exact h44) (by rw [← eA]; exact hlen) (by rw [← eA]; exact hC.fr (fun i => by rw [gI_sI, if_neg (by omega)])) hv'.2 (by rw [el]; show r.length + 1 ≤ _; omega) hhs hne
            refine ⟨S', ?_, a2, (FrH.I (Or.inl rfl)).tr a3⟩
            rw [elI, show ((y :: r).length : Int) = (r.length : Int) + 1 from by rw [List.length_cons]; omega] at a1
            rw [← a1, B216_4, show ((B :: A :: r).length : Int) = (r.length : Int) + 2 from by rw [e1]; omega]
            have w1 : (r.length : Int) + 1 - 1 = r.length := by omega
            have w2 : (r.length : Int) + 2 + -1 = (r.length : Int) + 1 := by omega
            have w3 : gI S 97 ((r.length : Int) + 1) = min 1000000 (B.2.1 : Int) := by rw [← h1]; congr 1
            simp (disch := first | omega | assumption | exact b01_rng _ | exact st_5 | exact st_12 | exact st_19 | (simp only [isSt_sI, isSt_sJ, isSt_sF, isSt_sG, isSt_sA]; assumption)) only [↓B216_0, ↓B216_12, ↓B216_24, ↓B216_37, ↓B216_43, ↓B216_77, ↓B216_81, ↓B216_110, ↓B216_111, ↓B216_117, ↓a_94, ↓a_97, ↓n_94, ↓n_97, ↓r_72_43, ↓r_72_44, ↓r_72_48, ↓s_94, ↓s_97, c152, i_lit, i_add, i_sub, i_mul, i_neg, i_lt, i_le, i_eq, i32_gI, i64_gJ, i32_id, i32_to, i64_to, sI_i32, sJ_i64, b01_t, b01_f, i32_b01, b01_0, ↓a_s0, ↓n_s0, ↓a_s1, ↓n_s1, Int.add_zero, t_lt, f_lt, t_le, f_le, t_eq, f_eq, true_and, and_true, false_and, and_false, and_self, ↓reduceIte, z_bool_of, or_true, true_or, or_false, false_or, Int.neg_neg, not_true_eq_false, not_false_eq_true, lg_lt, lg_le, lg_gt, lg_ge, lg_eq, j_lit, j_add, j_sub, j_mul, j_neg, j_eq, i64_id, ij, ji, z_rt, Nat.reduceEqDiff, Nat.reduceAdd, Int.reduceAdd, Int.reduceSub, Int.reduceMul, Int.reduceNeg, Int.reduceLT, Int.reduceLE, Int.reduceEq, h44, e94, w1, w2, w3, h2, hm]
      · rw [if_neg q2] at hv'
        cases st with
        | nil => exact absurd hv'.2.2.1 (by simp)
        | cons B r =>
          have ed : dst3 (B :: r) op = often3 B (op - 6).toNat :: r := by
            unfold dst3
            rw [if_neg q1]
            cases r with
            | nil => simp only []; rw [if_neg q2]
            | cons A r => simp only []; rw [if_neg (by omega), if_neg (by omega)]
          rw [ed] at hne ⊢
          obtain ⟨h1, h2⟩ := hh
          have e1 : (B :: r).length = r.length + 1 := rfl
          rw [e1] at hv' hle
          have hm : (if 1000000 < min 1000000 (B.2.1 : Int) * (op - 6) then 1000000 else min 1000000 (B.2.1 : Int) * (op - 6)) = min 1000000 ((often3 B (op - 6).toNat).2.1 : Int) := by
            show _ = min 1000000 (((op - 6).toNat * B.2.1 : Nat) : Int)
            rcases (show op = 7 ∨ op = 8 ∨ op = 9 ∨ op = 10 ∨ op = 11 ∨ op = 12 ∨ op = 13 ∨ op = 14 ∨ op = 15 by omega) with rfl | rfl | rfl | rfl | rfl | rfl | rfl | rfl | rfl <;> simp only [Int.reduceSub, Int.reduceToNat] <;> split <;> omega
          have hb : 0 ≤ min 1000000 (B.2.1 : Int) * (op - 6) ∧ min 1000000 (B.2.1 : Int) * (op - 6) ≤ 1000000 * 9 := ⟨Int.mul_nonneg (by omega) (by omega), Int.mul_le_mul (by omega) (by omega) (by omega) (by omega)⟩
          have hhs : hs (sI S 97 r.length (min 1000000 ((often3 B (op - 6).toNat).2.1 : Int))) (often3 B (op - 6).toNat :: r) := ⟨by rw [gI_sI, if_pos ⟨rfl, rfl⟩, i32_id (by omega) (by omega)], hs_fr r (fun i w1 w2 => by rw [gI_sI, if_neg (by omega)]) h2⟩
          obtain ⟨S', a1, a2, a3⟩ := ih (pre ++ [op]) (often3 B (op - 6).toNat :: r) (sI S 97 r.length (min 1000000 ((often3 B (op - 6).toNat).2.1 : Int))) (some (.int (Int32.ofInt op))) (by rw [gI_sI, if_neg (by omega), ← eA]; exact h44) (by rw [← eA]; exact hlen) (by rw [← eA]; exact hC.fr (fun i => by rw [gI_sI, if_neg (by omega)])) hv'.2.2.2 (by rw [el]; show r.length + 1 ≤ _; omega) hhs hne
          refine ⟨S', ?_, a2, (FrH.I (Or.inl rfl)).tr a3⟩
          rw [elI, show ((often3 B (op - 6).toNat :: r).length : Int) = (r.length : Int) + 1 from by rw [List.length_cons]; omega] at a1
          rw [← a1, B216_4, show ((B :: r).length : Int) = (r.length : Int) + 1 from by rw [e1]; omega]
          have w1 : (r.length : Int) + 1 - 1 = r.length := by omega
          simp (disch := first | omega | assumption | exact b01_rng _ | exact st_5 | exact st_12 | exact st_19 | (simp only [isSt_sI, isSt_sJ, isSt_sF, isSt_sG, isSt_sA]; assumption)) only [↓B216_0, ↓B216_12, ↓B216_24, ↓B216_37, ↓B216_43, ↓B216_77, ↓B216_81, ↓B216_110, ↓B216_111, ↓B216_117, ↓a_94, ↓a_97, ↓n_94, ↓n_97, ↓r_72_43, ↓r_72_44, ↓r_72_48, ↓s_94, ↓s_97, c152, i_lit, i_add, i_sub, i_mul, i_neg, i_lt, i_le, i_eq, i32_gI, i64_gJ, i32_id, i32_to, i64_to, sI_i32, sJ_i64, b01_t, b01_f, i32_b01, b01_0, ↓a_s0, ↓n_s0, ↓a_s1, ↓n_s1, Int.add_zero, t_lt, f_lt, t_le, f_le, t_eq, f_eq, true_and, and_true, false_and, and_false, and_self, ↓reduceIte, z_bool_of, or_true, true_or, or_false, false_or, Int.neg_neg, not_true_eq_false, not_false_eq_true, lg_lt, lg_le, lg_gt, lg_ge, lg_eq, j_lit, j_add, j_sub, j_mul, j_neg, j_eq, i64_id, ij, ji, z_rt, Nat.reduceEqDiff, Nat.reduceAdd, Int.reduceAdd, Int.reduceSub, Int.reduceMul, Int.reduceNeg, Int.reduceLT, Int.reduceLE, Int.reduceEq, h44, e94, w1, h1, hm]
/-- stepsOfRaw -/
theorem z216 {X : zX} {d : Nat} (hd : 0 < d) {ops : List Int} {x : T3} (h3 : Den3 ops x) {S : zS} (h44 : gI S 72 44 = ops.length) (hlen : ops.length ≤ 850) (hC : Cont S 94 ops) : ∃ S' : zS, z_ev X d (z_entry 216 [.ref 72] (mk S)) = some (some (.int (Int32.ofInt (min 1000000 (x.2.1 : Int)))), mk S') ∧ FrH S S' := by
  have hf := h3.1 []
  have hv := h3.2 0 [] trivial
  rw [List.append_nil] at hv
  obtain ⟨S', a1, a2, a3⟩ := l216 (X := X) (d := d) hd ops [] [] S none (by rw [List.nil_append]; exact h44) (by rw [List.nil_append]; exact hlen) (by rw [List.nil_append]; exact hC) hv (Nat.le_refl _) trivial (by rw [hf]; simp)
  rw [hf] at a2
  have e0 : gI S' 97 0 = min 1000000 (x.2.1 : Int) := a2.1
  rw [e0] at a1
  refine ⟨S', ?_, a3⟩
  rw [← a1]
  show z_ev X d (216, 0, [some (.ref 72), none, none, none], [], mk S) = _
  rw [B216_0]
  rfl
/-! writeOut -/
def FrF (S S' : zS) : Prop := Dyn S S' ∧ (∀ a i, a ≠ 98 → gI S' a i = gI S a i) ∧ (∀ a i, gJ S' a i = gJ S a i) ∧ (∀ a i, gQ S' a i = gQ S a i)
theorem FrF.rf {S : zS} : FrF S S := ⟨Dyn.rf, fun _ _ _ => rfl, fun _ _ => rfl, fun _ _ => rfl⟩
theorem FrF.tr {A B C : zS} (h1 : FrF A B) (h2 : FrF B C) : FrF A C := ⟨h1.1.tr h2.1, fun a i q1 => (h2.2.1 a i q1).trans (h1.2.1 a i q1), fun a i => (h2.2.2.1 a i).trans (h1.2.2.1 a i), fun a i => (h2.2.2.2 a i).trans (h1.2.2.2 a i)⟩
theorem FrF.I {S : zS} {i x : Int} : FrF S (sI S 98 i x) := ⟨Dyn.sI (by omega) Dyn.rf, fun b j q1 => by rw [gI_sI, if_neg (by omega)], fun _ _ => rfl, fun _ _ => rfl⟩
theorem FrF.h {A B : zS} (h : FrF A B) : FrH A B := ⟨h.1, fun a i _ q => h.2.1 a i q, h.2.2.1, h.2.2.2⟩
/-- a part is copied behind all -/
theorem l218i {X : zX} {d : Nat} {fr to oft k : Int} : ∀ (rem W : List Int) (i : Nat) (S : zS), (i : Int) + rem.length = to → (∀ (j : Nat) (x : Int), rem[j]? = some x → W[i + j]? = some x) → W.length + rem.length ≤ 399 → to ≤ 400 → Cont S 98 W → (∀ x ∈ W, 0 ≤ x ∧ x ≤ 5) → ∃ S' : zS, z_ev X d (218, 15, [some (.ref 72), some (.int (Int32.ofInt fr)), some (.int (Int32.ofInt to)), some (.int (Int32.ofInt oft)), some (.int (Int32.ofInt W.length)), some (.int (Int32.ofInt k)), some (.int (Int32.ofInt i))], [], mk S) = z_ev X d (218, 44, [some (.ref 72), some (.int (Int32.ofInt fr)), some (.int (Int32.ofInt to)), some (.int (Int32.ofInt oft)), some (.int (Int32.ofInt (W ++ rem).length)), some (.int (Int32.ofInt k)), some (.int (Int32.ofInt to))], [], mk S') ∧ Cont S' 98 (W ++ rem) ∧ FrF S S' := by
  intro rem
  induction rem with
  | nil =>
    intro W i S h1 h2 h3 h4 hC hW
    have e : (i : Int) = to := by rw [← h1]; simp
    refine ⟨S, ?_, by rw [List.append_nil]; exact hC, FrF.rf⟩
    rw [B218_15, List.append_nil, e]
    simp (disch := first | omega | assumption | exact b01_rng _ | exact st_5 | exact st_12 | exact st_19 | (simp only [isSt_sI, isSt_sJ, isSt_sF, isSt_sG, isSt_sA]; assumption)) only [i_lit, i_add, i_sub, i_mul, i_neg, i_lt, i_le, i_eq, i32_gI, i64_gJ, i32_id, i32_to, i64_to, sI_i32, sJ_i64, b01_t, b01_f, i32_b01, b01_0, ↓a_s0, ↓n_s0, ↓a_s1, ↓n_s1, Int.add_zero, t_lt, f_lt, t_le, f_le, t_eq, f_eq, true_and, and_true, false_and, and_false, and_self, ↓reduceIte, z_bool_of, or_true, true_or, or_false, false_or, Int.neg_neg, not_true_eq_false, not_false_eq_true, lg_lt, lg_le, lg_gt, lg_ge, lg_eq, j_lit, j_add, j_sub, j_mul, j_neg, j_eq, i64_id, ij, ji, z_rt, Nat.reduceEqDiff, Nat.reduceAdd, Int.reduceAdd, Int.reduceSub, Int.reduceMul, Int.reduceNeg, Int.reduceLT, Int.reduceLE, Int.reduceEq]
  | cons x rem ih =>
    intro W i S h1 h2 h3 h4 hC hW
    have e1 : (x :: rem).length = rem.length + 1 := rfl
    rw [e1] at h1 h3
    have hx := h2 0 x rfl
    rw [Nat.add_zero] at hx
    have hi : i < W.length := (List.getElem?_eq_some_iff.mp hx).1
    have hx2 := hW x (List.mem_of_getElem? hx)
    have e98 : gI S 98 i = x := hC i x hx
    have el := len1 W x
    obtain ⟨S', a1, a2, a3⟩ := ih (W ++ [x]) (i + 1) (sI S 98 W.length x) (by omega) (fun j y q => by
      have := h2 (j + 1) y q
      rw [show i + (j + 1) = i + 1 + j by omega] at this
      rw [List.getElem?_append_left (List.getElem?_eq_some_iff.mp this).1]
      exact this) (by rw [el]; omega) h4 (hC.snoc (by omega)) (fun y hy => by
      rcases List.mem_append.mp hy with w | w
      · exact hW y w
      · simp only [List.mem_cons, List.not_mem_nil, or_false] at w; rw [w]; exact hx2)
    rw [List.append_assoc, List.singleton_append] at a1 a2
    refine ⟨S', ?_, a2, FrF.I.tr a3⟩
    rw [← a1, B218_15, show ((W ++ [x]).length : Int) = (W.length : Int) + 1 from by rw [el]; omega, show ((i + 1 : Nat) : Int) = (i : Int) + 1 by omega]
    simp (disch := first | omega | assumption | exact b01_rng _ | exact st_5 | exact st_12 | exact st_19 | (simp only [isSt_sI, isSt_sJ, isSt_sF, isSt_sG, isSt_sA]; assumption)) only [↓B218_0, ↓B218_6, ↓B218_12, ↓B218_21, ↓B218_61, ↓a_98, ↓n_98, ↓r_72_49, ↓s_98, i_lit, i_add, i_sub, i_mul, i_neg, i_lt, i_le, i_eq, i32_gI, i64_gJ, i32_id, i32_to, i64_to, sI_i32, sJ_i64, b01_t, b01_f, i32_b01, b01_0, ↓a_s0, ↓n_s0, ↓a_s1, ↓n_s1, Int.add_zero, t_lt, f_lt, t_le, f_le, t_eq, f_eq, true_and, and_true, false_and, and_false, and_self, ↓reduceIte, z_bool_of, or_true, true_or, or_false, false_or, Int.neg_neg, not_true_eq_false, not_false_eq_true, lg_lt, lg_le, lg_gt, lg_ge, lg_eq, j_lit, j_add, j_sub, j_mul, j_neg, j_eq, i64_id, ij, ji, z_rt, Nat.reduceEqDiff, Nat.reduceAdd, Int.reduceAdd, Int.reduceSub, Int.reduceMul, Int.reduceNeg, Int.reduceLT, Int.reduceLE, Int.reduceEq, e98]
theorem fpow_len (f : List Int) : ∀ k : Nat, (fpow f k).length = f.length + k * (f.length + 1) := by
  intro k
  induction k with
  | zero => show f.length = _; omega
  | succ k ih =>
    show (fpow f k ++ f ++ [4]).length = _
    rw [List.length_append, List.length_append, ih, Nat.succ_mul]
    show _ + 1 = _
    omega
theorem fpow_mem {f : List Int} (hf : ∀ x ∈ f, 0 ≤ x ∧ x ≤ 5) : ∀ k : Nat, ∀ x ∈ fpow f k, 0 ≤ x ∧ x ≤ 5 := by
  intro k
  induction k with
  | zero => exact hf
  | succ k ih =>
    intro x hx
    have hx' : x ∈ fpow f k ++ f ++ [4] := hx
    simp only [List.mem_append, List.mem_cons, List.not_mem_nil, or_false] at hx'
    rcases hx' with (w | w) | w
    · exact ih x w
    · exact hf x w
    · omega
theorem l218 {X : zX} {d : Nat} {pre f : List Int} {oft : Nat} (hoft : oft ≤ 9) (hp : ∀ x ∈ pre, 0 ≤ x ∧ x ≤ 5) (hf : ∀ x ∈ f, 0 ≤ x ∧ x ≤ 5) (hL : pre.length + (fpow f (oft - 1)).length ≤ 399) : ∀ (r k : Nat) (S : zS) (x6 : Option Value), k + 1 + r = oft → Cont S 98 (pre ++ fpow f k) → ∃ S' : zS, z_ev X d (218, 6, [some (.ref 72), some (.int (Int32.ofInt pre.length)), some (.int (Int32.ofInt (pre ++ f).length)), some (.int (Int32.ofInt oft)), some (.int (Int32.ofInt (pre ++ fpow f k).length)), some (.int (Int32.ofInt (k + 1 : Nat))), x6], [], mk S) = some (some (.int (Int32.ofInt (pre ++ fpow f (oft - 1)).length)), mk S') ∧ Cont S' 98 (pre ++ fpow f (oft - 1)) ∧ FrF S S' := by
  intro r
  induction r with
  | zero =>
    intro k S x6 h1 hC
    have e : oft - 1 = k := by omega
    rw [e]
    refine ⟨S, ?_, hC, FrF.rf⟩
    rw [B218_6]
    simp (disch := first | omega | assumption | exact b01_rng _ | exact st_5 | exact st_12 | exact st_19 | (simp only [isSt_sI, isSt_sJ, isSt_sF, isSt_sG, isSt_sA]; assumption)) only [↓B218_0, ↓B218_12, ↓B218_21, ↓B218_44, ↓B218_61, ↓a_98, ↓n_98, ↓r_72_49, ↓s_98, i_lit, i_add, i_sub, i_mul, i_neg, i_lt, i_le, i_eq, i32_gI, i64_gJ, i32_id, i32_to, i64_to, sI_i32, sJ_i64, b01_t, b01_f, i32_b01, b01_0, ↓a_s0, ↓n_s0, ↓a_s1, ↓n_s1, Int.add_zero, t_lt, f_lt, t_le, f_le, t_eq, f_eq, true_and, and_true, false_and, and_false, and_self, ↓reduceIte, z_bool_of, or_true, true_or, or_false, false_or, Int.neg_neg, not_true_eq_false, not_false_eq_true, lg_lt, lg_le, lg_gt, lg_ge, lg_eq, j_lit, j_add, j_sub, j_mul, j_neg, j_eq, i64_id, ij, ji, z_rt, Nat.reduceEqDiff, Nat.reduceAdd, Int.reduceAdd, Int.reduceSub, Int.reduceMul, Int.reduceNeg, Int.reduceLT, Int.reduceLE, Int.reduceEq]
  | succ r ih =>
    intro k S x6 h1 hC
    rw [fpow_len] at hL
    have hk : (oft - 1) * (f.length + 1) = (k + 1) * (f.length + 1) + (oft - 1 - (k + 1)) * (f.length + 1) := by rw [← Nat.add_mul]; congr 1; omega
    have hk2 : (k + 1) * (f.length + 1) = k * (f.length + 1) + (f.length + 1) := Nat.succ_mul _ _
    have el : (pre ++ fpow f k).length = pre.length + (f.length + k * (f.length + 1)) := by rw [List.length_append, fpow_len]
    have el2 : (pre ++ f).length = pre.length + f.length := List.length_append
    have hpf : ∀ x ∈ pre ++ fpow f k, 0 ≤ x ∧ x ≤ 5 := fun x hx => (List.mem_append.mp hx).elim (hp x) (fpow_mem hf k x)
    -- the part lies there
    have hsub : ∀ (j : Nat) (x : Int), f[j]? = some x → (pre ++ fpow f k)[pre.length + j]? = some x := by
      intro j x q
      rw [List.getElem?_append_right (by omega), Nat.add_sub_cancel_left]
      have : ∀ k : Nat, (fpow f k)[j]? = some x := by
        intro k
        induction k with
        | zero => exact q
        | succ k ih2 =>
          show (fpow f k ++ f ++ [4])[j]? = some x
          rw [List.append_assoc, List.getElem?_append_left (List.getElem?_eq_some_iff.mp ih2).1]
          exact ih2
      exact this k
    obtain ⟨S1, a1, a2, a3⟩ := l218i (X := X) (d := d) (fr := pre.length) (to := (pre ++ f).length) (oft := oft) (k := (k + 1 : Nat)) f (pre ++ fpow f k) pre.length S (by rw [el2]; omega) hsub (by rw [el]; omega) (by rw [el2]; omega) hC hpf
    have e2 : pre ++ fpow f k ++ f ++ [4] = pre ++ fpow f (k + 1) := by
      show _ = pre ++ (fpow f k ++ f ++ [4]); simp only [List.append_assoc]
    have el3 : (pre ++ fpow f k ++ f).length = pre.length + (f.length + k * (f.length + 1)) + f.length := by rw [List.length_append, el]
    have hC2 : Cont (sI S1 98 (pre ++ fpow f k ++ f).length 4) 98 (pre ++ fpow f (k + 1)) := by rw [← e2]; exact a2.snoc (by omega)
    obtain ⟨S2, b1, b2, b3⟩ := ih (k + 1) (sI S1 98 (pre ++ fpow f k ++ f).length 4) (some (.int (Int32.ofInt (pre ++ f).length))) (by omega) hC2
    refine ⟨S2, ?_, b2, a3.tr (FrF.I.tr b3)⟩
    rw [← b1, show ((pre ++ fpow f (k + 1)).length : Int) = ((pre ++ fpow f k ++ f).length : Int) + 1 from by rw [← e2, len1]; omega, show ((k + 1 + 1 : Nat) : Int) = ((k + 1 : Nat) : Int) + 1 by omega, B218_6]
    simp (disch := first | omega | assumption | exact b01_rng _ | exact st_5 | exact st_12 | exact st_19 | (simp only [isSt_sI, isSt_sJ, isSt_sF, isSt_sG, isSt_sA]; assumption)) only [↓B218_0, ↓B218_12, ↓B218_21, ↓B218_61, ↓a_98, ↓n_98, ↓r_72_49, ↓s_98, i_lit, i_add, i_sub, i_mul, i_neg, i_lt, i_le, i_eq, i32_gI, i64_gJ, i32_id, i32_to, i64_to, sI_i32, sJ_i64, b01_t, b01_f, i32_b01, b01_0, ↓a_s0, ↓n_s0, ↓a_s1, ↓n_s1, Int.add_zero, t_lt, f_lt, t_le, f_le, t_eq, f_eq, true_and, and_true, false_and, and_false, and_self, ↓reduceIte, z_bool_of, or_true, true_or, or_false, false_or, Int.neg_neg, not_true_eq_false, not_false_eq_true, lg_lt, lg_le, lg_gt, lg_ge, lg_eq, j_lit, j_add, j_sub, j_mul, j_neg, j_eq, i64_id, ij, ji, z_rt, Nat.reduceEqDiff, Nat.reduceAdd, Int.reduceAdd, Int.reduceSub, Int.reduceMul, Int.reduceNeg, Int.reduceLT, Int.reduceLE, Int.reduceEq]
    rw [a1, B218_44]
    simp (disch := first | omega | assumption | exact b01_rng _ | exact st_5 | exact st_12 | exact st_19 | (simp only [isSt_sI, isSt_sJ, isSt_sF, isSt_sG, isSt_sA]; assumption)) only [↓B218_0, ↓B218_12, ↓B218_21, ↓B218_61, ↓a_98, ↓n_98, ↓r_72_49, ↓s_98, i_lit, i_add, i_sub, i_mul, i_neg, i_lt, i_le, i_eq, i32_gI, i64_gJ, i32_id, i32_to, i64_to, sI_i32, sJ_i64, b01_t, b01_f, i32_b01, b01_0, ↓a_s0, ↓n_s0, ↓a_s1, ↓n_s1, Int.add_zero, t_lt, f_lt, t_le, f_le, t_eq, f_eq, true_and, and_true, false_and, and_false, and_self, ↓reduceIte, z_bool_of, or_true, true_or, or_false, false_or, Int.neg_neg, not_true_eq_false, not_false_eq_true, lg_lt, lg_le, lg_gt, lg_ge, lg_eq, j_lit, j_add, j_sub, j_mul, j_neg, j_eq, i64_id, ij, ji, z_rt, Nat.reduceEqDiff, Nat.reduceAdd, Int.reduceAdd, Int.reduceSub, Int.reduceMul, Int.reduceNeg, Int.reduceLT, Int.reduceLE, Int.reduceEq]
/-- what is written of a stack of parts -/
def outl : List T3 → List Int
  | [] => []
  | x :: r => outl r ++ x.2.2
def hp (S : zS) : List T3 → Prop
  | [] => True
  | _ :: r => gI S 97 r.length = (outl r).length ∧ hp S r
theorem hp_fr {S S' : zS} : ∀ (st : List T3), (∀ i : Int, 0 ≤ i → i < st.length → gI S' 97 i = gI S 97 i) → hp S st → hp S' st := by
  intro st
  induction st with
  | nil => intro _ _; trivial
  | cons x r ih =>
    intro h1 h2
    have e : (x :: r).length = r.length + 1 := rfl
    exact ⟨by rw [h1 _ (by omega) (by omega)]; exact h2.1, ih (fun i q1 q2 => h1 i q1 (by omega)) h2.2⟩
theorem outl_mono : ∀ (rest : List Int) (st : List T3), vld rest st.length → (outl st).length ≤ (outl (rest.foldl dst3 st)).length := by
  intro rest
  induction rest with
  | nil => intro st _; exact Nat.le_refl _
  | cons op rest ih =>
    intro st hv
    have hv' : if op < 4 then 0 ≤ op ∧ vld rest (st.length + 1) else if op < 6 then 2 ≤ st.length ∧ vld rest (st.length - 1) else 7 ≤ op ∧ op ≤ 15 ∧ 1 ≤ st.length ∧ vld rest st.length := hv
    show _ ≤ (outl (rest.foldl dst3 (dst3 st op))).length
    by_cases q1 : op < 4
    · rw [if_pos q1] at hv'
      have ed : dst3 st op = (l1 op, 1, [op]) :: st := by unfold dst3; rw [if_pos q1]
      rw [ed]
      refine Nat.le_trans ?_ (ih ((l1 op, 1, [op]) :: st) hv'.2)
      show _ ≤ (outl st ++ [op]).length
      rw [len1]; omega
    · rw [if_neg q1] at hv'
      by_cases q2 : op < 6
      · rw [if_pos q2] at hv'
        cases st with
        | nil => exact absurd hv'.1 (by simp)
        | cons B st =>
          cases st with
          | nil => exact absurd hv'.1 (by simp)
          | cons A r =>
            have ed : ∃ y : T3, dst3 (B :: A :: r) op = y :: r ∧ y.2.2 = A.2.2 ++ B.2.2 ++ [op] := by
              unfold dst3
              rw [if_neg q1]
              simp only []
              by_cases q3 : op = 4
              · rw [if_pos q3, q3]; exact ⟨_, rfl, rfl⟩
              · rw [if_neg q3, if_pos (by omega), show op = 5 by omega]; exact ⟨_, rfl, rfl⟩
            obtain ⟨y, ed, ey⟩ := ed
            rw [ed]
            refine Nat.le_trans ?_ (ih (y :: r) hv'.2)
            show (outl r ++ A.2.2 ++ B.2.2).length ≤ (outl r ++ y.2.2).length
            rw [ey]
            simp only [List.length_append]; omega
      · rw [if_neg q2] at hv'
        cases st with
        | nil => exact absurd hv'.2.2.1 (by simp)
        | cons B r =>
          have ed : dst3 (B :: r) op = often3 B (op - 6).toNat :: r := by
            unfold dst3
            rw [if_neg q1]
            cases r with
            | nil => simp only []; rw [if_neg q2]
            | cons A r => simp only []; rw [if_neg (by omega), if_neg (by omega)]
          rw [ed]
          refine Nat.le_trans ?_ (ih (often3 B (op - 6).toNat :: r) hv'.2.2.2)
          show (outl r ++ B.2.2).length ≤ (outl r ++ fpow B.2.2 ((op - 6).toNat - 1)).length
          rw [List.length_append, List.length_append, fpow_len]
          omega
theorem l217 {X : zX} {d : Nat} (hd : 1 < d) : ∀ (rest pre : List Int) (st : List T3) (S : zS) (x4 : Option Value), gI S 72 44 = (pre ++ rest).length → (pre ++ rest).length ≤ 850 → Cont S 94 (pre ++ rest) → vld rest st.length → st.length ≤ pre.length → hp S st → Cont S 98 (outl st) → (∀ x ∈ outl st, 0 ≤ x ∧ x ≤ 5) → (outl (rest.foldl dst3 st)).length ≤ 399 → ∃ S' : zS, z_ev X d (217, 6, [some (.ref 72), some (.int (Int32.ofInt (outl st).length)), some (.int (Int32.ofInt st.length)), some (.int (Int32.ofInt pre.length)), x4], [], mk S) = some (some (.int (Int32.ofInt (outl (rest.foldl dst3 st)).length)), mk S') ∧ Cont S' 98 (outl (rest.foldl dst3 st)) ∧ FrH S S' := by
  intro rest
  induction rest with
  | nil =>
    intro pre st S x3 h44 hlen hC hv hle hh hW hx hL
    rw [List.append_nil] at h44 hlen hC
    refine ⟨S, ?_, hW, FrH.rf⟩
    rw [B217_6]
    simp (disch := first | omega | assumption | exact b01_rng _ | exact st_5 | exact st_12 | exact st_19 | (simp only [isSt_sI, isSt_sJ, isSt_sF, isSt_sG, isSt_sA]; assumption)) only [↓B217_0, ↓B217_14, ↓B217_28, ↓B217_52, ↓B217_59, ↓B217_76, ↓B217_94, ↓B217_95, ↓B217_101, ↓a_94, ↓a_97, ↓a_98, ↓n_94, ↓n_97, ↓n_98, ↓o_72, ↓r_72_43, ↓r_72_44, ↓r_72_48, ↓r_72_49, ↓s_94, ↓s_97, ↓s_98, i_lit, i_add, i_sub, i_mul, i_neg, i_lt, i_le, i_eq, i32_gI, i64_gJ, i32_id, i32_to, i64_to, sI_i32, sJ_i64, b01_t, b01_f, i32_b01, b01_0, ↓a_s0, ↓n_s0, ↓a_s1, ↓n_s1, Int.add_zero, t_lt, f_lt, t_le, f_le, t_eq, f_eq, true_and, and_true, false_and, and_false, and_self, ↓reduceIte, z_bool_of, or_true, true_or, or_false, false_or, Int.neg_neg, not_true_eq_false, not_false_eq_true, lg_lt, lg_le, lg_gt, lg_ge, lg_eq, j_lit, j_add, j_sub, j_mul, j_neg, j_eq, i64_id, ij, ji, z_rt, Nat.reduceEqDiff, Nat.reduceAdd, Int.reduceAdd, Int.reduceSub, Int.reduceMul, Int.reduceNeg, Int.reduceLT, Int.reduceLE, Int.reduceEq, h44]
    rfl
  | cons op rest ih =>
    intro pre st S x3 h44 hlen hC hv hle hh hW hx hL
    have hmono := outl_mono (op :: rest) st hv
    have hle2 : (pre ++ op :: rest).length = pre.length + (rest.length + 1) := by rw [List.length_append]; rfl
    have e94 : gI S 94 pre.length = op := hC pre.length op (by rw [List.getElem?_append_right (Nat.le_refl _), Nat.sub_self]; rfl)
    have eA : pre ++ op :: rest = (pre ++ [op]) ++ rest := by simp
    have el : (pre ++ [op]).length = pre.length + 1 := len1 _ _
    have elI : ((pre ++ [op]).length : Int) = (pre.length : Int) + 1 := by rw [el]; omega
    have hv' : if op < 4 then 0 ≤ op ∧ vld rest (st.length + 1) else if op < 6 then 2 ≤ st.length ∧ vld rest (st.length - 1) else 7 ≤ op ∧ op ≤ 15 ∧ 1 ≤ st.length ∧ vld rest st.length := hv
    have hfold : (op :: rest).foldl dst3 st = rest.foldl dst3 (dst3 st op) := rfl
    rw [hfold] at hL hmono ⊢
    by_cases q1 : op < 4
    · rw [if_pos q1] at hv'
      have ed : dst3 st op = (l1 op, 1, [op]) :: st := by unfold dst3; rw [if_pos q1]
      rw [ed] at hL hmono ⊢
      have hm2 := outl_mono rest ((l1 op, 1, [op]) :: st) hv'.2
      have eo : outl ((l1 op, 1, [op]) :: st) = outl st ++ [op] := rfl
      have eol := len1 (outl st) op
      rw [eo, eol] at hm2
      have hhs : hp (sI (sI S 97 st.length (outl st).length) 98 (outl st).length op) ((l1 op, 1, [op]) :: st) := ⟨by rw [gI_sI, if_neg (by omega), gI_sI, if_pos ⟨rfl, rfl⟩, i32_id (by omega) (by omega)], hp_fr st (fun i w1 w2 => by rw [gI_sI, if_neg (by omega), gI_sI, if_neg (by omega)]) hh⟩
      have hW2 : Cont (sI (sI S 97 st.length (outl st).length) 98 (outl st).length op) 98 (outl st ++ [op]) := Cont.snoc (hW.fr (fun i => by rw [gI_sI, if_neg (by omega)])) (by omega)
      obtain ⟨S', a1, a2, a3⟩ := ih (pre ++ [op]) ((l1 op, 1, [op]) :: st) (sI (sI S 97 st.length (outl st).length) 98 (outl st).length op) (some (.int (Int32.ofInt op))) (by rw [← eA]; (repeat (first | rw [gI_sI, if_neg (by omega)] | rw [gI_sF, if_neg (by omega)] | rw [gI_sJ] | rw [gI_sG] | rw [gI_sQ])); exact h44) (by rw [← eA]; exact hlen) (by rw [← eA]; exact hC.fr (fun i => by (repeat (first | rw [gI_sI, if_neg (by omega)] | rw [gI_sF, if_neg (by omega)] | rw [gI_sJ] | rw [gI_sG] | rw [gI_sQ])))) hv'.2 (by rw [el]; exact Nat.succ_le_succ hle) hhs hW2 (fun x hx' => by
        rw [eo] at hx'
        rcases List.mem_append.mp hx' with w | w
        · exact hx x w
        · simp only [List.mem_cons, List.not_mem_nil, or_false] at w; omega) hL
      refine ⟨S', ?_, a2, ((FrH.I (Or.inl rfl)).tr (FrH.I (Or.inr rfl))).tr a3⟩
      rw [elI, show (((l1 op, 1, [op]) :: st).length : Int) = (st.length : Int) + 1 from by rw [List.length_cons]; omega, show ((outl ((l1 op, 1, [op]) :: st)).length : Int) = ((outl st).length : Int) + 1 from by rw [eo, eol]; omega] at a1
      rw [← a1, B217_6]
      simp (disch := first | omega | assumption | exact b01_rng _ | exact st_5 | exact st_12 | exact st_19 | (simp only [isSt_sI, isSt_sJ, isSt_sF, isSt_sG, isSt_sA]; assumption)) only [↓B217_0, ↓B217_14, ↓B217_28, ↓B217_52, ↓B217_59, ↓B217_76, ↓B217_94, ↓B217_95, ↓B217_101, ↓a_94, ↓a_97, ↓a_98, ↓n_94, ↓n_97, ↓n_98, ↓o_72, ↓r_72_43, ↓r_72_44, ↓r_72_48, ↓r_72_49, ↓s_94, ↓s_97, ↓s_98, i_lit, i_add, i_sub, i_mul, i_neg, i_lt, i_le, i_eq, i32_gI, i64_gJ, i32_id, i32_to, i64_to, sI_i32, sJ_i64, b01_t, b01_f, i32_b01, b01_0, ↓a_s0, ↓n_s0, ↓a_s1, ↓n_s1, Int.add_zero, t_lt, f_lt, t_le, f_le, t_eq, f_eq, true_and, and_true, false_and, and_false, and_self, ↓reduceIte, z_bool_of, or_true, true_or, or_false, false_or, Int.neg_neg, not_true_eq_false, not_false_eq_true, lg_lt, lg_le, lg_gt, lg_ge, lg_eq, j_lit, j_add, j_sub, j_mul, j_neg, j_eq, i64_id, ij, ji, z_rt, Nat.reduceEqDiff, Nat.reduceAdd, Int.reduceAdd, Int.reduceSub, Int.reduceMul, Int.reduceNeg, Int.reduceLT, Int.reduceLE, Int.reduceEq, h44, e94]
    · rw [if_neg q1] at hv'
      by_cases q2 : op < 6
      · rw [if_pos q2] at hv'
        cases st with
        | nil => exact absurd hv'.1 (by simp)
        | cons B st =>
          cases st with
          | nil => exact absurd hv'.1 (by simp)
          | cons A r =>
            have ed : ∃ y : T3, dst3 (B :: A :: r) op = y :: r ∧ y.2.2 = A.2.2 ++ B.2.2 ++ [op] := by
              unfold dst3
              rw [if_neg q1]
              simp only []
              by_cases q3 : op = 4
              · rw [if_pos q3, q3]; exact ⟨_, rfl, rfl⟩
              · rw [if_neg q3, if_pos (by omega), show op = 5 by omega]; exact ⟨_, rfl, rfl⟩
            obtain ⟨y, ed, ey⟩ := ed
            rw [ed] at hL hmono ⊢
            have hm2 := outl_mono rest (y :: r) hv'.2
            have eo : outl (y :: r) = outl (B :: A :: r) ++ [op] := by
              show outl r ++ y.2.2 = outl r ++ A.2.2 ++ B.2.2 ++ [op]
              rw [ey]; simp only [List.append_assoc]
            have eol := len1 (outl (B :: A :: r)) op
            rw [eo, eol] at hm2
            obtain ⟨h1, h2, h3⟩ := hh
            have e1 : (B :: A :: r).length = r.length + 2 := rfl
            rw [e1] at hv' hle
            have hhs : hp (sI S 98 (outl (B :: A :: r)).length op) (y :: r) := ⟨by rw [gI_sI, if_neg (by omega)]; exact h2, hp_fr r (fun i w1 w2 => by rw [gI_sI, if_neg (by omega)]) h3⟩
            have hW2 : Cont (sI S 98 (outl (B :: A :: r)).length op) 98 (outl (y :: r)) := by rw [eo]; exact hW.snoc (by omega)
            obtain ⟨S', a1, a2, a3⟩ := ih (pre ++ [op]) (y :: r) (sI S 98 (outl (B :: A :: r)).length op) (some (.int (Int32.ofInt op))) (by rw [← eA]; (repeat (first | rw [gI_sI, if_neg (by omega)] | rw [gI_sF, if_neg (by omega)] | rw [gI_sJ] | rw [gI_sG] | rw [gI_sQ])); exact h44) (by rw [← eA]; exact hlen) (by rw [← eA]; exact hC.fr (fun i => by (repeat (first | rw [gI_sI, if_neg (by omega)] | rw [gI_sF, if_neg (by omega)] | rw [gI_sJ] | rw [gI_sG] | rw [gI_sQ])))) hv'.2 (by rw [el]; show r.length + 1 ≤ _; omega) hhs hW2 (fun x hx' => by
              rw [eo] at hx'
              rcases List.mem_append.mp hx' with w | w
              · exact hx x w
              · simp only [List.mem_cons, List.not_mem_nil, or_false] at w; omega) hL
            refine ⟨S', ?_, a2, (FrH.I (Or.inr rfl)).tr a3⟩
            rw [elI, show ((y :: r).length : Int) = (r.length : Int) + 1 from by rw [List.length_cons]; omega, show ((outl (y :: r)).length : Int) = ((outl (B :: A :: r)).length : Int) + 1 from by rw [eo, eol]; omega] at a1
            rw [← a1, B217_6, show ((B :: A :: r).length : Int) = (r.length : Int) + 2 from by rw [e1]; omega]
            have w2 : (r.length : Int) + 2 + -1 = (r.length : Int) + 1 := by omega
            simp (disch := first | omega | assumption | exact b01_rng _ | exact st_5 | exact st_12 | exact st_19 | (simp only [isSt_sI, isSt_sJ, isSt_sF, isSt_sG, isSt_sA]; assumption)) only [↓B217_0, ↓B217_14, ↓B217_28, ↓B217_52, ↓B217_59, ↓B217_76, ↓B217_94, ↓B217_95, ↓B217_101, ↓a_94, ↓a_97, ↓a_98, ↓n_94, ↓n_97, ↓n_98, ↓o_72, ↓r_72_43, ↓r_72_44, ↓r_72_48, ↓r_72_49, ↓s_94, ↓s_97, ↓s_98, i_lit, i_add, i_sub, i_mul, i_neg, i_lt, i_le, i_eq, i32_gI, i64_gJ, i32_id, i32_to, i64_to, sI_i32, sJ_i64, b01_t, b01_f, i32_b01, b01_0, ↓a_s0, ↓n_s0, ↓a_s1, ↓n_s1, Int.add_zero, t_lt, f_lt, t_le, f_le, t_eq, f_eq, true_and, and_true, false_and, and_false, and_self, ↓reduceIte, z_bool_of, or_true, true_or, or_false, false_or, Int.neg_neg, not_true_eq_false, not_false_eq_true, lg_lt, lg_le, lg_gt, lg_ge, lg_eq, j_lit, j_add, j_sub, j_mul, j_neg, j_eq, i64_id, ij, ji, z_rt, Nat.reduceEqDiff, Nat.reduceAdd, Int.reduceAdd, Int.reduceSub, Int.reduceMul, Int.reduceNeg, Int.reduceLT, Int.reduceLE, Int.reduceEq, h44, e94, w2]
      · rw [if_neg q2] at hv'
        cases st with
        | nil => exact absurd hv'.2.2.1 (by simp)
        | cons B r =>
          have ed : dst3 (B :: r) op = often3 B (op - 6).toNat :: r := by
            unfold dst3
            rw [if_neg q1]
            cases r with
            | nil => simp only []; rw [if_neg q2]
            | cons A r => simp only []; rw [if_neg (by omega), if_neg (by omega)]
          rw [ed] at hL hmono ⊢
          obtain ⟨h1, h2⟩ := hh
          have e1 : (B :: r).length = r.length + 1 := rfl
          rw [e1] at hv' hle
          have hm2 := outl_mono rest (often3 B (op - 6).toNat :: r) hv'.2.2.2
          have eo : outl (often3 B (op - 6).toNat :: r) = outl r ++ fpow B.2.2 ((op - 6).toNat - 1) := rfl
          have eo2 : outl (B :: r) = outl r ++ B.2.2 := rfl
          have hxr : ∀ x ∈ outl r, 0 ≤ x ∧ x ≤ 5 := fun x w => hx x (by rw [eo2]; exact List.mem_append_left _ w)
          have hxB : ∀ x ∈ B.2.2, 0 ≤ x ∧ x ≤ 5 := fun x w => hx x (by rw [eo2]; exact List.mem_append_right _ w)
          rw [eo, List.length_append] at hm2
          obtain ⟨S1, b1, b2, b3⟩ := l218 (X := X) (d := d - 1) (pre := outl r) (f := B.2.2) (oft := (op - 6).toNat) (by omega) hxr hxB (by omega) ((op - 6).toNat - 1) 0 S none (by omega) hW
          have hhs : hp S1 (often3 B (op - 6).toNat :: r) := ⟨by rw [b3.2.1 _ _ (by omega)]; exact h1, hp_fr r (fun i w1 w2 => by rw [b3.2.1 _ _ (by omega)]) h2⟩
          obtain ⟨S', a1, a2, a3⟩ := ih (pre ++ [op]) (often3 B (op - 6).toNat :: r) S1 (some (.int (Int32.ofInt op))) (by rw [← eA, b3.2.1 _ _ (by omega)]; exact h44) (by rw [← eA]; exact hlen) (by rw [← eA]; exact hC.fr (fun i => b3.2.1 _ _ (by omega))) hv'.2.2.2 (by rw [el]; show r.length + 1 ≤ _; omega) hhs b2 (fun x hx' => by
            rw [eo] at hx'
            rcases List.mem_append.mp hx' with w | w
            · exact hxr x w
            · exact fpow_mem hxB _ x w) hL
          refine ⟨S', ?_, a2, b3.h.tr a3⟩
          rw [elI, show ((often3 B (op - 6).toNat :: r).length : Int) = (r.length : Int) + 1 from by rw [List.length_cons]; omega] at a1
          have k218 : ∀ {cm cp : Nat} {L : zL} {s : List Value}, z_evc X d 218 [.ref 72, .int (Int32.ofInt (outl r).length), .int (Int32.ofInt (outl (B :: r)).length), .int (Int32.ofInt (op - 6))] (cm, cp, L, s, mk S) = z_ev X d (cm, cp, L, .int (Int32.ofInt (outl (often3 B (op - 6).toNat :: r)).length) :: s, mk S1) := fun {cm cp L s} => z_evc_of (r := (some (.int (Int32.ofInt (outl (often3 B (op - 6).toNat :: r)).length)), mk S1)) (ck := (cm, cp, L, s, mk S)) (show d - 1 < d by omega) (by
            have e6 : op - 6 = ((op - 6).toNat : Int) := by omega
            rw [eo, ← b1]
            show z_ev X (d - 1) (218, 0, [some (.ref 72), some (.int (Int32.ofInt (outl r).length)), some (.int (Int32.ofInt (outl (B :: r)).length)), some (.int (Int32.ofInt (op - 6))), none, none, none], [], mk S) = _
            rw [B218_0, ← e6]
            rfl)
          rw [← a1, B217_6, show ((B :: r).length : Int) = (r.length : Int) + 1 from by rw [e1]; omega]
          have w1 : (r.length : Int) + 1 - 1 = r.length := by omega
          simp (disch := first | omega | assumption | exact b01_rng _ | exact st_5 | exact st_12 | exact st_19 | (simp only [isSt_sI, isSt_sJ, isSt_sF, isSt_sG, isSt_sA]; assumption)) only [↓B217_0, ↓B217_14, ↓B217_28, ↓B217_52, ↓B217_59, ↓B217_76, ↓B217_94, ↓B217_95, ↓B217_101, ↓a_94, ↓a_97, ↓a_98, ↓n_94, ↓n_97, ↓n_98, ↓o_72, ↓r_72_43, ↓r_72_44, ↓r_72_48, ↓r_72_49, ↓s_94, ↓s_97, ↓s_98, k218, i_lit, i_add, i_sub, i_mul, i_neg, i_lt, i_le, i_eq, i32_gI, i64_gJ, i32_id, i32_to, i64_to, sI_i32, sJ_i64, b01_t, b01_f, i32_b01, b01_0, ↓a_s0, ↓n_s0, ↓a_s1, ↓n_s1, Int.add_zero, t_lt, f_lt, t_le, f_le, t_eq, f_eq, true_and, and_true, false_and, and_false, and_self, ↓reduceIte, z_bool_of, or_true, true_or, or_false, false_or, Int.neg_neg, not_true_eq_false, not_false_eq_true, lg_lt, lg_le, lg_gt, lg_ge, lg_eq, j_lit, j_add, j_sub, j_mul, j_neg, j_eq, i64_id, ij, ji, z_rt, Nat.reduceEqDiff, Nat.reduceAdd, Int.reduceAdd, Int.reduceSub, Int.reduceMul, Int.reduceNeg, Int.reduceLT, Int.reduceLE, Int.reduceEq, h44, e94, w1, h1]
theorem z217 {X : zX} {d : Nat} (hd : 1 < d) {ops : List Int} {x : T3} (h3 : Den3 ops x) {S : zS} (h44 : gI S 72 44 = ops.length) (hlen : ops.length ≤ 850) (hC : Cont S 94 ops) (hx : x.2.2.length ≤ 399) : ∃ S' : zS, z_ev X d (z_entry 217 [.ref 72] (mk S)) = some (some (.int (Int32.ofInt x.2.2.length)), mk S') ∧ Cont S' 98 x.2.2 ∧ FrH S S' := by
  have hf := h3.1 []
  have hv := h3.2 0 [] trivial
  rw [List.append_nil] at hv
  have eo : outl [x] = x.2.2 := rfl
  obtain ⟨S', a1, a2, a3⟩ := l217 (X := X) (d := d) hd ops [] [] S none (by rw [List.nil_append]; exact h44) (by rw [List.nil_append]; exact hlen) (by rw [List.nil_append]; exact hC) hv (Nat.le_refl _) trivial (fun j y q => by simp [outl] at q) (fun y hy => by simp [outl] at hy) (by rw [hf, eo]; exact hx)
  rw [hf, eo] at a1 a2
  refine ⟨S', ?_, a2, a3⟩
  rw [← a1]
  show z_ev X d (217, 0, [some (.ref 72), none, none, none, none], [], mk S) = _
  rw [B217_0]
  rfl
