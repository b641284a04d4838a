/-! the reference's pile of signs and its code -/
/-- words, by their numbers; one that there is not becomes (13, 1) -/
def dW (ord op ar : Int) : Int × Int := if ord = 0 then (if 1 ≤ op ∧ op ≤ 8 then (1, op - 1) else (13, 1)) else if 1 ≤ op ∧ op < 5 then (1, op - 1) else if op = 5 ∧ 0 ≤ ar ∧ ar ≤ 19 then (1, 4 + ar) else if op = 6 ∧ 0 ≤ ar ∧ ar ≤ 5 then (1, 24 + ar) else (13, 1)
def dM (ord op ar : Int) : Int × Int := if op = 0 then (0, ar) else if op < 20 then dW ord op ar else if op < 28 then (op - 18, 0) else if op = 28 then (10, 0) else if op = 29 then (12, ar) else (11, ar)
def IM (ord : Int) (S : zS) : Ins := fun k => dM ord (gI S 83 k) (gI S 84 k)
def bnd (op : Int) : Int := if 31 ≤ op then 0 else if op = 30 then 1 else if op = 29 then 2 else if op = 28 then 3 else if 25 ≤ op then 4 else if 22 ≤ op then 6 else 5
theorem e184 {X : zX} {d : Nat} (hd : 0 ≤ d) {S : zS} (op : Int) (h : 20 ≤ op ∧ op ≤ 32) : z_ev X d (z_entry 184 [.int (Int32.ofInt op)] (mk S)) = some (some (.int (Int32.ofInt (bnd op))), mk S) := by
  show z_ev X d (184, 0, [some (.int (Int32.ofInt op))], [], mk S) = _
  unfold bnd
  rcases (show op = 20 ∨ op = 21 ∨ op = 22 ∨ op = 23 ∨ op = 24 ∨ op = 25 ∨ op = 26 ∨ op = 27 ∨ op = 28 ∨ op = 29 ∨ op = 30 ∨ op = 31 ∨ op = 32 by omega) with rfl | rfl | rfl | rfl | rfl | rfl | rfl | rfl | rfl | rfl | rfl | rfl | rfl <;> simp (disch := first | omega | assumption | exact b01_rng _ | exact st_5 | exact st_12 | exact st_19 | (simp only [isSt_sI, isSt_sJ, isSt_sF, isSt_sG, isSt_sA]; assumption)) only [↓B184_0, ↓B184_6, ↓B184_10, ↓B184_16, ↓B184_20, ↓B184_26, ↓B184_30, ↓B184_36, ↓B184_40, ↓B184_46, ↓B184_50, ↓B184_56, ↓B184_61, ↓B184_62, i_lit, i_add, i_sub, i_mul, i_neg, i_lt, i_le, i_eq, i32_gI, i64_gJ, i32_id, i32_to, i64_to, sI_i32, sJ_i64, b01_t, b01_f, i32_b01, b01_0, ↓a_s0, ↓n_s0, ↓a_s1, ↓n_s1, Int.add_zero, t_lt, f_lt, t_le, f_le, t_eq, f_eq, true_and, and_true, false_and, and_false, and_self, ↓reduceIte, z_bool_of, or_true, true_or, or_false, false_or, Int.neg_neg, not_true_eq_false, not_false_eq_true, lg_lt, lg_le, lg_gt, lg_ge, lg_eq, j_lit, j_add, j_sub, j_mul, j_neg, j_eq, i64_id, ij, ji, z_rt, Nat.reduceEqDiff, Nat.reduceAdd, Int.reduceAdd, Int.reduceSub, Int.reduceMul, Int.reduceNeg, Int.reduceLT, Int.reduceLE, Int.reduceEq]
theorem c184 {X : zX} {d : Nat} (hd : 0 < d) {S : zS} (op : Int) (h : 20 ≤ op ∧ op ≤ 32) {cm cp : Nat} {L : zL} {st : List Value} : z_evc X d 184 [.int (Int32.ofInt op)] (cm, cp, L, st, mk S) = z_ev X d (cm, cp, L, .int (Int32.ofInt (bnd op)) :: st, mk S) := z_evc_of (r := (some (.int (Int32.ofInt (bnd op))), mk S)) (ck := (cm, cp, L, st, mk S)) hd (e184 (X := X) (Nat.le_refl _) op h)
theorem bnd_rng (op : Int) : 0 ≤ bnd op ∧ bnd op ≤ 6 := by unfold bnd; repeat (first | omega | split)
abbrev En : Type := Int × Int
def upI (I : Ins) (k : Int) (v : Int × Int) : Ins := fun i => if i = k then v else I i
/-- one entry is settled -/
def st1 (ord : Int) (x : Ins × Int) (y : En) : Ins × Int := if y.1 = 29 ∨ y.1 = 30 then (upI x.1 y.2 (dM ord y.1 x.2), x.2) else (upI x.1 x.2 (dM ord y.1 0), x.2 + 1)
def stl (ord : Int) (Q : List En) (x : Ins × Int) : Ins × Int := Q.foldl (st1 ord) x
def emi (Q : List En) : Nat := (Q.filter (fun y => decide (y.1 < 29))).length
theorem emi_cons (y : En) (Q : List En) : emi (y :: Q) = (if y.1 < 29 then 1 else 0) + emi Q := by
  unfold emi
  rw [List.filter_cons]
  by_cases q : y.1 < 29
  · rw [if_pos (by simp only [decide_eq_true_eq]; exact q), if_pos q, List.length_cons]; omega
  · rw [if_neg (by simp only [decide_eq_true_eq]; exact q), if_neg q, Nat.zero_add]
theorem emi_app (P Q : List En) : emi (P ++ Q) = emi P + emi Q := by unfold emi; rw [List.filter_append, List.length_append]
/-- the pile: the top first -/
def pl (S : zS) (k : Int) : List En → Prop
  | [] => True
  | y :: r => gI S 85 r.length = y.1 ∧ gI S 86 r.length = y.2 ∧ (20 ≤ y.1 ∧ y.1 ≤ 32) ∧ (y.1 = 29 ∨ y.1 = 30 → gI S 83 y.2 = y.1 ∧ 0 ≤ y.2 ∧ y.2 < k) ∧ pl S k r
theorem pl.fr {S S' : zS} {k k' : Int} : ∀ {P : List En}, pl S k P → k ≤ k' → (∀ i : Int, 0 ≤ i → i < P.length → gI S' 85 i = gI S 85 i ∧ gI S' 86 i = gI S 86 i) → (∀ i, 0 ≤ i → i < k → gI S' 83 i = gI S 83 i) → pl S' k' P := by
  intro P
  induction P with
  | nil => intro _ _ _ _; trivial
  | cons y r ih =>
    intro h hk h1 h2
    obtain ⟨a1, a2, a3, a4, a5⟩ := h
    have e : (y :: r).length = r.length + 1 := rfl
    have w := h1 r.length (by omega) (by omega)
    refine ⟨by rw [w.1]; exact a1, by rw [w.2]; exact a2, a3, fun q => ?_, ih a5 hk (fun i q1 q2 => h1 i q1 (by omega)) h2⟩
    obtain ⟨b1, b2, b3⟩ := a4 q
    exact ⟨by rw [h2 _ b2 b3]; exact b1, b2, by omega⟩
theorem pl.app {S : zS} {k : Int} : ∀ {Q R : List En}, pl S k (Q ++ R) → pl S k R := by
  intro Q
  induction Q with
  | nil => intro R h; exact h
  | cons y r ih => intro R h; exact ih h.2.2.2.2
/-- frames of an expression's reading -/
def FrE (S S' : zS) : Prop := Dyn S S' ∧ (∀ a i, ¬ (a = 72 ∧ ((14 ≤ i ∧ i ≤ 16) ∨ i = 18 ∨ i = 19 ∨ i = 23 ∨ i = 26 ∨ i = 29 ∨ i = 30)) → ¬ (83 ≤ a ∧ a ≤ 86) → gI S' a i = gI S a i) ∧ (∀ a i, ¬ (a = 72 ∧ i = 17) → gJ S' a i = gJ S a i) ∧ (∀ a i, gQ S' a i = gQ S a i)
theorem FrE.rf {S : zS} : FrE S S := ⟨Dyn.rf, fun _ _ _ _ => rfl, fun _ _ _ => rfl, fun _ _ => rfl⟩
theorem FrE.tr {A B C : zS} (h1 : FrE A B) (h2 : FrE B C) : FrE A C := ⟨h1.1.tr h2.1, fun a i q1 q2 => (h2.2.1 a i q1 q2).trans (h1.2.1 a i q1 q2), fun a i q => (h2.2.2.1 a i q).trans (h1.2.2.1 a i q), fun a i => (h2.2.2.2 a i).trans (h1.2.2.2 a i)⟩
theorem FrE.I {S : zS} {a : Nat} {i x : Int} (h : (a = 72 ∧ (i = 18 ∨ i = 19 ∨ i = 23 ∨ i = 26 ∨ i = 29 ∨ i = 30)) ∨ (83 ≤ a ∧ a ≤ 86)) : FrE S (sI S a i x) := ⟨Dyn.sI (by omega) Dyn.rf, fun b j q1 q2 => by rw [gI_sI, if_neg (by omega)], fun _ _ _ => rfl, fun _ _ => rfl⟩
theorem FrN.e {A B : zS} (h : FrN A B) : FrE A B := ⟨h.1, fun a i q1 _ => h.2.1 a i (by omega), h.2.2.1, h.2.2.2⟩
/-- settling alone -/
def FrS (S S' : zS) : Prop := Dyn S S' ∧ (∀ a i, ¬ (a = 72 ∧ (i = 23 ∨ i = 29)) → a ≠ 83 → a ≠ 84 → gI S' a i = gI S a i) ∧ (∀ a i, gJ S' a i = gJ S a i) ∧ (∀ a i, gQ S' a i = gQ S a i)
theorem FrS.rf {S : zS} : FrS S S := ⟨Dyn.rf, fun _ _ _ _ _ => rfl, fun _ _ => rfl, fun _ _ => rfl⟩
theorem FrS.tr {A B C : zS} (h1 : FrS A B) (h2 : FrS B C) : FrS A C := ⟨h1.1.tr h2.1, fun a i q1 q2 q3 => (h2.2.1 a i q1 q2 q3).trans (h1.2.1 a i q1 q2 q3), fun a i => (h2.2.2.1 a i).trans (h1.2.2.1 a i), fun a i => (h2.2.2.2 a i).trans (h1.2.2.2 a i)⟩
theorem FrS.I {S : zS} {a : Nat} {i x : Int} (h : (a = 72 ∧ (i = 23 ∨ i = 29)) ∨ a = 83 ∨ a = 84) : FrS S (sI S a i x) := ⟨Dyn.sI (by omega) Dyn.rf, fun b j q1 q2 q3 => by rw [gI_sI, if_neg (by omega)], fun _ _ => rfl, fun _ _ => rfl⟩
theorem FrS.e {A B : zS} (h : FrS A B) : FrE A B := ⟨h.1, fun a i q1 q2 => h.2.1 a i (by omega) (by omega) (by omega), fun a i _ => h.2.2.1 a i, h.2.2.2⟩
def emS (S : zS) (op ar : Int) : zS := sI (sI (sI S 83 (gI S 72 23) op) 84 (gI S 72 23) ar) 72 23 (gI S 72 23 + 1)
theorem e182 {X : zX} {d : Nat} (hd : 0 ≤ d) {S : zS} (op ar : Int) (h : 0 ≤ gI S 72 23 ∧ gI S 72 23 < 400) (h1 : r32 op) (h2 : r32 ar) : z_ev X d (z_entry 182 [.ref 72, .int (Int32.ofInt op), .int (Int32.ofInt ar)] (mk S)) = some (none, mk (emS S op ar)) := by
  show z_ev X d (182, 0, [some (.ref 72), some (.int (Int32.ofInt op)), some (.int (Int32.ofInt ar))], [], mk S) = _
  simp (disch := first | omega | assumption | exact b01_rng _ | exact st_5 | exact st_12 | exact st_19 | (simp only [isSt_sI, isSt_sJ, isSt_sF, isSt_sG, isSt_sA]; assumption)) only [↓B182_0, ↓a_83, ↓a_84, ↓n_83, ↓n_84, ↓r_72_23, ↓r_72_24, ↓r_72_25, ↓s_83, ↓s_84, ↓w_72_23, i_lit, i_add, i_sub, i_mul, i_neg, i_lt, i_le, i_eq, i32_gI, i64_gJ, i32_id, i32_to, i64_to, sI_i32, sJ_i64, b01_t, b01_f, i32_b01, b01_0, ↓a_s0, ↓n_s0, ↓a_s1, ↓n_s1, Int.add_zero, t_lt, f_lt, t_le, f_le, t_eq, f_eq, true_and, and_true, false_and, and_false, and_self, ↓reduceIte, z_bool_of, or_true, true_or, or_false, false_or, Int.neg_neg, not_true_eq_false, not_false_eq_true, lg_lt, lg_le, lg_gt, lg_ge, lg_eq, j_lit, j_add, j_sub, j_mul, j_neg, j_eq, i64_id, ij, ji, z_rt, Nat.reduceEqDiff, Nat.reduceAdd, Int.reduceAdd, Int.reduceSub, Int.reduceMul, Int.reduceNeg, Int.reduceLT, Int.reduceLE, Int.reduceEq, gI_sI, gI_sJ, gI_sF, gI_sG, gI_sQ, gI_sA, gJ_sI, gJ_sJ, gJ_sF, gJ_sG, gJ_sQ, gJ_sA, gQ_sI, gQ_sJ, gQ_sF, gQ_sG, gQ_sQ, gQ_sA, gH_sI, gH_sJ, gH_sF, gH_sG, gH_sQ, gH_sA, gN_sI, gN_sJ, gN_sF, gN_sG, gN_sQ, gN_sA, gW_sI, gW_sJ, gW_sF, gW_sG, gW_sQ, gW_sA, emS]
theorem c182 {X : zX} {d : Nat} (hd : 0 < d) {S : zS} (op ar : Int) (h : 0 ≤ gI S 72 23 ∧ gI S 72 23 < 400) (h1 : r32 op) (h2 : r32 ar) {cm cp : Nat} {L : zL} {st : List Value} : z_evc X d 182 [.ref 72, .int (Int32.ofInt op), .int (Int32.ofInt ar)] (cm, cp, L, st, mk S) = z_ev X d (cm, cp, L, st, mk (emS S op ar)) := z_evc_of (r := (none, mk (emS S op ar))) (ck := (cm, cp, L, st, mk S)) hd (e182 (X := X) (Nat.le_refl _) op ar h h1 h2)
def puS (S : zS) (op ar : Int) : zS := sI (sI (sI S 85 (gI S 72 29) op) 86 (gI S 72 29) ar) 72 29 (gI S 72 29 + 1)
theorem e183 {X : zX} {d : Nat} (hd : 0 ≤ d) {S : zS} (op ar : Int) (h : 0 ≤ gI S 72 29 ∧ gI S 72 29 < 400) (h1 : r32 op) (h2 : r32 ar) : z_ev X d (z_entry 183 [.ref 72, .int (Int32.ofInt op), .int (Int32.ofInt ar)] (mk S)) = some (none, mk (puS S op ar)) := by
  show z_ev X d (183, 0, [some (.ref 72), some (.int (Int32.ofInt op)), some (.int (Int32.ofInt ar))], [], mk S) = _
  simp (disch := first | omega | assumption | exact b01_rng _ | exact st_5 | exact st_12 | exact st_19 | (simp only [isSt_sI, isSt_sJ, isSt_sF, isSt_sG, isSt_sA]; assumption)) only [↓B183_0, ↓a_85, ↓a_86, ↓n_85, ↓n_86, ↓r_72_27, ↓r_72_28, ↓r_72_29, ↓s_85, ↓s_86, ↓w_72_29, i_lit, i_add, i_sub, i_mul, i_neg, i_lt, i_le, i_eq, i32_gI, i64_gJ, i32_id, i32_to, i64_to, sI_i32, sJ_i64, b01_t, b01_f, i32_b01, b01_0, ↓a_s0, ↓n_s0, ↓a_s1, ↓n_s1, Int.add_zero, t_lt, f_lt, t_le, f_le, t_eq, f_eq, true_and, and_true, false_and, and_false, and_self, ↓reduceIte, z_bool_of, or_true, true_or, or_false, false_or, Int.neg_neg, not_true_eq_false, not_false_eq_true, lg_lt, lg_le, lg_gt, lg_ge, lg_eq, j_lit, j_add, j_sub, j_mul, j_neg, j_eq, i64_id, ij, ji, z_rt, Nat.reduceEqDiff, Nat.reduceAdd, Int.reduceAdd, Int.reduceSub, Int.reduceMul, Int.reduceNeg, Int.reduceLT, Int.reduceLE, Int.reduceEq, gI_sI, gI_sJ, gI_sF, gI_sG, gI_sQ, gI_sA, gJ_sI, gJ_sJ, gJ_sF, gJ_sG, gJ_sQ, gJ_sA, gQ_sI, gQ_sJ, gQ_sF, gQ_sG, gQ_sQ, gQ_sA, gH_sI, gH_sJ, gH_sF, gH_sG, gH_sQ, gH_sA, gN_sI, gN_sJ, gN_sF, gN_sG, gN_sQ, gN_sA, gW_sI, gW_sJ, gW_sF, gW_sG, gW_sQ, gW_sA, puS]
theorem c183 {X : zX} {d : Nat} (hd : 0 < d) {S : zS} (op ar : Int) (h : 0 ≤ gI S 72 29 ∧ gI S 72 29 < 400) (h1 : r32 op) (h2 : r32 ar) {cm cp : Nat} {L : zL} {st : List Value} : z_evc X d 183 [.ref 72, .int (Int32.ofInt op), .int (Int32.ofInt ar)] (cm, cp, L, st, mk S) = z_ev X d (cm, cp, L, st, mk (puS S op ar)) := z_evc_of (r := (none, mk (puS S op ar))) (ck := (cm, cp, L, st, mk S)) hd (e183 (X := X) (Nat.le_refl _) op ar h h1 h2)
theorem FrE.em {S : zS} {op ar : Int} : FrE S (emS S op ar) := ((FrE.I (by omega)).tr (FrE.I (by omega))).tr (FrE.I (by omega))
theorem FrE.pu {S : zS} {op ar : Int} : FrE S (puS S op ar) := ((FrE.I (by omega)).tr (FrE.I (by omega))).tr (FrE.I (by omega))
theorem emS_I {S : zS} {ord op ar : Int} (h1 : r32 op) (h2 : r32 ar) : IM ord (emS S op ar) = upI (IM ord S) (gI S 72 23) (dM ord op ar) := by
  funext i
  unfold IM upI emS
  by_cases q : i = gI S 72 23
  · rw [if_pos q, gI_sI, if_neg (by omega), gI_sI, if_neg (by omega), gI_sI, if_pos ⟨rfl, q⟩, gI_sI, if_neg (by omega), gI_sI, if_pos ⟨rfl, q⟩, i32_id (by omega) (by omega), i32_id (by omega) (by omega)]
  · rw [if_neg q, gI_sI, if_neg (by omega), gI_sI, if_neg (by omega), gI_sI, if_neg (by omega), gI_sI, if_neg (by omega), gI_sI, if_neg (by omega), gI_sI, if_neg (by omega)]
/-- settle -/
theorem l185 {X : zX} {d : Nat} (hd : 1 ≤ d) {ord least : Int} (hl : 1 ≤ least ∧ least ≤ 6) : ∀ (Q R : List En) (S : zS) (k : Int), gI S 72 29 = (Q ++ R).length → (Q ++ R).length ≤ 400 → pl S k (Q ++ R) → gI S 72 23 = k → 0 ≤ k → k + emi Q ≤ 400 → (∀ y ∈ Q, least ≤ bnd y.1) → (∀ y r, R = y :: r → bnd y.1 < least) → ∃ S' : zS, z_ev X d (185, 0, [some (.ref 72), some (.int (Int32.ofInt least))], [], mk S) = some (none, mk S') ∧ gI S' 72 29 = R.length ∧ pl S' (stl ord Q (IM ord S, k)).2 R ∧ gI S' 72 23 = (stl ord Q (IM ord S, k)).2 ∧ IM ord S' = (stl ord Q (IM ord S, k)).1 ∧ FrS S S' ∧ (stl ord Q (IM ord S, k)).2 = k + emi Q := by
  intro Q
  induction Q with
  | nil =>
    intro R S k h1 h2 h3 h4 h5 h6 h7 h8
    rw [List.nil_append] at h1 h2 h3
    refine ⟨S, ?_, h1, h3, h4, rfl, FrS.rf, by show k = k + 0; omega⟩
    cases R with
    | nil =>
      have e1 : gI S 72 29 = 0 := by rw [h1]; rfl
      simp (disch := first | omega | assumption | exact b01_rng _ | exact st_5 | exact st_12 | exact st_19 | (simp only [isSt_sI, isSt_sJ, isSt_sF, isSt_sG, isSt_sA]; assumption)) only [↓B185_0, ↓B185_7, ↓B185_21, ↓B185_25, ↓B185_49, ↓B185_63, ↓B185_84, ↓B185_98, ↓B185_101, ↓a_84, ↓a_85, ↓a_86, ↓n_84, ↓n_85, ↓n_86, ↓o_72, ↓r_72_23, ↓r_72_25, ↓r_72_27, ↓r_72_28, ↓r_72_29, ↓s_84, ↓s_85, ↓s_86, ↓w_72_29, i_lit, i_add, i_sub, i_mul, i_neg, i_lt, i_le, i_eq, i32_gI, i64_gJ, i32_id, i32_to, i64_to, sI_i32, sJ_i64, b01_t, b01_f, i32_b01, b01_0, ↓a_s0, ↓n_s0, ↓a_s1, ↓n_s1, Int.add_zero, t_lt, f_lt, t_le, f_le, t_eq, f_eq, true_and, and_true, false_and, and_false, and_self, ↓reduceIte, z_bool_of, or_true, true_or, or_false, false_or, Int.neg_neg, not_true_eq_false, not_false_eq_true, lg_lt, lg_le, lg_gt, lg_ge, lg_eq, j_lit, j_add, j_sub, j_mul, j_neg, j_eq, i64_id, ij, ji, z_rt, Nat.reduceEqDiff, Nat.reduceAdd, Int.reduceAdd, Int.reduceSub, Int.reduceMul, Int.reduceNeg, Int.reduceLT, Int.reduceLE, Int.reduceEq, e1]
    | cons y r =>
      have e1 : gI S 72 29 = r.length + 1 := by rw [h1, List.length_cons]; omega
      have hb := h8 y r rfl
      have hr := bnd_rng y.1
      obtain ⟨p1, p2, p3, -⟩ := h3
      have e2 : (r.length : Int) + 1 - 1 = r.length := by omega
      rw [List.length_cons] at h2
      simp (disch := first | omega | assumption | exact b01_rng _ | exact st_5 | exact st_12 | exact st_19 | (simp only [isSt_sI, isSt_sJ, isSt_sF, isSt_sG, isSt_sA]; assumption)) only [↓B185_0, ↓B185_7, ↓B185_21, ↓B185_25, ↓B185_49, ↓B185_63, ↓B185_84, ↓B185_98, ↓B185_101, ↓a_84, ↓a_85, ↓a_86, ↓n_84, ↓n_85, ↓n_86, ↓o_72, ↓r_72_23, ↓r_72_25, ↓r_72_27, ↓r_72_28, ↓r_72_29, ↓s_84, ↓s_85, ↓s_86, ↓w_72_29, c184, i_lit, i_add, i_sub, i_mul, i_neg, i_lt, i_le, i_eq, i32_gI, i64_gJ, i32_id, i32_to, i64_to, sI_i32, sJ_i64, b01_t, b01_f, i32_b01, b01_0, ↓a_s0, ↓n_s0, ↓a_s1, ↓n_s1, Int.add_zero, t_lt, f_lt, t_le, f_le, t_eq, f_eq, true_and, and_true, false_and, and_false, and_self, ↓reduceIte, z_bool_of, or_true, true_or, or_false, false_or, Int.neg_neg, not_true_eq_false, not_false_eq_true, lg_lt, lg_le, lg_gt, lg_ge, lg_eq, j_lit, j_add, j_sub, j_mul, j_neg, j_eq, i64_id, ij, ji, z_rt, Nat.reduceEqDiff, Nat.reduceAdd, Int.reduceAdd, Int.reduceSub, Int.reduceMul, Int.reduceNeg, Int.reduceLT, Int.reduceLE, Int.reduceEq, e1, e2, p1]
  | cons y Q ih =>
    intro R S k h1 h2 h3 h4 h5 h6 h7 h8
    have el : (y :: Q ++ R).length = (Q ++ R).length + 1 := rfl
    rw [el] at h1 h2
    have h3' : pl S k (y :: (Q ++ R)) := h3
    obtain ⟨p1, p2, p3, p4, p5⟩ := h3'
    have hb := h7 y List.mem_cons_self
    have hr := bnd_rng y.1
    have hec := emi_cons y Q
    have e2 : ((Q ++ R).length : Int) + 1 - 1 = (Q ++ R).length := by omega
    have e1 : gI S 72 29 = ((Q ++ R).length : Int) + 1 := by rw [h1]; omega
    obtain ⟨N, hN⟩ : ∃ N : Nat, (Q ++ R).length = N := ⟨_, rfl⟩
    rw [hN] at h2 e1 e2 p1 p2
    have hest : stl ord (y :: Q) (IM ord S, k) = stl ord Q (st1 ord (IM ord S, k) y) := rfl
    rw [hest]
    have e3 : gI (sI S 72 29 N) 72 29 = N := by rw [gI_sI, if_pos ⟨rfl, rfl⟩, i32_id (by omega) (by omega)]
    by_cases q : y.1 = 29 ∨ y.1 = 30
    · obtain ⟨w1, w2, w3⟩ := p4 q
      have es : st1 ord (IM ord S, k) y = (upI (IM ord S) y.2 (dM ord y.1 k), k) := by unfold st1; rw [if_pos q]
      have hS : IM ord (sI (sI S 72 29 N) 84 y.2 k) = upI (IM ord S) y.2 (dM ord y.1 k) := by
        funext i; unfold IM upI
        by_cases e : i = y.2
        · rw [if_pos e, gI_sI, if_neg (by omega), gI_sI, if_neg (by omega), gI_sI, if_pos ⟨rfl, e⟩, i32_id (by omega) (by omega), e, w1]
        · rw [if_neg e, gI_sI, if_neg (by omega), gI_sI, if_neg (by omega), gI_sI, if_neg (by omega), gI_sI, if_neg (by omega)]
      rw [if_neg (by omega), Nat.zero_add] at hec
      have := ih R (sI (sI S 72 29 N) 84 y.2 k) k (by rw [hN]; (repeat (first | rw [gI_sI, if_neg (by omega)] | rw [gI_sF, if_neg (by omega)] | rw [gI_sJ] | rw [gI_sG] | rw [gI_sQ])); exact e3) (by rw [hN]; omega) (p5.fr (Int.le_refl _) (fun i _ _ => ⟨by (repeat (first | rw [gI_sI, if_neg (by omega)] | rw [gI_sF, if_neg (by omega)] | rw [gI_sJ] | rw [gI_sG] | rw [gI_sQ])), by (repeat (first | rw [gI_sI, if_neg (by omega)] | rw [gI_sF, if_neg (by omega)] | rw [gI_sJ] | rw [gI_sG] | rw [gI_sQ]))⟩) (fun i _ _ => by (repeat (first | rw [gI_sI, if_neg (by omega)] | rw [gI_sF, if_neg (by omega)] | rw [gI_sJ] | rw [gI_sG] | rw [gI_sQ])))) (by (repeat (first | rw [gI_sI, if_neg (by omega)] | rw [gI_sF, if_neg (by omega)] | rw [gI_sJ] | rw [gI_sG] | rw [gI_sQ])); exact h4) h5 (by omega) (fun z hz => h7 z (List.mem_cons_of_mem _ hz)) h8
      rw [hS] at this
      rw [es]
      obtain ⟨S', b1, b2, b3, b4, b5, b6, b7⟩ := this
      refine ⟨S', ?_, b2, b3, b4, b5, ((FrS.I (by omega)).tr (FrS.I (by omega))).tr b6, by rw [b7]; omega⟩
      rw [← b1, B185_0]
      have e85 : gI (sI S 72 29 N) 85 N = y.1 := by (repeat (first | rw [gI_sI, if_neg (by omega)] | rw [gI_sF, if_neg (by omega)] | rw [gI_sJ] | rw [gI_sG] | rw [gI_sQ])); exact p1
      have e86 : gI (sI S 72 29 N) 86 N = y.2 := by (repeat (first | rw [gI_sI, if_neg (by omega)] | rw [gI_sF, if_neg (by omega)] | rw [gI_sJ] | rw [gI_sG] | rw [gI_sQ])); exact p2
      have e23 : gI (sI S 72 29 N) 72 23 = k := by (repeat (first | rw [gI_sI, if_neg (by omega)] | rw [gI_sF, if_neg (by omega)] | rw [gI_sJ] | rw [gI_sG] | rw [gI_sQ])); exact h4
      by_cases q2 : y.1 = 29
      · simp (disch := first | omega | assumption | exact b01_rng _ | exact st_5 | exact st_12 | exact st_19 | (simp only [isSt_sI, isSt_sJ, isSt_sF, isSt_sG, isSt_sA]; assumption)) only [↓B185_7, ↓B185_21, ↓B185_25, ↓B185_49, ↓B185_63, ↓B185_84, ↓B185_98, ↓B185_101, ↓a_84, ↓a_85, ↓a_86, ↓n_84, ↓n_85, ↓n_86, ↓o_72, ↓r_72_23, ↓r_72_25, ↓r_72_27, ↓r_72_28, ↓r_72_29, ↓s_84, ↓s_85, ↓s_86, ↓w_72_29, c184, i_lit, i_add, i_sub, i_mul, i_neg, i_lt, i_le, i_eq, i32_gI, i64_gJ, i32_id, i32_to, i64_to, sI_i32, sJ_i64, b01_t, b01_f, i32_b01, b01_0, ↓a_s0, ↓n_s0, ↓a_s1, ↓n_s1, Int.add_zero, t_lt, f_lt, t_le, f_le, t_eq, f_eq, true_and, and_true, false_and, and_false, and_self, ↓reduceIte, z_bool_of, or_true, true_or, or_false, false_or, Int.neg_neg, not_true_eq_false, not_false_eq_true, lg_lt, lg_le, lg_gt, lg_ge, lg_eq, j_lit, j_add, j_sub, j_mul, j_neg, j_eq, i64_id, ij, ji, z_rt, Nat.reduceEqDiff, Nat.reduceAdd, Int.reduceAdd, Int.reduceSub, Int.reduceMul, Int.reduceNeg, Int.reduceLT, Int.reduceLE, Int.reduceEq, e1, e2, p1, e3, e85, e86, e23]
      · simp (disch := first | omega | assumption | exact b01_rng _ | exact st_5 | exact st_12 | exact st_19 | (simp only [isSt_sI, isSt_sJ, isSt_sF, isSt_sG, isSt_sA]; assumption)) only [↓B185_7, ↓B185_21, ↓B185_25, ↓B185_49, ↓B185_63, ↓B185_84, ↓B185_98, ↓B185_101, ↓a_84, ↓a_85, ↓a_86, ↓n_84, ↓n_85, ↓n_86, ↓o_72, ↓r_72_23, ↓r_72_25, ↓r_72_27, ↓r_72_28, ↓r_72_29, ↓s_84, ↓s_85, ↓s_86, ↓w_72_29, c184, i_lit, i_add, i_sub, i_mul, i_neg, i_lt, i_le, i_eq, i32_gI, i64_gJ, i32_id, i32_to, i64_to, sI_i32, sJ_i64, b01_t, b01_f, i32_b01, b01_0, ↓a_s0, ↓n_s0, ↓a_s1, ↓n_s1, Int.add_zero, t_lt, f_lt, t_le, f_le, t_eq, f_eq, true_and, and_true, false_and, and_false, and_self, ↓reduceIte, z_bool_of, or_true, true_or, or_false, false_or, Int.neg_neg, not_true_eq_false, not_false_eq_true, lg_lt, lg_le, lg_gt, lg_ge, lg_eq, j_lit, j_add, j_sub, j_mul, j_neg, j_eq, i64_id, ij, ji, z_rt, Nat.reduceEqDiff, Nat.reduceAdd, Int.reduceAdd, Int.reduceSub, Int.reduceMul, Int.reduceNeg, Int.reduceLT, Int.reduceLE, Int.reduceEq, e1, e2, p1, e3, e85, e86, e23, q2]
    · have es : st1 ord (IM ord S, k) y = (upI (IM ord S) k (dM ord y.1 0), k + 1) := by unfold st1; rw [if_neg q]
      have hlt : y.1 < 29 := by
        have : least ≤ bnd y.1 := hb
        unfold bnd at this
        apply Classical.byContradiction; intro w
        rw [if_pos (by omega)] at this
        omega
      rw [if_pos hlt] at hec
      have e23 : gI (sI S 72 29 N) 72 23 = k := by (repeat (first | rw [gI_sI, if_neg (by omega)] | rw [gI_sF, if_neg (by omega)] | rw [gI_sJ] | rw [gI_sG] | rw [gI_sQ])); exact h4
      have hS : IM ord (emS (sI S 72 29 N) y.1 0) = upI (IM ord S) k (dM ord y.1 0) := by
        rw [emS_I (by omega) (by omega), e23]
        have : IM ord (sI S 72 29 N) = IM ord S := by funext i; unfold IM; rw [show gI (sI S 72 29 N) 83 i = gI S 83 i from by (repeat (first | rw [gI_sI, if_neg (by omega)] | rw [gI_sF, if_neg (by omega)] | rw [gI_sJ] | rw [gI_sG] | rw [gI_sQ])), show gI (sI S 72 29 N) 84 i = gI S 84 i from by (repeat (first | rw [gI_sI, if_neg (by omega)] | rw [gI_sF, if_neg (by omega)] | rw [gI_sJ] | rw [gI_sG] | rw [gI_sQ]))]
        rw [this]
      have em85 : ∀ a i, a ≠ 83 → a ≠ 84 → ¬ (a = 72 ∧ i = 23) → gI (emS (sI S 72 29 N) y.1 0) a i = gI (sI S 72 29 N) a i := fun a i w1 w2 w3 => by unfold emS; (repeat (first | rw [gI_sI, if_neg (by omega)] | rw [gI_sF, if_neg (by omega)] | rw [gI_sJ] | rw [gI_sG] | rw [gI_sQ]))
      have em83 : ∀ i, i < k → gI (emS (sI S 72 29 N) y.1 0) 83 i = gI S 83 i := fun i w => by unfold emS; rw [e23]; (repeat (first | rw [gI_sI, if_neg (by omega)] | rw [gI_sF, if_neg (by omega)] | rw [gI_sJ] | rw [gI_sG] | rw [gI_sQ]))
      have em23 : gI (emS (sI S 72 29 N) y.1 0) 72 23 = k + 1 := by unfold emS; rw [e23, gI_sI, if_pos ⟨rfl, rfl⟩, i32_id (by omega) (by omega)]
      have := ih R (emS (sI S 72 29 N) y.1 0) (k + 1) (by rw [hN, em85 _ _ (by omega) (by omega) (by omega)]; exact e3) (by rw [hN]; omega) (p5.fr (by omega) (fun i _ _ => ⟨by rw [em85 _ _ (by omega) (by omega) (by omega)]; (repeat (first | rw [gI_sI, if_neg (by omega)] | rw [gI_sF, if_neg (by omega)] | rw [gI_sJ] | rw [gI_sG] | rw [gI_sQ])), by rw [em85 _ _ (by omega) (by omega) (by omega)]; (repeat (first | rw [gI_sI, if_neg (by omega)] | rw [gI_sF, if_neg (by omega)] | rw [gI_sJ] | rw [gI_sG] | rw [gI_sQ]))⟩) (fun i _ w => em83 i w)) em23 (by omega) (by omega) (fun z hz => h7 z (List.mem_cons_of_mem _ hz)) h8
      rw [hS] at this
      rw [es]
      obtain ⟨S', b1, b2, b3, b4, b5, b6, b7⟩ := this
      have hFe : FrS S (emS (sI S 72 29 N) y.1 0) := (FrS.I (by omega)).tr (((FrS.I (by omega)).tr (FrS.I (by omega))).tr (FrS.I (by omega)))
      refine ⟨S', ?_, b2, b3, b4, b5, hFe.tr b6, by rw [b7]; omega⟩
      rw [← b1, B185_0]
      have e85 : gI (sI S 72 29 N) 85 N = y.1 := by (repeat (first | rw [gI_sI, if_neg (by omega)] | rw [gI_sF, if_neg (by omega)] | rw [gI_sJ] | rw [gI_sG] | rw [gI_sQ])); exact p1
      have q29 : ¬ (y.1 = 29) := fun w => q (Or.inl w)
      have q30 : ¬ (y.1 = 30) := fun w => q (Or.inr w)
      simp (disch := first | omega | assumption | exact b01_rng _ | exact st_5 | exact st_12 | exact st_19 | (simp only [isSt_sI, isSt_sJ, isSt_sF, isSt_sG, isSt_sA]; assumption)) only [↓B185_7, ↓B185_21, ↓B185_25, ↓B185_49, ↓B185_63, ↓B185_84, ↓B185_98, ↓B185_101, ↓a_84, ↓a_85, ↓a_86, ↓n_84, ↓n_85, ↓n_86, ↓o_72, ↓r_72_23, ↓r_72_25, ↓r_72_27, ↓r_72_28, ↓r_72_29, ↓s_84, ↓s_85, ↓s_86, ↓w_72_29, c184, c182, i_lit, i_add, i_sub, i_mul, i_neg, i_lt, i_le, i_eq, i32_gI, i64_gJ, i32_id, i32_to, i64_to, sI_i32, sJ_i64, b01_t, b01_f, i32_b01, b01_0, ↓a_s0, ↓n_s0, ↓a_s1, ↓n_s1, Int.add_zero, t_lt, f_lt, t_le, f_le, t_eq, f_eq, true_and, and_true, false_and, and_false, and_self, ↓reduceIte, z_bool_of, or_true, true_or, or_false, false_or, Int.neg_neg, not_true_eq_false, not_false_eq_true, lg_lt, lg_le, lg_gt, lg_ge, lg_eq, j_lit, j_add, j_sub, j_mul, j_neg, j_eq, i64_id, ij, ji, z_rt, Nat.reduceEqDiff, Nat.reduceAdd, Int.reduceAdd, Int.reduceSub, Int.reduceMul, Int.reduceNeg, Int.reduceLT, Int.reduceLE, Int.reduceEq, e1, e2, p1, e3, e85, q29, q30]
/-! what is pending on the pile -/
def Pend (ord : Int) (I : Ins) (a k : Int) (Q : List En) (n : Nat) (e : Ev) : Prop := Seg (stl ord Q (I, k)).1 a (stl ord Q (I, k)).2 n e ∧ ∀ y ∈ Q, (20 ≤ y.1 ∧ y.1 ≤ 30) ∧ (y.1 = 29 ∨ y.1 = 30 → a ≤ y.2 ∧ y.2 < k)
theorem stl_lo {ord : Int} {m : Int} : ∀ (Q : List En) (I : Ins) (k : Int), m ≤ k → (∀ y ∈ Q, y.1 = 29 ∨ y.1 = 30 → m ≤ y.2) → (∀ i, i < m → (stl ord Q (I, k)).1 i = I i) ∧ k ≤ (stl ord Q (I, k)).2 := by
  intro Q
  induction Q with
  | nil => intro I k h1 h2; exact ⟨fun _ _ => rfl, Int.le_refl _⟩
  | cons y Q ih =>
    intro I k h1 h2
    show (∀ i, i < m → (stl ord Q (st1 ord (I, k) y)).1 i = I i) ∧ k ≤ (stl ord Q (st1 ord (I, k) y)).2
    have hy := h2 y List.mem_cons_self
    unfold st1
    by_cases q : y.1 = 29 ∨ y.1 = 30
    · rw [if_pos q]
      obtain ⟨a1, a2⟩ := ih (upI I y.2 (dM ord y.1 k)) k h1 (fun z hz => h2 z (List.mem_cons_of_mem _ hz))
      refine ⟨fun i hi => ?_, a2⟩
      rw [a1 i hi]; unfold upI; rw [if_neg (by have := hy q; omega)]
    · rw [if_neg q]
      obtain ⟨a1, a2⟩ := ih (upI I k (dM ord y.1 0)) (k + 1) (by omega) (fun z hz => h2 z (List.mem_cons_of_mem _ hz))
      refine ⟨fun i hi => ?_, Int.le_trans (show k ≤ k + 1 by omega) a2⟩
      rw [a1 i hi]; unfold upI; rw [if_neg (by omega)]
theorem stl_snoc (ord : Int) (Q : List En) (y : En) (x : Ins × Int) : stl ord (Q ++ [y]) x = st1 ord (stl ord Q x) y := by unfold stl; rw [List.foldl_append]; rfl
theorem Pend.nil {ord : Int} {I : Ins} {a k : Int} {n : Nat} {e : Ev} (h : Seg I a k n e) : Pend ord I a k [] n e := ⟨h, fun _ h => by cases h⟩
theorem upI_at (I : Ins) (k : Int) (v : Int × Int) : upI I k v k = v := if_pos rfl
theorem upI_ne (I : Ins) {k i : Int} (v : Int × Int) (h : i ≠ k) : upI I k v i = I i := if_neg h
theorem dM_b (ord : Int) {op ar : Int} (h : 20 ≤ op ∧ op ≤ 27) : dM ord op ar = (op - 18, 0) := by unfold dM; rw [if_neg (by omega), if_neg (by omega), if_pos (by omega)]
theorem Pend.bin {ord : Int} {I : Ins} {a m k : Int} {Q : List En} {n1 n2 : Nat} {l r : Ev} {op ar : Int} (h1 : Seg I a m n1 l) (h2 : Pend ord I m k Q n2 r) (hop : 20 ≤ op ∧ op ≤ 27) (hk : m ≤ k) : Pend ord I a k (Q ++ [(op, ar)]) (n1 + n2) (eB (op - 18) l r) := by
  have h1k := h1.1
  obtain ⟨l1', l2'⟩ := stl_lo (ord := ord) (m := m) Q I k hk (fun y hy w => ((h2.2 y hy).2 w).1)
  refine ⟨?_, fun y hy => ?_⟩
  · rw [stl_snoc]
    unfold st1
    rw [if_neg (by show ¬ (op = 29 ∨ op = 30); omega)]
    have hs := h2.1
    generalize stl ord Q (I, k) = x at *
    have hm := hs.1
    refine Seg.bin (x := 0) (h1.cg (fun i _ q => ?_)) (hs.cg (fun i _ q => upI_ne _ _ (by omega))) (by omega) (by show upI x.1 x.2 (dM ord op 0) x.2 = _; rw [upI_at, dM_b ord hop])
    show upI x.1 x.2 (dM ord op 0) i = I i
    rw [upI_ne _ _ (by omega), l1' i q]
  · rcases List.mem_append.mp hy with w | w
    · exact ⟨(h2.2 y w).1, fun z => by have := (h2.2 y w).2 z; omega⟩
    · simp only [List.mem_cons, List.not_mem_nil, or_false] at w
      subst w
      exact ⟨by show 20 ≤ op ∧ op ≤ 30; omega, fun z => by have : op = 29 ∨ op = 30 := z; omega⟩
theorem Pend.not {ord : Int} {I : Ins} {a k : Int} {Q : List En} {n : Nat} {e : Ev} {ar : Int} (h : Pend ord I a k Q n e) : Pend ord I a k (Q ++ [(28, ar)]) n (eN e) := by
  refine ⟨?_, fun y hy => ?_⟩
  · rw [stl_snoc]
    unfold st1
    rw [if_neg (by show ¬ ((28 : Int) = 29 ∨ (28 : Int) = 30); decide)]
    have hs := h.1
    generalize stl ord Q (I, k) = x at *
    exact Seg.not (x := 0) (hs.cg (fun i _ q => upI_ne _ _ (by omega))) (by show upI x.1 x.2 (dM ord 28 0) x.2 = _; rw [upI_at]; rfl)
  · rcases List.mem_append.mp hy with w | w
    · exact h.2 y w
    · simp only [List.mem_cons, List.not_mem_nil, or_false] at w
      subst w
      exact ⟨by show 20 ≤ (28 : Int) ∧ (28 : Int) ≤ 30; decide, fun z => by have : (28 : Int) = 29 ∨ (28 : Int) = 30 := z; omega⟩
theorem Pend.join {ord : Int} {I : Ins} {a ia k : Int} {Q : List En} {n1 n2 : Nat} {l r : Ev} {op : Int} (hop : op = 29 ∨ op = 30) (h1 : Seg I a ia n1 l) (h2 : Pend ord I (ia + 1) k Q n2 r) (hk : ia + 1 ≤ k) : Pend ord I a k (Q ++ [(op, ia)]) (n1 + n2) (eJ (if op = 29 then 12 else 11) l r) := by
  have h1k := h1.1
  obtain ⟨l1', l2'⟩ := stl_lo (ord := ord) (m := ia + 1) Q I k hk (fun y hy w => ((h2.2 y hy).2 w).1)
  refine ⟨?_, fun y hy => ?_⟩
  · rw [stl_snoc]
    unfold st1
    rw [if_pos hop]
    have hs := h2.1
    generalize stl ord Q (I, k) = x at *
    have hm := hs.1
    refine Seg.join (b := ia) (h1.cg (fun i _ q => ?_)) (hs.cg (fun i q _ => upI_ne _ _ (by omega))) (by rcases hop with w | w <;> rw [w] <;> decide) ?_
    · show upI x.1 ia (dM ord op x.2) i = I i
      rw [upI_ne _ _ (by omega), l1' i (by omega)]
    · show upI x.1 ia (dM ord op x.2) ia = _
      rw [upI_at]
      rcases hop with w | w <;> rw [w] <;> rfl
  · rcases List.mem_append.mp hy with w | w
    · exact ⟨(h2.2 y w).1, fun z => by have := (h2.2 y w).2 z; omega⟩
    · simp only [List.mem_cons, List.not_mem_nil, or_false] at w
      subst w
      exact ⟨by show 20 ≤ op ∧ op ≤ 30; omega, fun z => ⟨by show a ≤ ia; omega, by show ia < k; omega⟩⟩
