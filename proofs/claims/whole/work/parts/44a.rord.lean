/-! readOrder of the reference: its frame, readSum -/
def okw (c : Int) : Int := if c = 276 then 0 else if c = 278 then 1 else if c = 279 then 2 else if c = 280 then 3 else -1
def KO (S : zS) : Prop := gJ S 111 0 = 24290536 ∧ gJ S 111 1 = 5572 ∧ gJ S 111 2 = 431284 ∧ gJ S 111 3 = 525939
def FrOw (S S' : zS) : Prop := Dyn S S' ∧ (∀ a i, ¬ (a = 72 ∧ ((14 ≤ i ∧ i ≤ 16) ∨ i = 18 ∨ i = 19 ∨ i = 21 ∨ i = 23 ∨ i = 26 ∨ i = 29 ∨ i = 30)) → ¬ (83 ≤ a ∧ a ≤ 86) → a ≠ 112 → gI S' a i = gI S a i) ∧ (∀ a i, ¬ (a = 72 ∧ i = 17) → gJ S' a i = gJ S a i) ∧ (∀ a i, gQ S' a i = gQ S a i)
theorem FrOw.rf {S : zS} : FrOw S S := ⟨Dyn.rf, fun _ _ _ _ _ => rfl, fun _ _ _ => rfl, fun _ _ => rfl⟩
theorem FrOw.tr {A B C : zS} (h1 : FrOw A B) (h2 : FrOw B C) : FrOw A C := ⟨h1.1.tr h2.1, fun a i q1 q2 q3 => (h2.2.1 a i q1 q2 q3).trans (h1.2.1 a i q1 q2 q3), fun a i q => (h2.2.2.1 a i q).trans (h1.2.2.1 a i q), fun a i => (h2.2.2.2 a i).trans (h1.2.2.2 a i)⟩
theorem FrE.o {A B : zS} (h : FrE A B) : FrOw A B := ⟨h.1, fun a i q1 q2 _ => h.2.1 a i (by omega) (by omega), h.2.2.1, h.2.2.2⟩
theorem FrOw.I {S : zS} {a : Nat} {i x : Int} (h : a = 112 ∨ (a = 72 ∧ i = 21)) : FrOw S (sI S a i x) := ⟨Dyn.sI (by omega) Dyn.rf, fun b j q1 q2 q3 => by rw [gI_sI, if_neg (by omega)], fun _ _ _ => rfl, fun _ _ => rfl⟩
/-- readSum, behind a fault -/
theorem y259 {X : zX} {d : Nat} (hd : 0 < d) {S : zS} {x f : Int} (hx : 0 ≤ x ∧ x ≤ 94) (h : RBad S f) : ∃ S' : zS, (∀ {cm cp : Nat} {L : zL} {st : List Value}, z_evc X d 259 [.ref 72, .int (Int32.ofInt x)] (cm, cp, L, st, mk S) = z_ev X d (cm, cp, L, st, mk S')) ∧ RBad S' f ∧ FrOw S S' := by
  obtain ⟨h19, h18⟩ := h
  have e : ∀ (i : Int), gI (sI (sI S 112 x (gI S 72 23)) 112 (x + 1) (gI S 72 23)) 72 i = gI S 72 i := fun i => by rw [gI_sI, if_neg (by omega), gI_sI, if_neg (by omega)]
  refine ⟨sI (sI S 112 x (gI S 72 23)) 112 (x + 1) (gI S 72 23), fun {cm cp L st} => z_evc_of (r := (none, mk (sI (sI S 112 x (gI S 72 23)) 112 (x + 1) (gI S 72 23)))) (ck := (cm, cp, L, st, mk S)) hd ?_, ⟨by rw [e]; exact h19, by rw [e]; exact h18⟩, (FrOw.I (by omega)).tr (FrOw.I (by omega))⟩
  show z_ev X 0 (259, 0, [some (.ref 72), some (.int (Int32.ofInt x))], [], mk S) = _
  have g1 : gI (sI S 112 x (gI S 72 23)) 72 23 = gI S 72 23 := by rw [gI_sI, if_neg (by omega)]
  have g3 : gI (sI S 112 x (gI S 72 23)) 72 19 = 1 := by rw [gI_sI, if_neg (by omega)]; exact h19
  simp (disch := first | omega | assumption | exact b01_rng _ | exact st_5 | exact st_12 | exact st_19 | (simp only [isSt_sI, isSt_sJ, isSt_sF, isSt_sG, isSt_sA]; assumption)) only [↓B259_0, ↓B259_17, ↓B259_22, ↓a_112, ↓n_112, ↓o_72, ↓r_72_19, ↓r_72_23, ↓r_72_64, ↓s_112, i_lit, i_add, i_sub, i_mul, i_neg, i_lt, i_le, i_eq, i32_gI, i64_gJ, i32_id, i32_to, i64_to, sI_i32, sJ_i64, b01_t, b01_f, i32_b01, b01_0, ↓a_s0, ↓n_s0, ↓a_s1, ↓n_s1, Int.add_zero, t_lt, f_lt, t_le, f_le, t_eq, f_eq, true_and, and_true, false_and, and_false, and_self, ↓reduceIte, z_bool_of, or_true, true_or, or_false, false_or, Int.neg_neg, not_true_eq_false, not_false_eq_true, lg_lt, lg_le, lg_gt, lg_ge, lg_eq, j_lit, j_add, j_sub, j_mul, j_neg, j_eq, i64_id, ij, ji, z_rt, Nat.reduceEqDiff, Nat.reduceAdd, Int.reduceAdd, Int.reduceSub, Int.reduceMul, Int.reduceNeg, Int.reduceLT, Int.reduceLE, Int.reduceEq, g1, g3]
/-- .. and as it should -/
theorem z259 {X : zX} {d : Nat} (hd : 8 < d) {b : Int → Int} {n : Int} {T t : Nat} (hT : RTape b n T) {S : zS} (hK : KW S) {x k : Int} (hx : 0 ≤ x ∧ x ≤ 94) {p : Nat × Int} (h : RE S b n T t 1 p k) : match pSum (tc b n) (tv b n) 1 8 p t with
  | .inl e => ∃ S' : zS, (∀ {cm cp : Nat} {L : zL} {st : List Value}, z_evc X d 259 [.ref 72, .int (Int32.ofInt x)] (cm, cp, L, st, mk S) = z_ev X d (cm, cp, L, st, mk S')) ∧ RBad S' (tpos b n e) ∧ FrOw S S'
  | .inr (e, p1, t1) => ∃ (S' : zS) (k1 : Int), (∀ {cm cp : Nat} {L : zL} {st : List Value}, z_evc X d 259 [.ref 72, .int (Int32.ofInt x)] (cm, cp, L, st, mk S) = z_ev X d (cm, cp, L, st, mk S')) ∧ RE S' b n T t1 1 p1 k1 ∧ gI S' 112 x = k ∧ gI S' 112 (x + 1) = k1 ∧ RSg (IM 1 S') (some e) k k1 ∧ (∀ i, i < k → IM 1 S' i = IM 1 S i) ∧ (∀ i, i ≠ x → i ≠ x + 1 → gI S' 112 i = gI S 112 i) ∧ t ≤ t1 ∧ k ≤ k1 ∧ gI S' 72 21 = gI S 72 21 ∧ FrOw S S' := by
  have ht3 := hT.2.2
  have h1 := h.2.1.1
  obtain ⟨k23, k0, kt⟩ := h.2.2.2.2
  have h19 := h.1.2.2.2
  have e3 : ∀ (a : Nat) (i : Int), ¬ (a = 112 ∧ i = x) → gI (sI S 112 x k) a i = gI S a i := fun a i q => by rw [gI_sI, if_neg (by omega)]
  have hS3 : RE (sI S 112 x k) b n T t 1 p k := h.f2 (fun i _ => e3 _ _ (by omega)) (fun i => e3 _ _ (by omega)) rfl
  have hF3 : FrOw S (sI S 112 x k) := FrOw.I (by omega)
  have hI3 : IM 1 (sI S 112 x k) = IM 1 S := IM_fr (fun a i q => e3 _ _ (by omega))
  have g4 : gI (sI S 112 x k) 112 x = k := by rw [gI_sI, if_pos ⟨rfl, rfl⟩, i32_id (by omega) (by omega)]
  have f3 := hS3.1.2.2.2
  have hK3 : KW (sI S 112 x k) := hK.fr (fun a i q => hF3.2.2.1 a i (by omega))
  have ent : ∀ {S1 S' : zS}, (∀ {cm cp : Nat} {L : zL} {st : List Value}, z_evc X 8 196 [.ref 72, .int (Int32.ofInt 0)] (cm, cp, L, st, mk (sI S 112 x k)) = z_ev X 8 (cm, cp, L, st, mk S1)) → S' = sI S1 112 (x + 1) (gI S1 72 23) → ∀ {cm cp : Nat} {L : zL} {st : List Value}, z_evc X d 259 [.ref 72, .int (Int32.ofInt x)] (cm, cp, L, st, mk S) = z_ev X d (cm, cp, L, st, mk S') := fun {S1 S'} c1 e {cm cp L st} => z_evc_of (r := (none, mk S')) (ck := (cm, cp, L, st, mk S)) hd (by
    show z_ev X 8 (259, 0, [some (.ref 72), some (.int (Int32.ofInt x))], [], mk S) = _
    rw [e]
    simp (disch := first | omega | assumption | exact b01_rng _ | exact st_5 | exact st_12 | exact st_19 | (simp only [isSt_sI, isSt_sJ, isSt_sF, isSt_sG, isSt_sA]; assumption)) only [↓B259_0, ↓B259_17, ↓B259_22, ↓a_112, ↓n_112, ↓o_72, ↓r_72_19, ↓r_72_23, ↓r_72_64, ↓s_112, c1, i_lit, i_add, i_sub, i_mul, i_neg, i_lt, i_le, i_eq, i32_gI, i64_gJ, i32_id, i32_to, i64_to, sI_i32, sJ_i64, b01_t, b01_f, i32_b01, b01_0, ↓a_s0, ↓n_s0, ↓a_s1, ↓n_s1, Int.add_zero, t_lt, f_lt, t_le, f_le, t_eq, f_eq, true_and, and_true, false_and, and_false, and_self, ↓reduceIte, z_bool_of, or_true, true_or, or_false, false_or, Int.neg_neg, not_true_eq_false, not_false_eq_true, lg_lt, lg_le, lg_gt, lg_ge, lg_eq, j_lit, j_add, j_sub, j_mul, j_neg, j_eq, i64_id, ij, ji, z_rt, Nat.reduceEqDiff, Nat.reduceAdd, Int.reduceAdd, Int.reduceSub, Int.reduceMul, Int.reduceNeg, Int.reduceLT, Int.reduceLE, Int.reduceEq, k23, f3])
  have := z196 (X := X) (d := 8) (by omega) hT hK3 (ts := 0) (Or.inl rfl) hS3
  have hpe : pEx b n 1 0 = pSum (tc b n) (tv b n) 1 8 := if_pos rfl
  rw [hpe] at this
  generalize hS3e : sI S 112 x k = S3 at *
  cases hr : pSum (tc b n) (tv b n) 1 8 p t with
  | inl e =>
    rw [hr] at this
    obtain ⟨S5, c1, ⟨c2, c2'⟩, c3⟩ := this
    have e6 : ∀ i, gI (sI S5 112 (x + 1) (gI S5 72 23)) 72 i = gI S5 72 i := fun i => by rw [gI_sI, if_neg (by omega)]
    exact ⟨sI S5 112 (x + 1) (gI S5 72 23), ent c1 rfl, ⟨by rw [e6]; exact c2, by rw [e6]; exact c2'⟩, (hF3.tr c3.o).tr (FrOw.I (by omega))⟩
  | inr y =>
    obtain ⟨e, p4, t4⟩ := y
    rw [hr] at this
    obtain ⟨S5, k4, m, c1, c2, c3, c4, c5, c6, c7⟩ := this
    obtain ⟨d23, d0, dt⟩ := c2.2.2.2.2
    have h2 := c2.2.1.1
    have hp50 := c2.2.2.2.1.2
    have e6 : ∀ (a : Nat) (i : Int), ¬ (a = 112 ∧ i = x + 1) → gI (sI S5 112 (x + 1) k4) a i = gI S5 a i := fun a i w => by rw [gI_sI, if_neg (by omega)]
    have e5 : ∀ i, gI S5 112 i = gI S3 112 i := fun i => by rw [c7.2.1 _ _ (by omega) (by omega)]
    have hkk := c3.1
    refine ⟨sI S5 112 (x + 1) k4, k4, ent c1 (by rw [d23]), c2.f2 (fun i _ => e6 _ _ (by omega)) (fun i => e6 _ _ (by omega)) rfl, by rw [e6 _ _ (by omega), e5]; exact g4, by rw [gI_sI, if_pos ⟨rfl, rfl⟩, i32_id (by omega) (by omega)], ⟨m, by omega, by rw [IM_fr (S := S5) (fun a i q => e6 _ _ (by omega))]; exact c3⟩, fun i hi => ?_, fun i hi1 hi2 => ?_, by omega, by omega, ?_, (hF3.tr c7.o).tr (FrOw.I (by omega))⟩
    · rw [IM_fr (S := S5) (fun a i q => e6 _ _ (by omega)), c5 i hi, hI3]
    · rw [e6 _ _ (by omega), e5, e3 _ _ (by omega)]
    · rw [e6 _ _ (by omega), c7.2.1 _ _ (by omega) (by omega), e3 _ _ (by omega)]
