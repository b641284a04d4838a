/-! readExpression -/
def RE (S : zS) (b : Int → Int) (n : Int) (T t : Nat) (ord : Int) (p : Nat × Int) (k : Int) : Prop := MAt S b n t ∧ (t ≤ T ∧ gI S 72 18 = -1) ∧ (gI S 72 20 = ord ∧ (ord = 0 ∨ ord = 1)) ∧ (gI S 72 26 = p.1 ∧ p.1 ≤ 50) ∧ (gI S 72 23 = k ∧ 0 ≤ k ∧ k ≤ t)
theorem RX.re {S : zS} {b : Int → Int} {n : Int} {T t : Nat} {ord dp k : Int} {p : Nat × Int} {P : List En} (h : RX S b n T t ord p P dp k) : RE S b n T t ord p k := by
  obtain ⟨a1, a2, a3, a4, ⟨r1, r2, r3, r4, r5, r6⟩, a6⟩ := h
  exact ⟨a1, a2, a3, a4, r3, r4, by omega⟩
theorem RE.x {S : zS} {b : Int → Int} {n : Int} {T t : Nat} {ord k : Int} {p : Nat × Int} (h : RE S b n T t ord p k) : RX (sI (sI S 72 29 0) 72 30 0) b n T t ord p [] 0 k := by
  obtain ⟨a1, a2, a3, a4, r3, r4, r5⟩ := h
  have e : ∀ (a : Nat) (i : Int), ¬ (a = 72 ∧ (i = 29 ∨ i = 30)) → gI (sI (sI S 72 29 0) 72 30 0) a i = gI S a i := fun a i q => by rw [gI_sI, if_neg (by omega), gI_sI, if_neg (by omega)]
  refine ⟨a1.fr (fun i q => e _ _ (by omega)) (fun i => e _ _ (by omega)) rfl, ⟨a2.1, by rw [e _ _ (by omega)]; exact a2.2⟩, ⟨by rw [e _ _ (by omega)]; exact a3.1, a3.2⟩, ⟨by rw [e _ _ (by omega)]; exact a4.1, a4.2⟩, ⟨?_, trivial, by rw [e _ _ (by omega)]; exact r3, r4, by show k + ((0 : Nat) : Int) ≤ t; omega, Nat.zero_le _⟩, ⟨?_, by omega, by omega⟩⟩
  · rw [gI_sI, if_neg (by omega), gI_sI, if_pos ⟨rfl, rfl⟩]; rfl
  · rw [gI_sI, if_pos ⟨rfl, rfl⟩]; rfl
theorem RE.fr {S S' : zS} {b : Int → Int} {n : Int} {T t : Nat} {ord k : Int} {p : Nat × Int} (h : RE S b n T t ord p k) (hI : ∀ i, gI S' 72 i = gI S 72 i) (h81 : ∀ i, gI S' 81 i = gI S 81 i) (hJ : gJ S' 72 17 = gJ S 72 17) : RE S' b n T t ord p k := by
  obtain ⟨a1, a2, a3, a4, a5⟩ := h
  exact ⟨a1.fr (fun i _ => hI i) h81 hJ, ⟨a2.1, by rw [hI]; exact a2.2⟩, ⟨by rw [hI]; exact a3.1, a3.2⟩, ⟨by rw [hI]; exact a4.1, a4.2⟩, ⟨by rw [hI]; exact a5.1, a5.2⟩⟩
theorem RE.nx {S S' : zS} {b : Int → Int} {n : Int} {T t t' : Nat} {ord k : Int} {p : Nat × Int} (h : RE S b n T t ord p k) (hM : MAt S' b n t') (hF : FrN S S') (h1 : t ≤ t') (h2 : t' ≤ T) : RE S' b n T t' ord p k := by
  obtain ⟨a1, a2, a3, a4, a5⟩ := h
  exact ⟨hM, ⟨h2, by rw [hF.2.1 _ _ (by omega)]; exact a2.2⟩, ⟨by rw [hF.2.1 _ _ (by omega)]; exact a3.1, a3.2⟩, ⟨by rw [hF.2.1 _ _ (by omega)]; exact a4.1, a4.2⟩, ⟨by rw [hF.2.1 _ _ (by omega)]; exact a5.1, a5.2.1, by omega⟩⟩
/-- the end: all is settled -/
theorem hd6_4 {X : zX} {d : Nat} (hd : 6 < d) {b : Int → Int} {n : Int} {T t : Nat} (hT : RTape b n T) {S : zS} {ord ts k : Int} {p : Nat × Int} {Q : List En} (h : RX S b n T t ord p Q 0 k) (hQ : ∀ y ∈ Q, 20 ≤ y.1 ∧ y.1 ≤ 30) : ∃ S' : zS, hd6 X d ts 4 S = some (none, mk S') ∧ RE S' b n T t ord p (stl ord Q (IM ord S, k)).2 ∧ IM ord S' = (stl ord Q (IM ord S, k)).1 ∧ FrE S S' := by
  have h' : RX S b n T t ord p (Q ++ []) 0 k := by rw [List.append_nil]; exact h
  obtain ⟨S1, a1, a2, a3, a4, a5⟩ := z185 (X := X) (d := d) (by omega) hT.2.2 (least := 1) (by omega) h' (fun y hy => by have := hQ y hy; unfold bnd; rw [if_neg (by omega)]; repeat (first | omega | split)) (fun y r e => by cases e)
  have h19 := h.1.2.2.2
  refine ⟨S1, ?_, a2.re, a3, a4.e⟩
  unfold hd6
  rw [B196_20]
  simp (disch := first | omega | assumption | exact b01_rng _ | exact st_5 | exact st_12 | exact st_19 | (simp only [isSt_sI, isSt_sJ, isSt_sF, isSt_sG, isSt_sA]; assumption)) only [↓B196_0, ↓B196_14, ↓B196_18, ↓B196_19, ↓B196_27, ↓B196_32, ↓B196_36, ↓B196_40, ↓B196_43, ↓B196_48, ↓B196_52, ↓B196_55, ↓B196_60, ↓B196_65, ↓B196_68, ↓B196_72, ↓B196_76, ↓B196_81, ↓o_72, ↓r_72_19, ↓w_72_29, ↓w_72_30, a1, i_lit, i_add, i_sub, i_mul, i_neg, i_lt, i_le, i_eq, i32_gI, i64_gJ, i32_id, i32_to, i64_to, sI_i32, sJ_i64, b01_t, b01_f, i32_b01, b01_0, ↓a_s0, ↓n_s0, ↓a_s1, ↓n_s1, Int.add_zero, t_lt, f_lt, t_le, f_le, t_eq, f_eq, true_and, and_true, false_and, and_false, and_self, ↓reduceIte, z_bool_of, or_true, true_or, or_false, false_or, Int.neg_neg, not_true_eq_false, not_false_eq_true, lg_lt, lg_le, lg_gt, lg_ge, lg_eq, j_lit, j_add, j_sub, j_mul, j_neg, j_eq, i64_id, ij, ji, z_rt, Nat.reduceEqDiff, Nat.reduceAdd, Int.reduceAdd, Int.reduceSub, Int.reduceMul, Int.reduceNeg, Int.reduceLT, Int.reduceLE, Int.reduceEq, h19]
noncomputable def pEx (b : Int → Int) (n ord ts : Int) : Rdr := if ts = 0 then pSum (tc b n) (tv b n) ord 8 else pTest (tc b n) (tv b n) ord 8
theorem z196 {X : zX} {d : Nat} (hd : 7 < d) {b : Int → Int} {n : Int} {T t : Nat} (hT : RTape b n T) {S : zS} (hK : KW S) {ord ts k : Int} (hts : ts = 0 ∨ ts = 1) {p : Nat × Int} (h : RE S b n T t ord p k) : match pEx b n ord ts p t with
  | .inl e => ∃ S' : zS, (∀ {cm cp : Nat} {L : zL} {st : List Value}, z_evc X d 196 [.ref 72, .int (Int32.ofInt ts)] (cm, cp, L, st, mk S) = z_ev X d (cm, cp, L, st, mk S')) ∧ RBad S' (tpos b n e) ∧ FrE S S'
  | .inr (e, p1, t1) => ∃ (S' : zS) (k1 : Int) (m : Nat), (∀ {cm cp : Nat} {L : zL} {st : List Value}, z_evc X d 196 [.ref 72, .int (Int32.ofInt ts)] (cm, cp, L, st, mk S) = z_ev X d (cm, cp, L, st, mk S')) ∧ RE S' b n T t1 ord p1 k1 ∧ Seg (IM ord S') k k1 m e ∧ p.1 + m ≤ p1.1 ∧ (∀ i, i < k → IM ord S' i = IM ord S i) ∧ t < t1 ∧ FrE S S' := by
  have hx := h.x
  have hF0 : FrE S (sI (sI S 72 29 0) 72 30 0) := (FrE.I (by omega)).tr (FrE.I (by omega))
  have hI0 : IM ord (sI (sI S 72 29 0) 72 30 0) = IM ord S := IM_fr (fun a i q => by rw [gI_sI, if_neg (by omega), gI_sI, if_neg (by omega)])
  have hK0 := hK.e hF0
  have ev : ∀ {S' : zS}, z_ev X 7 (196, 0, [some (.ref 72), some (.int (Int32.ofInt ts)), none], [], mk S) = some (none, mk S') → ∀ {cm cp : Nat} {L : zL} {st : List Value}, z_evc X d 196 [.ref 72, .int (Int32.ofInt ts)] (cm, cp, L, st, mk S) = z_ev X d (cm, cp, L, st, mk S') := fun {S'} hh {cm cp L st} => z_evc_of (r := (none, mk S')) (ck := (cm, cp, L, st, mk S)) hd hh
  rcases hts with rfl | rfl
  · have ent : z_ev X 7 (196, 0, [some (.ref 72), some (.int (Int32.ofInt 0)), none], [], mk S) = hd6 X 7 0 1 (sI (sI S 72 29 0) 72 30 0) := by
      unfold hd6
      simp (disch := first | omega | assumption | exact b01_rng _ | exact st_5 | exact st_12 | exact st_19 | (simp only [isSt_sI, isSt_sJ, isSt_sF, isSt_sG, isSt_sA]; assumption)) only [↓B196_0, ↓B196_14, ↓B196_18, ↓B196_19, ↓B196_27, ↓B196_32, ↓B196_36, ↓B196_40, ↓B196_43, ↓B196_48, ↓B196_52, ↓B196_55, ↓B196_60, ↓B196_65, ↓B196_68, ↓B196_72, ↓B196_76, ↓B196_81, ↓o_72, ↓r_72_19, ↓w_72_29, ↓w_72_30, i_lit, i_add, i_sub, i_mul, i_neg, i_lt, i_le, i_eq, i32_gI, i64_gJ, i32_id, i32_to, i64_to, sI_i32, sJ_i64, b01_t, b01_f, i32_b01, b01_0, ↓a_s0, ↓n_s0, ↓a_s1, ↓n_s1, Int.add_zero, t_lt, f_lt, t_le, f_le, t_eq, f_eq, true_and, and_true, false_and, and_false, and_self, ↓reduceIte, z_bool_of, or_true, true_or, or_false, false_or, Int.neg_neg, not_true_eq_false, not_false_eq_true, lg_lt, lg_le, lg_gt, lg_ge, lg_eq, j_lit, j_add, j_sub, j_mul, j_neg, j_eq, i64_id, ij, ji, z_rt, Nat.reduceEqDiff, Nat.reduceAdd, Int.reduceAdd, Int.reduceSub, Int.reduceMul, Int.reduceNeg, Int.reduceLT, Int.reduceLE, Int.reduceEq]
    have := ref_sum (X := X) (d := 7) (by omega) hT (ord := ord) (ts := 0) 8 0 (by omega) _ t p [] k hx hK0 (fun y r e => by cases e)
    show match pSum (tc b n) (tv b n) ord 8 p t with
      | .inl e => _
      | .inr (e, p1, t1) => _
    cases hr : pSum (tc b n) (tv b n) ord 8 p t with
    | inl e =>
      rw [hr] at this
      obtain ⟨S1, a1, a2, a3⟩ := this
      exact ⟨S1, ev (by rw [ent]; exact a1), a2, hF0.tr a3⟩
    | inr x =>
      obtain ⟨e, p1, t1⟩ := x
      rw [hr] at this
      obtain ⟨S1, Q, k1, m, a1, a2, a3, a4, a5, a6, a7, a8, a9, a10⟩ := this
      rw [List.append_nil] at a2
      have ei : inn Q = -1 := by rw [← List.append_nil Q, inn_app (fun y hy => by have := a8 y hy; omega)]; rfl
      obtain ⟨S2, b1, b2, b3, b4⟩ := hd6_4 (X := X) (d := 7) (by omega) hT (ts := 0) a2 (fun y hy => by have := a8 y hy; omega)
      refine ⟨S2, _, m, ev ?_, b2, by rw [b3]; exact a3.1, a4, fun i hi => ?_, a6, (hF0.tr a7).tr b4⟩
      · rw [ent, a1, hd6_3 a2.1.2.2.2 (fun {cm cp L st} => z194d (by omega) hT a2 a9 ei)]; exact b1
      · rw [b3, stl_low a8 a10 i hi, a5 i hi, hI0]
  · have ent : z_ev X 7 (196, 0, [some (.ref 72), some (.int (Int32.ofInt 1)), none], [], mk S) = hd6 X 7 1 0 (sI (sI S 72 29 0) 72 30 0) := by
      unfold hd6
      simp (disch := first | omega | assumption | exact b01_rng _ | exact st_5 | exact st_12 | exact st_19 | (simp only [isSt_sI, isSt_sJ, isSt_sF, isSt_sG, isSt_sA]; assumption)) only [↓B196_0, ↓B196_14, ↓B196_18, ↓B196_19, ↓B196_27, ↓B196_32, ↓B196_36, ↓B196_40, ↓B196_43, ↓B196_48, ↓B196_52, ↓B196_55, ↓B196_60, ↓B196_65, ↓B196_68, ↓B196_72, ↓B196_76, ↓B196_81, ↓o_72, ↓r_72_19, ↓w_72_29, ↓w_72_30, i_lit, i_add, i_sub, i_mul, i_neg, i_lt, i_le, i_eq, i32_gI, i64_gJ, i32_id, i32_to, i64_to, sI_i32, sJ_i64, b01_t, b01_f, i32_b01, b01_0, ↓a_s0, ↓n_s0, ↓a_s1, ↓n_s1, Int.add_zero, t_lt, f_lt, t_le, f_le, t_eq, f_eq, true_and, and_true, false_and, and_false, and_self, ↓reduceIte, z_bool_of, or_true, true_or, or_false, false_or, Int.neg_neg, not_true_eq_false, not_false_eq_true, lg_lt, lg_le, lg_gt, lg_ge, lg_eq, j_lit, j_add, j_sub, j_mul, j_neg, j_eq, i64_id, ij, ji, z_rt, Nat.reduceEqDiff, Nat.reduceAdd, Int.reduceAdd, Int.reduceSub, Int.reduceMul, Int.reduceNeg, Int.reduceLT, Int.reduceLE, Int.reduceEq]
    have := ref_test (X := X) (d := 7) (by omega) hT (ord := ord) 8 0 (by omega) _ t p [] k hx hK0 (fun y r e => by cases e) (Or.inl rfl)
    show match pTest (tc b n) (tv b n) ord 8 p t with
      | .inl e => _
      | .inr (e, p1, t1) => _
    cases hr : pTest (tc b n) (tv b n) ord 8 p t with
    | inl e =>
      rw [hr] at this
      obtain ⟨S1, a1, a2, a3⟩ := this
      exact ⟨S1, ev (by rw [ent]; exact a1), a2, hF0.tr a3⟩
    | inr x =>
      obtain ⟨e, p1, t1⟩ := x
      rw [hr] at this
      obtain ⟨S1, Q, k1, m, a1, a2, a3, a4, a5, a6, a7, a8, a9, a9', a10⟩ := this
      rw [List.append_nil] at a2
      have ei : inn Q = -1 := by rw [← List.append_nil Q, inn_app (fun y hy => by have := a8 y hy; omega)]; rfl
      obtain ⟨S2, b1, b2, b3, b4⟩ := hd6_4 (X := X) (d := 7) (by omega) hT (ts := 1) a2 a8
      have hl := stl_lo (ord := ord) (m := k) Q (IM ord S1) k1 a10 (fun y hy w => ((a3.2 y hy).2 w).1)
      refine ⟨S2, _, m, ev ?_, b2, by rw [b3]; exact a3.1, a4, fun i hi => ?_, a6, (hF0.tr a7).tr b4⟩
      · rw [ent, a1, hd6_2 a2.1.2.2.2 (fun {cm cp L st} => z195d (by omega) hT a2 a9 a9' ei)]; exact b1
      · rw [b3, hl.1 i hi, a5 i hi, hI0]
