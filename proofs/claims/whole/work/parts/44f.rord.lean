/-! the reference reads orders -/
def FrTo (S S' : zS) : Prop := Dyn S S' ∧ (∀ a i, ¬ (a = 72 ∧ ((13 ≤ i ∧ i ≤ 16) ∨ (18 ≤ i ∧ i ≤ 21) ∨ i = 23 ∨ i = 26 ∨ i = 29 ∨ i = 30)) → ¬ (82 ≤ a ∧ a ≤ 86) → a ≠ 112 → gI S' a i = gI S a i) ∧ (∀ a i, ¬ (a = 72 ∧ i = 17) → gJ S' a i = gJ S a i) ∧ (∀ a i, gQ S' a i = gQ S a i)
theorem FrTo.rf {S : zS} : FrTo S S := ⟨Dyn.rf, fun _ _ _ _ _ => rfl, fun _ _ _ => rfl, fun _ _ => rfl⟩
theorem FrTo.tr {A B C : zS} (h1 : FrTo A B) (h2 : FrTo B C) : FrTo A C := ⟨h1.1.tr h2.1, fun a i q1 q2 q3 => (h2.2.1 a i q1 q2 q3).trans (h1.2.1 a i q1 q2 q3), fun a i q => (h2.2.2.1 a i q).trans (h1.2.2.1 a i q), fun a i => (h2.2.2.2 a i).trans (h1.2.2.2 a i)⟩
theorem FrTx.o {A B : zS} (h : FrTx A B) : FrTo A B := ⟨h.1, fun a i q1 q2 _ => h.2.1 a i q1 q2, h.2.2.1, h.2.2.2⟩
theorem FrOw.t {A B : zS} (h : FrOw A B) : FrTo A B := ⟨h.1, fun a i q1 q2 q3 => h.2.1 a i (by omega) (by omega) q3, h.2.2.1, h.2.2.2⟩
theorem endS_Fo {S : zS} : FrTo S (endS S) := endS_F.o
abbrev L264 : zL := [some (.ref 72), none, none, none]
theorem ex260 {X : zX} {d : Nat} (hd : 9 < d) {b : Int → Int} {n : Int} {T t : Nat} (hT : RTape b n T) {S : zS} (hK : KW S) (hL : KO S) {nc k : Int} {p : Nat × Int} (h : RE S b n T t 1 p k) (h21 : gI S 72 21 = nc) (hnc : 0 ≤ nc ∧ nc ≤ 12) : ∃ S' : zS, ∀ {cm cp : Nat} {L : zL} {st : List Value}, z_evc X d 260 [.ref 72] (cm, cp, L, st, mk S) = z_ev X d (cm, cp, L, st, mk S') := by
  by_cases q : nc = 12
  · exact ⟨badS S, fun {cm cp L st} => y260 hd hT hL h h21 hnc (Or.inl q)⟩
  · have := z260 (X := X) (d := d) hd hT hK hL h h21 (by omega)
    cases hr : pCl b n 1 p t with
    | inl e => rw [hr] at this; obtain ⟨S', a1, -⟩ := this; exact ⟨S', a1⟩
    | inr x => obtain ⟨cl, p1, t1⟩ := x; rw [hr] at this; obtain ⟨S', k1, a1, -⟩ := this; exact ⟨S', a1⟩
def ROx (S : zS) (k : Int) (cls : List Cl) : Prop := ∀ (j : Nat) (cl : Cl), cls[j]? = some cl → ROc (IM 1 S) k (gI S 112) j cl
theorem ref_ord {X : zX} {d : Nat} (hd : 9 < d) {b : Int → Int} {n : Int} {T : Nat} (hT : RTape b n T) : ∀ (m : Nat) (acc : List Cl) (p : Nat × Int) (t : Nat) (S : zS) (k : Int), m + acc.length = 12 → RE S b n T t 1 p k → KW S → KO S → gI S 72 21 = acc.length → ROx S k acc → match pText (tc b n) (pCl b n 1) m acc p t with
  | .inl e => ∃ S' : zS, z_evc X d 260 [.ref 72] (264, 19, L264, [], mk S) = z_ev X d (264, 50, L264, [], mk S') ∧ RBad S' (tpos b n e) ∧ FrTo S S' ∧ EndT S'
  | .inr (cls, p1) => ∃ (S' : zS) (k1 : Int), z_evc X d 260 [.ref 72] (264, 19, L264, [], mk S) = z_ev X d (264, 50, L264, [], mk S') ∧ gI S' 72 19 = 0 ∧ gI S' 72 23 = k1 ∧ (0 ≤ k1 ∧ k1 ≤ 400) ∧ gI S' 72 21 = cls.length ∧ (1 ≤ cls.length ∧ cls.length ≤ 12) ∧ ROx S' k1 cls ∧ FrTo S S' ∧ EndT S' ∧ gI S' 72 18 = -1 := by
  intro m
  have badEnd : ∀ (S S1 : zS) (f : Int), RBad S1 f → FrTo S S1 → (∀ {cm cp : Nat} {L : zL} {st : List Value}, z_evc X d 260 [.ref 72] (cm, cp, L, st, mk S) = z_ev X d (cm, cp, L, st, mk S1)) → ∃ S' : zS, z_evc X d 260 [.ref 72] (264, 19, L264, [], mk S) = z_ev X d (264, 50, L264, [], mk S') ∧ RBad S' f ∧ FrTo S S' ∧ EndT S' := by
    intro S S1 f h1 h2 h3
    have k198 := fun {cm cp : Nat} {L : zL} {st : List Value} => z198 (X := X) (d := d) (by omega) (Or.inl h1.1) (cm := cm) (cp := cp) (L := L) (st := st)
    have h19 := h1.1
    refine ⟨endS S1, ?_, ⟨by rw [endS_o (by omega)]; exact h19, by rw [endS_o (by omega)]; exact h1.2⟩, h2.tr endS_Fo, endS_0⟩
    rw [h3]
    simp (disch := first | omega | assumption | exact b01_rng _ | exact st_5 | exact st_12 | exact st_19 | (simp only [isSt_sI, isSt_sJ, isSt_sF, isSt_sG, isSt_sA]; assumption)) only [↓B264_0, ↓B264_15, ↓B264_19, ↓B264_26, ↓B264_32, ↓B264_35, ↓B264_39, ↓B264_43, ↓B264_46, ↓B264_57, ↓B264_63, ↓B264_64, ↓B264_70, ↓B264_77, ↓B264_84, ↓B264_102, ↓B264_104, ↓B264_110, ↓B264_128, ↓B264_140, ↓B264_148, ↓B264_150, ↓B264_166, ↓B264_174, ↓B264_177, ↓B264_182, ↓B264_193, ↓B264_194, ↓B264_200, ↓B264_206, ↓B264_214, ↓a_112, ↓a_77, ↓a_78, ↓a_79, ↓a_80, ↓n_112, ↓n_77, ↓n_78, ↓n_79, ↓n_80, ↓o_72, ↓r_72_10, ↓r_72_19, ↓r_72_21, ↓r_72_6, ↓r_72_64, ↓r_72_65, ↓r_72_7, ↓r_72_8, ↓r_72_9, ↓s_112, ↓s_77, ↓s_78, ↓s_79, ↓s_80, ↓w_72_0, ↓w_72_65, ↓w_72_66, ↓w_72_67, k198, i_lit, i_add, i_sub, i_mul, i_neg, i_lt, i_le, i_eq, i32_gI, i64_gJ, i32_id, i32_to, i64_to, sI_i32, sJ_i64, b01_t, b01_f, i32_b01, b01_0, ↓a_s0, ↓n_s0, ↓a_s1, ↓n_s1, Int.add_zero, t_lt, f_lt, t_le, f_le, t_eq, f_eq, true_and, and_true, false_and, and_false, and_self, ↓reduceIte, z_bool_of, or_true, true_or, or_false, false_or, Int.neg_neg, not_true_eq_false, not_false_eq_true, lg_lt, lg_le, lg_gt, lg_ge, lg_eq, j_lit, j_add, j_sub, j_mul, j_neg, j_eq, i64_id, ij, ji, z_rt, Nat.reduceEqDiff, Nat.reduceAdd, Int.reduceAdd, Int.reduceSub, Int.reduceMul, Int.reduceNeg, Int.reduceLT, Int.reduceLE, Int.reduceEq, h19]
  induction m with
  | zero =>
    intro acc p t S k hm h hK hL h21 hR
    obtain ⟨c1, c2⟩ := h.bad hT
    show ∃ S' : zS, z_evc X d 260 [.ref 72] (264, 19, L264, [], mk S) = z_ev X d (264, 50, L264, [], mk S') ∧ RBad S' (tpos b n t) ∧ FrTo S S' ∧ EndT S'
    exact badEnd S (badS S) _ c1 c2.o.t (fun {cm cp L st} => y260 hd hT hL h h21 (by omega) (Or.inl (by omega)))
  | succ m ih =>
    intro acc p t S k hm h hK hL h21 hR
    have := z260 (X := X) (d := d) hd hT hK hL h h21 (by omega)
    have ep : pText (tc b n) (pCl b n 1) (m + 1) acc p t = (match pCl b n 1 p t with
      | .inl e => .inl e
      | .inr (cl, p1, t1) => if tc b n t1 = 59 then pText (tc b n) (pCl b n 1) m (acc ++ [cl]) p1 (t1 + 1) else if tc b n t1 = 301 then .inr (acc ++ [cl], p1) else .inl t1) := rfl
    rw [ep]
    cases hr : pCl b n 1 p t with
    | inl e =>
      rw [hr] at this
      obtain ⟨S1, a1, a2, a3⟩ := this
      exact badEnd S S1 _ a2 a3.t a1
    | inr x =>
      obtain ⟨cl, p1, t1⟩ := x
      rw [hr] at this
      obtain ⟨S1, k1, a1, a2, a3, a4, a5, a6, a7, a8, a9⟩ := this
      have h19 := a2.1.2.2.2
      have w59 : (gI S1 72 16 = 3 ∧ gJ S1 72 17 = 59) = (tc b n t1 = 59) := a2.1.s hT.1 (c := 59) (by omega) (by unfold isL; omega) (by unfold isD; omega)
      have we : (gI S1 72 16 = 0) = (tc b n t1 = 301) := by rw [a2.1.2.2.1.2.2.1]; exact mE hT.1 t1
      have hlen : (acc ++ [cl]).length = acc.length + 1 := by rw [List.length_append]; rfl
      have hR1 : ROx S1 k1 (acc ++ [cl]) := by
        intro j c hj
        by_cases q : j = acc.length
        · subst q
          rw [List.getElem?_append_right (Nat.le_refl _), Nat.sub_self] at hj
          have : cl = c := Option.some.inj hj
          rw [← this]; exact a4
        · have hlt : j < acc.length := by
            have := (List.getElem?_eq_some_iff.mp hj).1
            omega
          rw [List.getElem?_append_left hlt] at hj
          exact (hR j c hj).cg a5 a8 (fun i q1 q2 => a6 i (by omega))
      have ht3 := hT.2.2
      have h400 := a2.2.2.2.2
      have h4001 := a2.2.1.1
      show match (if tc b n t1 = 59 then pText (tc b n) (pCl b n 1) m (acc ++ [cl]) p1 (t1 + 1) else if tc b n t1 = 301 then (.inr (acc ++ [cl], p1) : pT) else .inl t1) with
        | .inl e => _
        | .inr (cls, p1) => _
      by_cases q1 : tc b n t1 = 59
      · rw [if_pos q1]
        have htT := tc_lt hT.2.1 (t := t1) (by omega)
        obtain ⟨S2, b1, b2, b3⟩ := z176 (X := X) (d := d) (by omega) hT.1 a2.1
        have hS2 := a2.nx b2 b3 (by omega) (by omega)
        have hF2 : FrOw S S2 := a9.tr b3.e.o
        have hK2 : KW S2 := hK.fr (fun a i q => hF2.2.2.1 a i (by omega))
        have hL2 : KO S2 := by unfold KO; rw [hF2.2.2.1 _ _ (by omega), hF2.2.2.1 _ _ (by omega), hF2.2.2.1 _ _ (by omega), hF2.2.2.1 _ _ (by omega)]; exact hL
        have g21 : gI S2 72 21 = (acc ++ [cl]).length := by rw [b3.2.1 _ _ (by omega), a3, hlen]; omega
        have hR2 : ROx S2 k1 (acc ++ [cl]) := fun j c hj => (hR1 j c hj).cg (fun i _ => by rw [IM_fr (S := S1) (fun a i q => b3.2.1 _ _ (by omega))]) (Int.le_refl _) (fun i _ _ => b3.2.1 _ _ (by omega))
        obtain ⟨S3, e3⟩ := ex260 (X := X) (d := d) hd hT hK2 hL2 hS2 g21 (by omega)
        have ih' := ih (acc ++ [cl]) p1 (t1 + 1) S2 k1 (by omega) hS2 hK2 hL2 g21 hR2
        have step : z_evc X d 260 [.ref 72] (264, 19, L264, [], mk S) = z_evc X d 260 [.ref 72] (264, 19, L264, [], mk S2) := by
          rw [a1, e3, B264_19]
          simp (disch := first | omega | assumption | exact b01_rng _ | exact st_5 | exact st_12 | exact st_19 | (simp only [isSt_sI, isSt_sJ, isSt_sF, isSt_sG, isSt_sA]; assumption)) only [↓B264_0, ↓B264_15, ↓B264_26, ↓B264_32, ↓B264_35, ↓B264_39, ↓B264_43, ↓B264_46, ↓B264_50, ↓B264_57, ↓B264_63, ↓B264_64, ↓B264_70, ↓B264_77, ↓B264_84, ↓B264_102, ↓B264_104, ↓B264_110, ↓B264_128, ↓B264_140, ↓B264_148, ↓B264_150, ↓B264_166, ↓B264_174, ↓B264_177, ↓B264_182, ↓B264_193, ↓B264_194, ↓B264_200, ↓B264_206, ↓B264_214, ↓a_112, ↓a_77, ↓a_78, ↓a_79, ↓a_80, ↓n_112, ↓n_77, ↓n_78, ↓n_79, ↓n_80, ↓o_72, ↓r_72_10, ↓r_72_19, ↓r_72_21, ↓r_72_6, ↓r_72_64, ↓r_72_65, ↓r_72_7, ↓r_72_8, ↓r_72_9, ↓s_112, ↓s_77, ↓s_78, ↓s_79, ↓s_80, ↓w_72_0, ↓w_72_65, ↓w_72_66, ↓w_72_67, c178, b1, e3, i_lit, i_add, i_sub, i_mul, i_neg, i_lt, i_le, i_eq, i32_gI, i64_gJ, i32_id, i32_to, i64_to, sI_i32, sJ_i64, b01_t, b01_f, i32_b01, b01_0, ↓a_s0, ↓n_s0, ↓a_s1, ↓n_s1, Int.add_zero, t_lt, f_lt, t_le, f_le, t_eq, f_eq, true_and, and_true, false_and, and_false, and_self, ↓reduceIte, z_bool_of, or_true, true_or, or_false, false_or, Int.neg_neg, not_true_eq_false, not_false_eq_true, lg_lt, lg_le, lg_gt, lg_ge, lg_eq, j_lit, j_add, j_sub, j_mul, j_neg, j_eq, i64_id, ij, ji, z_rt, Nat.reduceEqDiff, Nat.reduceAdd, Int.reduceAdd, Int.reduceSub, Int.reduceMul, Int.reduceNeg, Int.reduceLT, Int.reduceLE, Int.reduceEq, h19, w59, q1]
        rw [step]
        cases hr2 : pText (tc b n) (pCl b n 1) m (acc ++ [cl]) p1 (t1 + 1) with
        | inl e2 =>
          rw [hr2] at ih'
          obtain ⟨S4, c1, c2, c3⟩ := ih'
          exact ⟨S4, c1, c2, hF2.t.tr c3.1, c3.2⟩
        | inr y =>
          obtain ⟨cls, p2⟩ := y
          rw [hr2] at ih'
          obtain ⟨S4, k4, c1, c2, c3, c4, c5, c6, c7, c8⟩ := ih'
          exact ⟨S4, k4, c1, c2, c3, c4, c5, c6, c7, hF2.t.tr c8.1, c8.2⟩
      · rw [if_neg q1]
        by_cases q2 : tc b n t1 = 301
        · rw [if_pos q2]
          have we' : gI S1 72 16 = 0 := by rw [we]; exact q2
          have k198 := fun {cm cp : Nat} {L : zL} {st : List Value} => z198 (X := X) (d := d) (by omega) (Or.inr ⟨h19, we'⟩) (cm := cm) (cp := cp) (L := L) (st := st)
          refine ⟨endS S1, k1, ?_, by rw [endS_o (by omega)]; exact h19, by rw [endS_o (by omega)]; exact h400.1, by omega, by rw [endS_o (by omega), a3, hlen]; omega, by omega, fun j c hj => (hR1 j c hj).cg (fun i _ => by rw [IM_fr (S := S1) (fun a i q => endS_o (by omega))]) (Int.le_refl _) (fun i _ _ => endS_o (by omega)), a9.t.tr endS_Fo, endS_0, by rw [endS_o (by omega)]; exact a2.2.1.2⟩
          rw [a1]
          simp (disch := first | omega | assumption | exact b01_rng _ | exact st_5 | exact st_12 | exact st_19 | (simp only [isSt_sI, isSt_sJ, isSt_sF, isSt_sG, isSt_sA]; assumption)) only [↓B264_0, ↓B264_15, ↓B264_19, ↓B264_26, ↓B264_32, ↓B264_35, ↓B264_39, ↓B264_43, ↓B264_46, ↓B264_57, ↓B264_63, ↓B264_64, ↓B264_70, ↓B264_77, ↓B264_84, ↓B264_102, ↓B264_104, ↓B264_110, ↓B264_128, ↓B264_140, ↓B264_148, ↓B264_150, ↓B264_166, ↓B264_174, ↓B264_177, ↓B264_182, ↓B264_193, ↓B264_194, ↓B264_200, ↓B264_206, ↓B264_214, ↓a_112, ↓a_77, ↓a_78, ↓a_79, ↓a_80, ↓n_112, ↓n_77, ↓n_78, ↓n_79, ↓n_80, ↓o_72, ↓r_72_10, ↓r_72_19, ↓r_72_21, ↓r_72_6, ↓r_72_64, ↓r_72_65, ↓r_72_7, ↓r_72_8, ↓r_72_9, ↓s_112, ↓s_77, ↓s_78, ↓s_79, ↓s_80, ↓w_72_0, ↓w_72_65, ↓w_72_66, ↓w_72_67, c178, k198, i_lit, i_add, i_sub, i_mul, i_neg, i_lt, i_le, i_eq, i32_gI, i64_gJ, i32_id, i32_to, i64_to, sI_i32, sJ_i64, b01_t, b01_f, i32_b01, b01_0, ↓a_s0, ↓n_s0, ↓a_s1, ↓n_s1, Int.add_zero, t_lt, f_lt, t_le, f_le, t_eq, f_eq, true_and, and_true, false_and, and_false, and_self, ↓reduceIte, z_bool_of, or_true, true_or, or_false, false_or, Int.neg_neg, not_true_eq_false, not_false_eq_true, lg_lt, lg_le, lg_gt, lg_ge, lg_eq, j_lit, j_add, j_sub, j_mul, j_neg, j_eq, i64_id, ij, ji, z_rt, Nat.reduceEqDiff, Nat.reduceAdd, Int.reduceAdd, Int.reduceSub, Int.reduceMul, Int.reduceNeg, Int.reduceLT, Int.reduceLE, Int.reduceEq, h19, w59, q1]
        · rw [if_neg q2]
          have we' : gI S1 72 16 ≠ 0 := by intro w; rw [we] at w; exact q2 w
          obtain ⟨c1, c2⟩ := a2.bad hT
          have k198 := fun {cm cp : Nat} {L : zL} {st : List Value} => y198 (X := X) (d := d) (by omega) h19 we' (cm := cm) (cp := cp) (L := L) (st := st)
          refine ⟨endS (badS S1), ?_, ⟨by rw [endS_o (by omega)]; exact c1.1, by rw [endS_o (by omega)]; exact c1.2⟩, (a9.t.tr c2.o.t).tr endS_Fo, endS_0⟩
          rw [a1]
          simp (disch := first | omega | assumption | exact b01_rng _ | exact st_5 | exact st_12 | exact st_19 | (simp only [isSt_sI, isSt_sJ, isSt_sF, isSt_sG, isSt_sA]; assumption)) only [↓B264_0, ↓B264_15, ↓B264_19, ↓B264_26, ↓B264_32, ↓B264_35, ↓B264_39, ↓B264_43, ↓B264_46, ↓B264_57, ↓B264_63, ↓B264_64, ↓B264_70, ↓B264_77, ↓B264_84, ↓B264_102, ↓B264_104, ↓B264_110, ↓B264_128, ↓B264_140, ↓B264_148, ↓B264_150, ↓B264_166, ↓B264_174, ↓B264_177, ↓B264_182, ↓B264_193, ↓B264_194, ↓B264_200, ↓B264_206, ↓B264_214, ↓a_112, ↓a_77, ↓a_78, ↓a_79, ↓a_80, ↓n_112, ↓n_77, ↓n_78, ↓n_79, ↓n_80, ↓o_72, ↓r_72_10, ↓r_72_19, ↓r_72_21, ↓r_72_6, ↓r_72_64, ↓r_72_65, ↓r_72_7, ↓r_72_8, ↓r_72_9, ↓s_112, ↓s_77, ↓s_78, ↓s_79, ↓s_80, ↓w_72_0, ↓w_72_65, ↓w_72_66, ↓w_72_67, c178, k198, i_lit, i_add, i_sub, i_mul, i_neg, i_lt, i_le, i_eq, i32_gI, i64_gJ, i32_id, i32_to, i64_to, sI_i32, sJ_i64, b01_t, b01_f, i32_b01, b01_0, ↓a_s0, ↓n_s0, ↓a_s1, ↓n_s1, Int.add_zero, t_lt, f_lt, t_le, f_le, t_eq, f_eq, true_and, and_true, false_and, and_false, and_self, ↓reduceIte, z_bool_of, or_true, true_or, or_false, false_or, Int.neg_neg, not_true_eq_false, not_false_eq_true, lg_lt, lg_le, lg_gt, lg_ge, lg_eq, j_lit, j_add, j_sub, j_mul, j_neg, j_eq, i64_id, ij, ji, z_rt, Nat.reduceEqDiff, Nat.reduceAdd, Int.reduceAdd, Int.reduceSub, Int.reduceMul, Int.reduceNeg, Int.reduceLT, Int.reduceLE, Int.reduceEq, h19, w59, q1]
