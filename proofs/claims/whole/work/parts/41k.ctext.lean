/-! a text of clauses, as the class reads it -/
abbrev pT : Type := Nat ⊕ (List Cl × (Nat × Int))
def pText (c : Nat → Int) (Cs : Nat × Int → Nat → pC) : Nat → List Cl → Nat × Int → Nat → pT
  | 0, _, _, t => .inl t
  | m + 1, acc, p, t => match Cs p t with
    | .inl e => .inl e
    | .inr (cl, p1, t1) => if c t1 = 59 then pText c Cs m (acc ++ [cl]) p1 (t1 + 1) else if c t1 = 301 then .inr (acc ++ [cl], p1) else .inl t1
/-- the clauses lie there -/
def CTx (I : Ins) (sz : Int) (g : Int → Int) (cls : List Cl) : Prop := ∀ (j : Nat) (cl : Cl), cls[j]? = some cl → CCl I sz g j cl
theorem CCl.cg {I I' : Ins} {sz sz' : Int} {g g' : Int → Int} {q : Int} {cl : Cl} (h : CCl I sz g q cl) (hI : ∀ i, 0 ≤ i → i < sz → I' i = I i) (hs : sz ≤ sz') (hg : ∀ i, 5 * q ≤ i → i < 5 * q + 5 → g' i = g i) : CCl I' sz' g' q cl := by
  obtain ⟨h1, h2, h3, h4, h5⟩ := h
  exact ⟨by rw [hg _ (by omega) (by omega)]; exact h1, by rw [hg _ (by omega) (by omega)]; exact h2, by rw [hg _ (by omega) (by omega)]; exact h3.cg hI hs, by rw [hg _ (by omega) (by omega)]; exact h4.cg hI hs, by rw [hg _ (by omega) (by omega)]; exact h5.cg hI hs⟩
def AllOK (cls : List Cl) (z : Int) : Prop := ∀ cl ∈ cls, ClOK cl z
/-- how a text comes out -/
def OutT (b : Int → Int) (n : Int) (S : zS) (r : pT) (z : Option (Option Value × zM)) : Prop := match r with
  | .inl e => ∃ S' : zS, z = some (some (.int (Int32.ofInt 0)), mk S') ∧ gI S' 37 5 = tpos b n e ∧ FrL (sI S 52 1 (gI S' 52 1)) S'
  | .inr (cls, p) => ∃ S' : zS, z = some (some (.int (Int32.ofInt 1)), mk S') ∧ gI S' 37 5 = -1 ∧ FrL (sI S 52 1 (gI S' 52 1)) S' ∧ gI S' 53 2 = cls.length ∧ (1 ≤ cls.length ∧ cls.length ≤ 12) ∧ (0 ≤ gI S' 53 3 ∧ gI S' 53 3 ≤ 436) ∧ CTx (IC S') (gI S' 53 3) (gI S' 55) cls ∧ AllOK cls p.2 ∧ gI S' 53 4 = p.2 ∧ (p.2 = 0 ∨ p.2 = 1)
theorem text_row {X : zX} {d : Nat} (hd : 40 ≤ d) {b : Int → Int} {n : Int} {T : Nat} (hn : 0 ≤ n ∧ n ≤ 400) {ord x2 : Int} {S0 : zS} (h520 : gI S0 52 1 = ord) : ∀ (m : Nat) (acc : List Cl) (p : Nat × Int) (t : Nat) (S : zS) (x3 : Int), m + acc.length = 12 → AlT S b n T t → FrL S0 S → LK S ord p → gI S 53 2 = acc.length → 0 ≤ gI S 53 3 → gI S 53 3 ≤ t + 3 * acc.length → CTx (IC S) (gI S 53 3) (gI S 55) acc → AllOK acc p.2 → (x3 = 1) → ∃ r, r = pText (tc b n) (pClause (tc b n) (tv b n) ord (pSum (tc b n) (tv b n) ord 8) (pTest (tc b n) (tv b n) ord 8)) m acc p t ∧ (match r with
  | .inl e => ∃ S' : zS, z_ev X d (1, 39, [some (.ref 52), some (.ref 37), some (.int (Int32.ofInt x2)), some (.int (Int32.ofInt x3)), some (.int (Int32.ofInt acc.length))], [], mk S) = some (some (.int (Int32.ofInt 0)), mk S') ∧ gI S' 37 5 = tpos b n e ∧ FrL S0 S'
  | .inr (cls, p1) => ∃ S' : zS, z_ev X d (1, 39, [some (.ref 52), some (.ref 37), some (.int (Int32.ofInt x2)), some (.int (Int32.ofInt x3)), some (.int (Int32.ofInt acc.length))], [], mk S) = some (some (.int (Int32.ofInt 1)), mk S') ∧ gI S' 37 5 = -1 ∧ FrL S0 S' ∧ gI S' 53 2 = cls.length ∧ (1 ≤ cls.length ∧ cls.length ≤ 12) ∧ (0 ≤ gI S' 53 3 ∧ gI S' 53 3 ≤ 436) ∧ CTx (IC S') (gI S' 53 3) (gI S' 55) cls ∧ AllOK cls p1.2 ∧ gI S' 53 4 = p1.2 ∧ (p1.2 = 0 ∨ p1.2 = 1)) := by
  intro m
  induction m with
  | zero => 
    intro acc p t S x3 hm h hF hL h2 h3 h4 hC hO hx3
    subst hx3
    have hT4 := h.1.1.2.2.1
    have htT := h.1.2.2
    -- the thirteenth clause
    refine ⟨_, rfl, ?_⟩
    have k92 := fun {cm cp : Nat} {L : zL} {s : List Value} => a92b (X := X) (d := d) (by omega) h hn (cm := cm) (cp := cp) (L := L) (st := s)
    have hD := h.die hn
    have hf : gI (sI S 37 5 (tpos b n t)) 37 5 ≠ -1 := by rw [hD.2.1]; exact hD.2.2
    have hne : ¬ (gI (sI S 37 5 (tpos b n t)) 37 5 = -1) := hf
    refine ⟨sI S 37 5 (tpos b n t), ?_, hD.2.1, hF.tr (FrL.I (by omega))⟩
    rw [B1_39]
    simp (disch := first | omega | assumption | exact b01_rng _ | exact st_5 | exact st_12 | exact st_19 | (simp only [isSt_sI, isSt_sJ, isSt_sF, isSt_sG, isSt_sA]; assumption)) only [↓B1_43, ↓B1_83, ↓B1_87, ↓B1_91, ↓B1_98, ↓B1_110, ↓B1_111, ↓o_37, ↓o_52, ↓r_37_5, ↓r_52_0, ↓r_53_2, ↓w_52_1, ↓w_52_2, ↓w_53_2, ↓w_53_3, ↓w_53_4, k92, c94a, i_lit, i_add, i_sub, i_mul, i_neg, i_lt, i_le, i_eq, i32_gI, i64_gJ, i32_id, i32_to, i64_to, sI_i32, sJ_i64, b01_t, b01_f, i32_b01, b01_0, ↓a_s0, ↓n_s0, ↓a_s1, ↓n_s1, Int.add_zero, t_lt, f_lt, t_le, f_le, t_eq, f_eq, true_and, and_true, false_and, and_false, and_self, ↓reduceIte, z_bool_of, or_true, true_or, or_false, false_or, Int.neg_neg, not_true_eq_false, not_false_eq_true, lg_lt, lg_le, lg_gt, lg_ge, lg_eq, j_lit, j_add, j_sub, j_mul, j_neg, j_eq, i64_id, ij, ji, z_rt, Nat.reduceEqDiff, Nat.reduceAdd, Int.reduceAdd, Int.reduceSub, Int.reduceMul, Int.reduceNeg, Int.reduceLT, Int.reduceLE, Int.reduceEq, hne]
  | succ m ih =>
    intro acc p t S x3 hm h hF hL h2 h3 h4 hC hO hx3
    subst hx3
    have hT4 := h.1.1.2.2.1
    have htT := h.1.2.2
    have hc := clause_al (X := X) (d := d - 1) (by omega) hn (q := acc.length) (by omega) (by omega) h hL
    have eP : pText (tc b n) (pClause (tc b n) (tv b n) ord (pSum (tc b n) (tv b n) ord 8) (pTest (tc b n) (tv b n) ord 8)) (m + 1) acc p t = (match pClause (tc b n) (tv b n) ord (pSum (tc b n) (tv b n) ord 8) (pTest (tc b n) (tv b n) ord 8) p t with
      | .inl e => .inl e
      | .inr (cl, p1, t1) => if tc b n t1 = 59 then pText (tc b n) (pClause (tc b n) (tv b n) ord (pSum (tc b n) (tv b n) ord 8) (pTest (tc b n) (tv b n) ord 8)) m (acc ++ [cl]) p1 (t1 + 1) else if tc b n t1 = 301 then .inr (acc ++ [cl], p1) else .inl t1) := by rw [pText]
    rw [eP]
    generalize hCs : pClause (tc b n) (tv b n) ord (pSum (tc b n) (tv b n) ord 8) (pTest (tc b n) (tv b n) ord 8) = Cs at *
    cases hr : Cs p t with
    | inl e =>
      rw [hr] at hc
      obtain ⟨S1, t', a1, a2, a3, a4⟩ := hc
      have k2 : ∀ {cm cp : Nat} {L : zL} {s : List Value}, z_evc X d 2 [.ref 52, .ref 37, .int (Int32.ofInt acc.length)] (cm, cp, L, s, mk S) = z_ev X d (cm, cp, L, s, mk S1) := fun {cm cp L s} => z_evc_of (r := (none, mk S1)) (ck := (cm, cp, L, s, mk S)) (show d - 1 < d by omega) a1
      have hf : gI (sI S1 53 2 (gI S1 53 2 + 1)) 37 5 = tpos b n e := by (repeat (first | rw [gI_sI, if_neg (by omega)] | rw [gI_sF, if_neg (by omega)] | rw [gI_sJ] | rw [gI_sG] | rw [gI_sQ])); exact a2.2.1
      have hf2 : gI (sI S1 53 2 (gI S1 53 2 + 1)) 37 5 ≠ -1 := by rw [hf]; exact a2.2.2
      have hne : ¬ (gI (sI S1 53 2 (gI S1 53 2 + 1)) 37 5 = -1) := hf2
      refine ⟨_, rfl, sI S1 53 2 (gI S1 53 2 + 1), ?_, hf, (hF.tr a3).tr (FrL.I (by omega))⟩
      rw [B1_39]
      simp (disch := first | omega | assumption | exact b01_rng _ | exact st_5 | exact st_12 | exact st_19 | (simp only [isSt_sI, isSt_sJ, isSt_sF, isSt_sG, isSt_sA]; assumption)) only [↓B1_43, ↓B1_50, ↓B1_57, ↓B1_76, ↓o_37, ↓o_52, ↓r_37_5, ↓r_52_0, ↓r_53_2, ↓w_52_1, ↓w_52_2, ↓w_53_2, ↓w_53_3, ↓w_53_4, k2, c93a, i_lit, i_add, i_sub, i_mul, i_neg, i_lt, i_le, i_eq, i32_gI, i64_gJ, i32_id, i32_to, i64_to, sI_i32, sJ_i64, b01_t, b01_f, i32_b01, b01_0, ↓a_s0, ↓n_s0, ↓a_s1, ↓n_s1, Int.add_zero, t_lt, f_lt, t_le, f_le, t_eq, f_eq, true_and, and_true, false_and, and_false, and_self, ↓reduceIte, z_bool_of, or_true, true_or, or_false, false_or, Int.neg_neg, not_true_eq_false, not_false_eq_true, lg_lt, lg_le, lg_gt, lg_ge, lg_eq, j_lit, j_add, j_sub, j_mul, j_neg, j_eq, i64_id, ij, ji, z_rt, Nat.reduceEqDiff, Nat.reduceAdd, Int.reduceAdd, Int.reduceSub, Int.reduceMul, Int.reduceNeg, Int.reduceLT, Int.reduceLE, Int.reduceEq]
      rw [B1_39]
      simp (disch := first | omega | assumption | exact b01_rng _ | exact st_5 | exact st_12 | exact st_19 | (simp only [isSt_sI, isSt_sJ, isSt_sF, isSt_sG, isSt_sA]; assumption)) only [↓B1_83, ↓B1_91, ↓B1_98, ↓B1_110, ↓B1_111, ↓o_37, ↓o_52, ↓r_37_5, ↓r_52_0, ↓r_53_2, ↓w_52_1, ↓w_52_2, ↓w_53_2, ↓w_53_3, ↓w_53_4, c94a, i_lit, i_add, i_sub, i_mul, i_neg, i_lt, i_le, i_eq, i32_gI, i64_gJ, i32_id, i32_to, i64_to, sI_i32, sJ_i64, b01_t, b01_f, i32_b01, b01_0, ↓a_s0, ↓n_s0, ↓a_s1, ↓n_s1, Int.add_zero, t_lt, f_lt, t_le, f_le, t_eq, f_eq, true_and, and_true, false_and, and_false, and_self, ↓reduceIte, z_bool_of, or_true, true_or, or_false, false_or, Int.neg_neg, not_true_eq_false, not_false_eq_true, lg_lt, lg_le, lg_gt, lg_ge, lg_eq, j_lit, j_add, j_sub, j_mul, j_neg, j_eq, i64_id, ij, ji, z_rt, Nat.reduceEqDiff, Nat.reduceAdd, Int.reduceAdd, Int.reduceSub, Int.reduceMul, Int.reduceNeg, Int.reduceLT, Int.reduceLE, Int.reduceEq, hne]
    | inr y =>
      obtain ⟨cl, p1, t1⟩ := y
      rw [hr] at hc
      obtain ⟨S1, a1, ⟨g1, g2, g3, g4, g5, g6, g7, g8, g9, g10⟩, a3, a4, a5⟩ := hc
      have k2 : ∀ {cm cp : Nat} {L : zL} {s : List Value}, z_evc X d 2 [.ref 52, .ref 37, .int (Int32.ofInt acc.length)] (cm, cp, L, s, mk S) = z_ev X d (cm, cp, L, s, mk S1) := fun {cm cp L s} => z_evc_of (r := (none, mk S1)) (ck := (cm, cp, L, s, mk S)) (show d - 1 < d by omega) a1
      have hz : p1.2 = 0 → p.2 = 0 := fun w => by have := hL.2.2.2.2.2; omega
      have elen : (acc ++ [cl]).length = acc.length + 1 := by rw [List.length_append]; rfl
      -- the count
      have h2' : gI S1 53 2 = acc.length := by rw [g10]; exact h2
      have hA2 : AlT (sI S1 53 2 (acc.length + 1 : Nat)) b n T t1 := g1.fr (fun a i w => by rw [gI_sI, if_neg (by omega)])
      have hL2' : LK (sI S1 53 2 (acc.length + 1 : Nat)) ord p1 := g3.fr (by (repeat (first | rw [gI_sI, if_neg (by omega)] | rw [gI_sF, if_neg (by omega)] | rw [gI_sJ] | rw [gI_sG] | rw [gI_sQ]))) (by (repeat (first | rw [gI_sI, if_neg (by omega)] | rw [gI_sF, if_neg (by omega)] | rw [gI_sJ] | rw [gI_sG] | rw [gI_sQ]))) (by (repeat (first | rw [gI_sI, if_neg (by omega)] | rw [gI_sF, if_neg (by omega)] | rw [gI_sJ] | rw [gI_sG] | rw [gI_sQ])))
      have hF2 : FrL S0 (sI S1 53 2 (acc.length + 1 : Nat)) := (hF.tr g2).tr (FrL.I (by omega))
      have e2 : gI (sI S1 53 2 (acc.length + 1 : Nat)) 53 2 = (acc ++ [cl]).length := by rw [elen, gI_sI, if_pos ⟨rfl, rfl⟩, i32_id (by omega) (by omega)]
      have e3 : gI (sI S1 53 2 (acc.length + 1 : Nat)) 53 3 = gI S1 53 3 := by (repeat (first | rw [gI_sI, if_neg (by omega)] | rw [gI_sF, if_neg (by omega)] | rw [gI_sJ] | rw [gI_sG] | rw [gI_sQ]))
      have e55 : gI (sI S1 53 2 (acc.length + 1 : Nat)) 55 = gI S1 55 := funext fun i => by (repeat (first | rw [gI_sI, if_neg (by omega)] | rw [gI_sF, if_neg (by omega)] | rw [gI_sJ] | rw [gI_sG] | rw [gI_sQ]))
      have eI : IC (sI S1 53 2 (acc.length + 1 : Nat)) = IC S1 := IC_fr (fun k => by (repeat (first | rw [gI_sI, if_neg (by omega)] | rw [gI_sF, if_neg (by omega)] | rw [gI_sJ] | rw [gI_sG] | rw [gI_sQ]))) (by (repeat (first | rw [gI_sI, if_neg (by omega)] | rw [gI_sF, if_neg (by omega)] | rw [gI_sJ] | rw [gI_sG] | rw [gI_sQ])))
      have hC2 : CTx (IC S1) (gI S1 53 3) (gI S1 55) (acc ++ [cl]) := by
        intro j c hj
        by_cases e : j = acc.length
        · subst e
          rw [List.getElem?_append_right (Nat.le_refl _), Nat.sub_self] at hj
          have : cl = c := Option.some.inj hj
          rw [← this]; exact a4
        · have hjl : j < acc.length := by
            have := (List.getElem?_eq_some_iff.mp hj).1
            rw [elen] at this; omega
          rw [List.getElem?_append_left hjl] at hj
          exact (hC j c hj).cg (fun i _ hi => g6.ic (g3.1.trans hL.1.symm) hi) g4 (fun i w1 w2 => g9 i (by omega))
      have hO2 : AllOK (acc ++ [cl]) p1.2 := fun c hc' => by
        rcases List.mem_append.mp hc' with w | w
        · exact (hO c w).mono hz
        · simp only [List.mem_cons, List.not_mem_nil, or_false] at w; rw [w]; exact a5
      have hrt := g1.1.1.rg g1.1.2.2
      have ht1T := g1.1.2.2
      have kn := fun {c : Int} (hc : r32 c) (hne : tc b n t1 ≠ c) {cm cp : Nat} {L : zL} {s : List Value} => a93b (X := X) (d := d) (by omega) hA2 hc hne (cm := cm) (cp := cp) (L := L) (st := s)
      have einc : gI S1 53 2 + 1 = ((acc.length + 1 : Nat) : Int) := by rw [h2']; omega
      generalize hZ : sI S1 53 2 (acc.length + 1 : Nat) = Z at *
      simp only []
      by_cases q : tc b n t1 = 59
      · rw [if_pos q]
        have ht1 := hA2.lt (by omega)
        have kc := fun {cm cp : Nat} {L : zL} {s : List Value} => a93c (X := X) (d := d) (by omega) hA2 (c := 59) q (by omega) (cm := cm) (cp := cp) (L := L) (st := s)
        have e55' : gI (sI Z 37 4 (t1 + 1 : Nat)) 55 = gI S1 55 := by rw [← e55]; funext i; (repeat (first | rw [gI_sI, if_neg (by omega)] | rw [gI_sF, if_neg (by omega)] | rw [gI_sJ] | rw [gI_sG] | rw [gI_sQ]))
        have eI' : IC (sI Z 37 4 (t1 + 1 : Nat)) = IC S1 := by rw [← eI]; exact IC_fr (fun k => by (repeat (first | rw [gI_sI, if_neg (by omega)] | rw [gI_sF, if_neg (by omega)] | rw [gI_sJ] | rw [gI_sG] | rw [gI_sQ]))) (by (repeat (first | rw [gI_sI, if_neg (by omega)] | rw [gI_sF, if_neg (by omega)] | rw [gI_sJ] | rw [gI_sG] | rw [gI_sQ])))
        have e3' : gI (sI Z 37 4 (t1 + 1 : Nat)) 53 3 = gI S1 53 3 := by (repeat (first | rw [gI_sI, if_neg (by omega)] | rw [gI_sF, if_neg (by omega)] | rw [gI_sJ] | rw [gI_sG] | rw [gI_sQ])); exact e3
        obtain ⟨r, hr1, hr2⟩ := ih (acc ++ [cl]) p1 (t1 + 1) (sI Z 37 4 (t1 + 1 : Nat)) 1 (by rw [elen]; omega) (hA2.go (by omega)) (hF2.tr (FrL.I (by omega))) (hL2'.fr (by (repeat (first | rw [gI_sI, if_neg (by omega)] | rw [gI_sF, if_neg (by omega)] | rw [gI_sJ] | rw [gI_sG] | rw [gI_sQ]))) (by (repeat (first | rw [gI_sI, if_neg (by omega)] | rw [gI_sF, if_neg (by omega)] | rw [gI_sJ] | rw [gI_sG] | rw [gI_sQ]))) (by (repeat (first | rw [gI_sI, if_neg (by omega)] | rw [gI_sF, if_neg (by omega)] | rw [gI_sJ] | rw [gI_sG] | rw [gI_sQ])))) (by (repeat (first | rw [gI_sI, if_neg (by omega)] | rw [gI_sF, if_neg (by omega)] | rw [gI_sJ] | rw [gI_sG] | rw [gI_sQ])); exact e2) (by rw [e3']; omega) (by rw [e3', elen]; omega) (by rw [eI', e3', e55']; exact hC2) hO2 rfl
        refine ⟨r, hr1, ?_⟩
        rw [show z_ev X d (1, 39, [some (.ref 52), some (.ref 37), some (.int (Int32.ofInt x2)), some (.int (Int32.ofInt 1)), some (.int (Int32.ofInt acc.length))], [], mk S) = z_ev X d (1, 39, [some (.ref 52), some (.ref 37), some (.int (Int32.ofInt x2)), some (.int (Int32.ofInt 1)), some (.int (Int32.ofInt (acc ++ [cl]).length))], [], mk (sI Z 37 4 (t1 + 1 : Nat))) from by
          rw [B1_39, show ((acc ++ [cl]).length : Int) = (acc.length : Int) + 1 from by rw [elen]; omega]
          simp (disch := first | omega | assumption | exact b01_rng _ | exact st_5 | exact st_12 | exact st_19 | (simp only [isSt_sI, isSt_sJ, isSt_sF, isSt_sG, isSt_sA]; assumption)) only [↓B1_43, ↓B1_50, ↓B1_57, ↓B1_76, ↓o_37, ↓o_52, ↓r_37_5, ↓r_52_0, ↓r_53_2, ↓w_52_1, ↓w_52_2, ↓w_53_2, ↓w_53_3, ↓w_53_4, k2, i_lit, i_add, i_sub, i_mul, i_neg, i_lt, i_le, i_eq, i32_gI, i64_gJ, i32_id, i32_to, i64_to, sI_i32, sJ_i64, b01_t, b01_f, i32_b01, b01_0, ↓a_s0, ↓n_s0, ↓a_s1, ↓n_s1, Int.add_zero, t_lt, f_lt, t_le, f_le, t_eq, f_eq, true_and, and_true, false_and, and_false, and_self, ↓reduceIte, z_bool_of, or_true, true_or, or_false, false_or, Int.neg_neg, not_true_eq_false, not_false_eq_true, lg_lt, lg_le, lg_gt, lg_ge, lg_eq, j_lit, j_add, j_sub, j_mul, j_neg, j_eq, i64_id, ij, ji, z_rt, Nat.reduceEqDiff, Nat.reduceAdd, Int.reduceAdd, Int.reduceSub, Int.reduceMul, Int.reduceNeg, Int.reduceLT, Int.reduceLE, Int.reduceEq, einc, hZ, kc]]
        exact hr2
      · rw [if_neg q]
        by_cases q2 : tc b n t1 = 301
        · rw [if_pos q2]
          have k94 := fun {cm cp : Nat} {L : zL} {s : List Value} => c94d (X := X) (d := d) (S := Z) (by omega) b n T t1 hA2.1 hA2.2 q2 (cm := cm) (cp := cp) (L := L) (st := s)
          have h5 := hA2.2
          refine ⟨_, rfl, Z, ?_, h5, hF2, e2, by rw [elen]; omega, by rw [e3]; omega, by rw [eI, e3, e55]; exact hC2, hO2, hL2'.2.2.2.2.1, hL2'.2.2.2.2.2⟩
          rw [B1_39]
          simp (disch := first | omega | assumption | exact b01_rng _ | exact st_5 | exact st_12 | exact st_19 | (simp only [isSt_sI, isSt_sJ, isSt_sF, isSt_sG, isSt_sA]; assumption)) only [↓B1_43, ↓B1_50, ↓B1_57, ↓B1_76, ↓o_37, ↓o_52, ↓r_37_5, ↓r_52_0, ↓r_53_2, ↓w_52_1, ↓w_52_2, ↓w_53_2, ↓w_53_3, ↓w_53_4, k2, i_lit, i_add, i_sub, i_mul, i_neg, i_lt, i_le, i_eq, i32_gI, i64_gJ, i32_id, i32_to, i64_to, sI_i32, sJ_i64, b01_t, b01_f, i32_b01, b01_0, ↓a_s0, ↓n_s0, ↓a_s1, ↓n_s1, Int.add_zero, t_lt, f_lt, t_le, f_le, t_eq, f_eq, true_and, and_true, false_and, and_false, and_self, ↓reduceIte, z_bool_of, or_true, true_or, or_false, false_or, Int.neg_neg, not_true_eq_false, not_false_eq_true, lg_lt, lg_le, lg_gt, lg_ge, lg_eq, j_lit, j_add, j_sub, j_mul, j_neg, j_eq, i64_id, ij, ji, z_rt, Nat.reduceEqDiff, Nat.reduceAdd, Int.reduceAdd, Int.reduceSub, Int.reduceMul, Int.reduceNeg, Int.reduceLT, Int.reduceLE, Int.reduceEq, einc, hZ, kn]
          rw [B1_39]
          simp (disch := first | omega | assumption | exact b01_rng _ | exact st_5 | exact st_12 | exact st_19 | (simp only [isSt_sI, isSt_sJ, isSt_sF, isSt_sG, isSt_sA]; assumption)) only [↓B1_83, ↓B1_91, ↓B1_98, ↓B1_106, ↓B1_111, ↓o_37, ↓o_52, ↓r_37_5, ↓r_52_0, ↓r_53_2, ↓w_52_1, ↓w_52_2, ↓w_53_2, ↓w_53_3, ↓w_53_4, k94, i_lit, i_add, i_sub, i_mul, i_neg, i_lt, i_le, i_eq, i32_gI, i64_gJ, i32_id, i32_to, i64_to, sI_i32, sJ_i64, b01_t, b01_f, i32_b01, b01_0, ↓a_s0, ↓n_s0, ↓a_s1, ↓n_s1, Int.add_zero, t_lt, f_lt, t_le, f_le, t_eq, f_eq, true_and, and_true, false_and, and_false, and_self, ↓reduceIte, z_bool_of, or_true, true_or, or_false, false_or, Int.neg_neg, not_true_eq_false, not_false_eq_true, lg_lt, lg_le, lg_gt, lg_ge, lg_eq, j_lit, j_add, j_sub, j_mul, j_neg, j_eq, i64_id, ij, ji, z_rt, Nat.reduceEqDiff, Nat.reduceAdd, Int.reduceAdd, Int.reduceSub, Int.reduceMul, Int.reduceNeg, Int.reduceLT, Int.reduceLE, Int.reduceEq, h5]
        · rw [if_neg q2]
          have k94 := fun {cm cp : Nat} {L : zL} {s : List Value} => a94b (X := X) (d := d) (by omega) hA2 hn (c := 301) (by omega) q2 (cm := cm) (cp := cp) (L := L) (st := s)
          have hD := hA2.die hn
          have hne : ¬ (gI (sI Z 37 5 (tpos b n t1)) 37 5 = -1) := by rw [hD.2.1]; exact hD.2.2
          refine ⟨_, rfl, sI Z 37 5 (tpos b n t1), ?_, hD.2.1, hF2.tr (FrL.I (by omega))⟩
          rw [B1_39]
          simp (disch := first | omega | assumption | exact b01_rng _ | exact st_5 | exact st_12 | exact st_19 | (simp only [isSt_sI, isSt_sJ, isSt_sF, isSt_sG, isSt_sA]; assumption)) only [↓B1_43, ↓B1_50, ↓B1_57, ↓B1_76, ↓o_37, ↓o_52, ↓r_37_5, ↓r_52_0, ↓r_53_2, ↓w_52_1, ↓w_52_2, ↓w_53_2, ↓w_53_3, ↓w_53_4, k2, i_lit, i_add, i_sub, i_mul, i_neg, i_lt, i_le, i_eq, i32_gI, i64_gJ, i32_id, i32_to, i64_to, sI_i32, sJ_i64, b01_t, b01_f, i32_b01, b01_0, ↓a_s0, ↓n_s0, ↓a_s1, ↓n_s1, Int.add_zero, t_lt, f_lt, t_le, f_le, t_eq, f_eq, true_and, and_true, false_and, and_false, and_self, ↓reduceIte, z_bool_of, or_true, true_or, or_false, false_or, Int.neg_neg, not_true_eq_false, not_false_eq_true, lg_lt, lg_le, lg_gt, lg_ge, lg_eq, j_lit, j_add, j_sub, j_mul, j_neg, j_eq, i64_id, ij, ji, z_rt, Nat.reduceEqDiff, Nat.reduceAdd, Int.reduceAdd, Int.reduceSub, Int.reduceMul, Int.reduceNeg, Int.reduceLT, Int.reduceLE, Int.reduceEq, einc, hZ, kn]
          rw [B1_39]
          simp (disch := first | omega | assumption | exact b01_rng _ | exact st_5 | exact st_12 | exact st_19 | (simp only [isSt_sI, isSt_sJ, isSt_sF, isSt_sG, isSt_sA]; assumption)) only [↓B1_83, ↓B1_91, ↓B1_98, ↓B1_110, ↓B1_111, ↓o_37, ↓o_52, ↓r_37_5, ↓r_52_0, ↓r_53_2, ↓w_52_1, ↓w_52_2, ↓w_53_2, ↓w_53_3, ↓w_53_4, k94, i_lit, i_add, i_sub, i_mul, i_neg, i_lt, i_le, i_eq, i32_gI, i64_gJ, i32_id, i32_to, i64_to, sI_i32, sJ_i64, b01_t, b01_f, i32_b01, b01_0, ↓a_s0, ↓n_s0, ↓a_s1, ↓n_s1, Int.add_zero, t_lt, f_lt, t_le, f_le, t_eq, f_eq, true_and, and_true, false_and, and_false, and_self, ↓reduceIte, z_bool_of, or_true, true_or, or_false, false_or, Int.neg_neg, not_true_eq_false, not_false_eq_true, lg_lt, lg_le, lg_gt, lg_ge, lg_eq, j_lit, j_add, j_sub, j_mul, j_neg, j_eq, i64_id, ij, ji, z_rt, Nat.reduceEqDiff, Nat.reduceAdd, Int.reduceAdd, Int.reduceSub, Int.reduceMul, Int.reduceNeg, Int.reduceLT, Int.reduceLE, Int.reduceEq, hne]
noncomputable def pTx (b : Int → Int) (n ord : Int) : pT := pText (tc b n) (pClause (tc b n) (tv b n) ord (pSum (tc b n) (tv b n) ord 8) (pTest (tc b n) (tv b n) ord 8)) 12 [] (0, 0) 0
/-- readText of laws and orders -/
theorem text_al {X : zX} {d : Nat} (hd : 40 ≤ d) {b : Int → Int} {n : Int} {T : Nat} (hn : 0 ≤ n ∧ n ≤ 400) {ord : Int} (ho : ord = 0 ∨ ord = 1) {S : zS} (h : AlT S b n T 0) : (match pTx b n ord with
  | .inl e => ∃ S' : zS, z_ev X d (z_entry 1 [.ref 52, .ref 37, .int (Int32.ofInt ord)] (mk S)) = some (some (.int (Int32.ofInt 0)), mk S') ∧ gI S' 37 5 = tpos b n e ∧ FrL (sI (sI S 52 1 ord) 52 2 0) S'
  | .inr (cls, p1) => ∃ S' : zS, z_ev X d (z_entry 1 [.ref 52, .ref 37, .int (Int32.ofInt ord)] (mk S)) = some (some (.int (Int32.ofInt 1)), mk S') ∧ gI S' 37 5 = -1 ∧ FrL (sI (sI S 52 1 ord) 52 2 0) S' ∧ gI S' 53 2 = cls.length ∧ (1 ≤ cls.length ∧ cls.length ≤ 12) ∧ (0 ≤ gI S' 53 3 ∧ gI S' 53 3 ≤ 436) ∧ CTx (IC S') (gI S' 53 3) (gI S' 55) cls ∧ AllOK cls p1.2 ∧ gI S' 53 4 = p1.2 ∧ (p1.2 = 0 ∨ p1.2 = 1)) := by
  have e0 : z_ev X d (z_entry 1 [.ref 52, .ref 37, .int (Int32.ofInt ord)] (mk S)) = z_ev X d (1, 39, [some (.ref 52), some (.ref 37), some (.int (Int32.ofInt ord)), some (.int (Int32.ofInt 1)), some (.int (Int32.ofInt (([] : List Cl).length)))], [], mk (sI (sI (sI (sI (sI S 53 2 0) 53 3 0) 53 4 0) 52 1 ord) 52 2 0)) := by
    show z_ev X d (1, 0, [some (.ref 52), some (.ref 37), some (.int (Int32.ofInt ord)), none, none], [], mk S) = _
    simp (disch := first | omega | assumption | exact b01_rng _ | exact st_5 | exact st_12 | exact st_19 | (simp only [isSt_sI, isSt_sJ, isSt_sF, isSt_sG, isSt_sA]; assumption)) only [↓B1_0, ↓o_37, ↓o_52, ↓r_37_5, ↓r_52_0, ↓r_53_2, ↓w_52_1, ↓w_52_2, ↓w_53_2, ↓w_53_3, ↓w_53_4, i_lit, i_add, i_sub, i_mul, i_neg, i_lt, i_le, i_eq, i32_gI, i64_gJ, i32_id, i32_to, i64_to, sI_i32, sJ_i64, b01_t, b01_f, i32_b01, b01_0, ↓a_s0, ↓n_s0, ↓a_s1, ↓n_s1, Int.add_zero, t_lt, f_lt, t_le, f_le, t_eq, f_eq, true_and, and_true, false_and, and_false, and_self, ↓reduceIte, z_bool_of, or_true, true_or, or_false, false_or, Int.neg_neg, not_true_eq_false, not_false_eq_true, lg_lt, lg_le, lg_gt, lg_ge, lg_eq, j_lit, j_add, j_sub, j_mul, j_neg, j_eq, i64_id, ij, ji, z_rt, Nat.reduceEqDiff, Nat.reduceAdd, Int.reduceAdd, Int.reduceSub, Int.reduceMul, Int.reduceNeg, Int.reduceLT, Int.reduceLE, Int.reduceEq, List.length_nil, Int.natCast_zero, Int.ofNat_zero]
  have hZ1 : gI (sI (sI (sI (sI (sI S 53 2 0) 53 3 0) 53 4 0) 52 1 ord) 52 2 0) 52 1 = ord := by simp (disch := first | omega | assumption | exact b01_rng _ | exact st_5 | exact st_12 | exact st_19 | (simp only [isSt_sI, isSt_sJ, isSt_sF, isSt_sG, isSt_sA]; assumption)) only [gI_sI, i_lit, i_add, i_sub, i_mul, i_neg, i_lt, i_le, i_eq, i32_gI, i64_gJ, i32_id, i32_to, i64_to, sI_i32, sJ_i64, b01_t, b01_f, i32_b01, b01_0, ↓a_s0, ↓n_s0, ↓a_s1, ↓n_s1, Int.add_zero, t_lt, f_lt, t_le, f_le, t_eq, f_eq, true_and, and_true, false_and, and_false, and_self, ↓reduceIte, z_bool_of, or_true, true_or, or_false, false_or, Int.neg_neg, not_true_eq_false, not_false_eq_true, lg_lt, lg_le, lg_gt, lg_ge, lg_eq, j_lit, j_add, j_sub, j_mul, j_neg, j_eq, i64_id, ij, ji, z_rt, Nat.reduceEqDiff, Nat.reduceAdd, Int.reduceAdd, Int.reduceSub, Int.reduceMul, Int.reduceNeg, Int.reduceLT, Int.reduceLE, Int.reduceEq]
  have hF : FrL (sI (sI S 52 1 ord) 52 2 0) (sI (sI (sI (sI (sI S 53 2 0) 53 3 0) 53 4 0) 52 1 ord) 52 2 0) := by
    refine ⟨⟨fun a ha => ⟨fun i => by (repeat (first | rw [gI_sI, if_neg (by omega)] | rw [gI_sF, if_neg (by omega)] | rw [gI_sJ] | rw [gI_sG] | rw [gI_sQ])), fun _ => rfl, rfl⟩, rfl, rfl⟩, fun a i q1 q2 q3 q4 q5 => ?_, fun _ _ => rfl, fun _ _ => rfl⟩
    by_cases w : a = 52 ∧ i = 1
    · rw [w.1, w.2]; simp (disch := first | omega | assumption | exact b01_rng _ | exact st_5 | exact st_12 | exact st_19 | (simp only [isSt_sI, isSt_sJ, isSt_sF, isSt_sG, isSt_sA]; assumption)) only [gI_sI, i_lit, i_add, i_sub, i_mul, i_neg, i_lt, i_le, i_eq, i32_gI, i64_gJ, i32_id, i32_to, i64_to, sI_i32, sJ_i64, b01_t, b01_f, i32_b01, b01_0, ↓a_s0, ↓n_s0, ↓a_s1, ↓n_s1, Int.add_zero, t_lt, f_lt, t_le, f_le, t_eq, f_eq, true_and, and_true, false_and, and_false, and_self, ↓reduceIte, z_bool_of, or_true, true_or, or_false, false_or, Int.neg_neg, not_true_eq_false, not_false_eq_true, lg_lt, lg_le, lg_gt, lg_ge, lg_eq, j_lit, j_add, j_sub, j_mul, j_neg, j_eq, i64_id, ij, ji, z_rt, Nat.reduceEqDiff, Nat.reduceAdd, Int.reduceAdd, Int.reduceSub, Int.reduceMul, Int.reduceNeg, Int.reduceLT, Int.reduceLE, Int.reduceEq]
    · (repeat (first | rw [gI_sI, if_neg (by omega)] | rw [gI_sF, if_neg (by omega)] | rw [gI_sJ] | rw [gI_sG] | rw [gI_sQ]))
  have hA : AlT (sI (sI (sI (sI (sI S 53 2 0) 53 3 0) 53 4 0) 52 1 ord) 52 2 0) b n T 0 := h.fr (fun a i w => by (repeat (first | rw [gI_sI, if_neg (by omega)] | rw [gI_sF, if_neg (by omega)] | rw [gI_sJ] | rw [gI_sG] | rw [gI_sQ])))
  have hL : LK (sI (sI (sI (sI (sI S 53 2 0) 53 3 0) 53 4 0) 52 1 ord) 52 2 0) ord (0, 0) := ⟨hZ1, ho, by simp (disch := first | omega | assumption | exact b01_rng _ | exact st_5 | exact st_12 | exact st_19 | (simp only [isSt_sI, isSt_sJ, isSt_sF, isSt_sG, isSt_sA]; assumption)) only [gI_sI, i_lit, i_add, i_sub, i_mul, i_neg, i_lt, i_le, i_eq, i32_gI, i64_gJ, i32_id, i32_to, i64_to, sI_i32, sJ_i64, b01_t, b01_f, i32_b01, b01_0, ↓a_s0, ↓n_s0, ↓a_s1, ↓n_s1, Int.add_zero, t_lt, f_lt, t_le, f_le, t_eq, f_eq, true_and, and_true, false_and, and_false, and_self, ↓reduceIte, z_bool_of, or_true, true_or, or_false, false_or, Int.neg_neg, not_true_eq_false, not_false_eq_true, lg_lt, lg_le, lg_gt, lg_ge, lg_eq, j_lit, j_add, j_sub, j_mul, j_neg, j_eq, i64_id, ij, ji, z_rt, Nat.reduceEqDiff, Nat.reduceAdd, Int.reduceAdd, Int.reduceSub, Int.reduceMul, Int.reduceNeg, Int.reduceLT, Int.reduceLE, Int.reduceEq, Int.natCast_zero, Int.ofNat_zero], by show 0 ≤ 50; omega, by simp (disch := first | omega | assumption | exact b01_rng _ | exact st_5 | exact st_12 | exact st_19 | (simp only [isSt_sI, isSt_sJ, isSt_sF, isSt_sG, isSt_sA]; assumption)) only [gI_sI, i_lit, i_add, i_sub, i_mul, i_neg, i_lt, i_le, i_eq, i32_gI, i64_gJ, i32_id, i32_to, i64_to, sI_i32, sJ_i64, b01_t, b01_f, i32_b01, b01_0, ↓a_s0, ↓n_s0, ↓a_s1, ↓n_s1, Int.add_zero, t_lt, f_lt, t_le, f_le, t_eq, f_eq, true_and, and_true, false_and, and_false, and_self, ↓reduceIte, z_bool_of, or_true, true_or, or_false, false_or, Int.neg_neg, not_true_eq_false, not_false_eq_true, lg_lt, lg_le, lg_gt, lg_ge, lg_eq, j_lit, j_add, j_sub, j_mul, j_neg, j_eq, i64_id, ij, ji, z_rt, Nat.reduceEqDiff, Nat.reduceAdd, Int.reduceAdd, Int.reduceSub, Int.reduceMul, Int.reduceNeg, Int.reduceLT, Int.reduceLE, Int.reduceEq], Or.inl rfl⟩
  have z2 : gI (sI (sI (sI (sI (sI S 53 2 0) 53 3 0) 53 4 0) 52 1 ord) 52 2 0) 53 2 = 0 := by simp (disch := first | omega | assumption | exact b01_rng _ | exact st_5 | exact st_12 | exact st_19 | (simp only [isSt_sI, isSt_sJ, isSt_sF, isSt_sG, isSt_sA]; assumption)) only [gI_sI, i_lit, i_add, i_sub, i_mul, i_neg, i_lt, i_le, i_eq, i32_gI, i64_gJ, i32_id, i32_to, i64_to, sI_i32, sJ_i64, b01_t, b01_f, i32_b01, b01_0, ↓a_s0, ↓n_s0, ↓a_s1, ↓n_s1, Int.add_zero, t_lt, f_lt, t_le, f_le, t_eq, f_eq, true_and, and_true, false_and, and_false, and_self, ↓reduceIte, z_bool_of, or_true, true_or, or_false, false_or, Int.neg_neg, not_true_eq_false, not_false_eq_true, lg_lt, lg_le, lg_gt, lg_ge, lg_eq, j_lit, j_add, j_sub, j_mul, j_neg, j_eq, i64_id, ij, ji, z_rt, Nat.reduceEqDiff, Nat.reduceAdd, Int.reduceAdd, Int.reduceSub, Int.reduceMul, Int.reduceNeg, Int.reduceLT, Int.reduceLE, Int.reduceEq]
  have z3 : gI (sI (sI (sI (sI (sI S 53 2 0) 53 3 0) 53 4 0) 52 1 ord) 52 2 0) 53 3 = 0 := by simp (disch := first | omega | assumption | exact b01_rng _ | exact st_5 | exact st_12 | exact st_19 | (simp only [isSt_sI, isSt_sJ, isSt_sF, isSt_sG, isSt_sA]; assumption)) only [gI_sI, i_lit, i_add, i_sub, i_mul, i_neg, i_lt, i_le, i_eq, i32_gI, i64_gJ, i32_id, i32_to, i64_to, sI_i32, sJ_i64, b01_t, b01_f, i32_b01, b01_0, ↓a_s0, ↓n_s0, ↓a_s1, ↓n_s1, Int.add_zero, t_lt, f_lt, t_le, f_le, t_eq, f_eq, true_and, and_true, false_and, and_false, and_self, ↓reduceIte, z_bool_of, or_true, true_or, or_false, false_or, Int.neg_neg, not_true_eq_false, not_false_eq_true, lg_lt, lg_le, lg_gt, lg_ge, lg_eq, j_lit, j_add, j_sub, j_mul, j_neg, j_eq, i64_id, ij, ji, z_rt, Nat.reduceEqDiff, Nat.reduceAdd, Int.reduceAdd, Int.reduceSub, Int.reduceMul, Int.reduceNeg, Int.reduceLT, Int.reduceLE, Int.reduceEq]
  obtain ⟨r, hr1, hr2⟩ := text_row (X := X) (d := d) hd hn (x2 := ord) (S0 := sI (sI (sI (sI (sI S 53 2 0) 53 3 0) 53 4 0) 52 1 ord) 52 2 0) hZ1 12 [] (0, 0) 0 _ 1 rfl hA FrL.rf hL (by rw [z2]; rfl) (by rw [z3]; omega) (by rw [z3]; show (0 : Int) ≤ 0 + 3 * 0; omega) (fun j cl hj => by simp at hj) (fun cl hc => by simp at hc) rfl
  unfold pTx
  rw [← hr1, e0]
  cases r with
  | inl e =>
    obtain ⟨S', a1, a2, a3⟩ := hr2
    exact ⟨S', a1, a2, hF.tr a3⟩
  | inr y =>
    obtain ⟨cls, p1⟩ := y
    obtain ⟨S', a1, a2, a3, a4⟩ := hr2
    exact ⟨S', a1, a2, hF.tr a3, a4⟩
