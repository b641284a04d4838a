/-! readPart at a leaf -/
abbrev L192 : zL := [some (.ref 72), none, none, none]
/-- what readPart does at a leaf -/
def ROut (X : zX) (b : Int → Int) (n : Int) (T : Nat) (ord dp k : Int) (P : List En) (S : zS) (t : Nat) (r : pE) : Prop := match r with
  | .inl e => ∃ S' : zS, (z_ev X 5 (192, 0, L192, [], mk S) = some (some (.int (Int32.ofInt 3)), mk S')) ∧ RBd S' (tpos b n e) ∧ FrE S S'
  | .inr (e, p1, t1) => ∃ S' : zS, (z_ev X 5 (192, 0, L192, [], mk S) = some (some (.int (Int32.ofInt 3)), mk S')) ∧ RX S' b n T t1 ord p1 P dp (k + 1) ∧ Seg (IM ord S') k (k + 1) 1 e ∧ (∀ i, i < k → IM ord S' i = IM ord S i) ∧ t < t1 ∧ FrE S S'
theorem ROut.bad {X : zX} {b : Int → Int} {n : Int} {T : Nat} {ord dp k : Int} {P : List En} {S S' : zS} {t e : Nat} {r : pE} (hr : r = .inl e) (h1 : z_ev X 5 (192, 0, L192, [], mk S) = some (some (.int (Int32.ofInt 3)), mk S')) (h2 : RBd S' (tpos b n e)) (h3 : FrE S S') : ROut X b n T ord dp k P S t r := by
  rw [hr]; exact ⟨S', h1, h2, h3⟩
theorem ROut.good {X : zX} {b : Int → Int} {n : Int} {T : Nat} {ord dp k : Int} {P : List En} {S S' : zS} {t t1 : Nat} {e : Ev} {p1 : Nat × Int} {r : pE} (hr : r = .inr (e, p1, t1)) (h1 : z_ev X 5 (192, 0, L192, [], mk S) = some (some (.int (Int32.ofInt 3)), mk S')) (h2 : RX S' b n T t1 ord p1 P dp (k + 1)) (h4 : Seg (IM ord S') k (k + 1) 1 e) (h5 : ∀ i, i < k → IM ord S' i = IM ord S i) (h6 : t < t1) (h3 : FrE S S') : ROut X b n T ord dp k P S t r := by
  rw [hr]; exact ⟨S', h1, h2, h4, h5, h6, h3⟩
theorem z192 {X : zX} {b : Int → Int} {n : Int} {T t : Nat} (hT : RTape b n T) {S : zS} (hK : KW S) {ord dp k : Int} {p : Nat × Int} {P : List En} (h : RX S b n T t ord p P dp k) (q : tc b n t ≠ 91) : ROut X b n T ord dp k P S t (pLeaf (tc b n) (tv b n) ord p t) := by
  obtain ⟨num, hn, hnum, hl⟩ := l192 (X := X) (d := 5) (by omega) hT hK h q
  obtain ⟨h20, ho⟩ := h.2.2.1
  obtain ⟨h26, hp50⟩ := h.2.2.2.1
  have h19 := h.1.2.2.2
  have hor := opw_rng ord (tc b n t)
  have ev : ∀ {S' : zS} {v : Int}, z_ev X 5 (192, 0, L192, [], mk S) = some (some (.int (Int32.ofInt v)), mk S') → z_ev X 5 (192, 0, L192, [], mk S) = some (some (.int (Int32.ofInt v)), mk S') := fun {S' v} hh => hh
  obtain ⟨hb1, hb2⟩ := h.bad hT
  have bd : (50 ≤ p.1 ∨ (num = 0 ∧ opw ord (tc b n t) = -1)) → z_ev X 5 (192, 0, [some (.ref 72), none, none, none], [], mk S) = some (some (.int (Int32.ofInt 3)), mk (badS S)) := by
    intro w
    rw [hl, y191 (by omega) h19 h26 hp50 (by split <;> omega) (fun w2 => by rcases w with w | ⟨w, w3⟩; exact w; rw [if_pos w3] at w2; omega)]
    exact t192 (by omega) (Or.inr (Or.inr hb1.1.1))
  by_cases q50 : 50 ≤ p.1
  · exact ROut.bad (by unfold pLeaf; rw [if_pos q50]) (ev (bd (Or.inl q50))) hb1 hb2
  have hk0 : 0 ≤ k := h.2.2.2.2.1.2.2.2.1
  rcases hn with rfl | rfl
  · have hnn : ¬ (tc b n t = 300 ∧ 0 ≤ tv b n t ∧ tv b n t ≤ 1000) := fun w => by have := hnum.mpr w; omega
    by_cases qo : opw ord (tc b n t) = -1
    · refine ROut.bad ?_ (ev (bd (Or.inr ⟨rfl, qo⟩))) hb1 hb2
      unfold pLeaf
      rw [if_neg q50, if_neg hnn]
      unfold opw at qo
      rcases ho with rfl | rfl
      · rw [if_pos rfl] at qo
        unfold prt at qo
        rw [if_pos rfl, if_neg (fun w => by rw [if_pos w] at qo; omega)]
      · rw [if_neg (by omega)] at qo
        have : ∀ x, (x = 274 ∨ x = 281 ∨ x = 282 ∨ x = 273 ∨ x = 269 ∨ x = 283) → oprt x ≠ -1 := by
          intro x hx
          rcases hx with rfl | rfl | rfl | rfl | rfl | rfl <;> decide
        have hc : ¬ (tc b n t = 274 ∨ tc b n t = 281 ∨ tc b n t = 282 ∨ tc b n t = 273 ∨ tc b n t = 269 ∨ tc b n t = 283) := fun w => this _ w qo
        rw [if_neg (by omega), if_neg (by omega), if_neg (by omega), if_neg (by omega), if_neg (by omega), if_neg (by omega), if_neg (by omega)]
    · have hc : tc b n t ≠ 301 := by
        intro w; apply qo; unfold opw; rw [w]; split <;> rfl
      obtain ⟨o, hoo⟩ : ∃ o, opw ord (tc b n t) = o := ⟨_, rfl⟩
      rw [hoo] at hl qo hor
      rw [if_neg qo, if_neg qo, if_neg (by omega)] at hl
      have one : ∀ (i x : Int), (ord = 0 ∨ o < 5) → pLeaf (tc b n) (tv b n) ord p t = .inr (eW i, (p.1 + 1, x), t + 1) → dM ord o 0 = (1, i) → ROut X b n T ord dp k P S t (pLeaf (tc b n) (tv b n) ord p t) := by
        intro i x w1 w2 w3
        obtain ⟨S1, a1, a2, a3, a4, a5, a6⟩ := z191 (X := X) (d := 5) (by omega) hT h (by omega) hc (op := o) (ar := 0) (by omega) (by omega) x
        refine ROut.good w2 (ev (by rw [hl, a1, t192 (by omega) (by rw [a2.2.2.1.1]; omega)])) a2 ?_ ?_ (by omega) a4
        · exact Seg.word (by rw [a3, upI_at, w3])
        · intro j hj; rw [a3, upI_ne _ _ (by omega)]
      rcases ho with rfl | rfl
      · have hoo' : prt (tc b n t) = o := hoo
        unfold prt at hoo'
        have hr : 268 ≤ tc b n t ∧ tc b n t ≤ 275 := Classical.byContradiction fun w => by rw [if_neg w] at hoo'; omega
        rw [if_pos hr] at hoo'
        refine one (tc b n t - 268) p.2 (Or.inl rfl) ?_ ?_
        · unfold pLeaf; rw [if_neg q50, if_neg hnn, if_pos rfl, if_pos hr]
        · unfold dM dW; rw [if_neg (by omega), if_pos (by omega), if_pos rfl, if_pos (by omega)]; congr 1; omega
      · have hoo' : oprt (tc b n t) = o := hoo
        have two : ∀ (m i0 x : Int), 5 ≤ o → (m = 19 ∧ o = 5 ∨ m = 5 ∧ o = 6) → pLeaf (tc b n) (tv b n) 1 p t = (if tc b n (t + 1) = 300 ∧ 0 ≤ tv b n (t + 1) ∧ tv b n (t + 1) ≤ m then .inr (eW (i0 + tv b n (t + 1)), (p.1 + 1, x), t + 2) else .inl (t + 1)) → (∀ v, 0 ≤ v → v ≤ m → dM 1 o v = (1, i0 + v)) → ROut X b n T 1 dp k P S t (pLeaf (tc b n) (tv b n) 1 p t) := by
          intro m i0 x w1 wm w2 w3
          obtain ⟨S1, a1, a2, a3, a4, a5, a6⟩ := z191 (X := X) (d := 5) (by omega) hT h (by omega) hc (op := o) (ar := 0) (by omega) (by omega) x
          have s19 := a2.1.2.2.2
          have s20 := a2.2.2.1.1
          have s23 := a2.2.2.2.2.1.2.2
          have ht3 := hT.2.2
          have htt := a2.2.1.1
          by_cases q1 : tc b n (t + 1) = 300 ∧ 0 ≤ tv b n (t + 1) ∧ tv b n (t + 1) ≤ m
          · rw [if_pos q1] at w2
            have hv := mV hT.1 (t + 1) q1.1
            have hv2 : tv b n (t + 1) = tworth b n (tpos b n (t + 1)) := by omega
            have hs2 : tsort b n (tpos b n (t + 1)) = 2 := by rw [mD hT.1]; exact q1.1
            have htT1 := tc_lt hT.2.1 (t := t + 1) (by omega)
            obtain ⟨S2, b1, b2, b3⟩ := z180 (X := X) (d := 5) (by omega) hT.1 a2.1 (lo := 0) (hi := m) (by omega) (by omega) hs2 (by omega)
            have hS2 := a2.nx b2 b3 (by omega) (by omega)
            have e83 : gI S2 83 k = o := by rw [b3.2.1 _ _ (by omega)]; exact a5
            have hI2 : IM 1 S2 = IM 1 S1 := IM_fr (fun a i q => b3.2.1 _ _ (by omega))
            rw [← hv2] at b1
            have g23 := hS2.2.2.2.2.1.2.2
            have hk1 : k + 1 - 1 = k := by omega
            refine ROut.good (S' := sI S2 84 k (tv b n (t + 1))) w2 (ev ?_) hS2.a84 ?_ ?_ (by omega) ((a4.tr b3.e).tr (FrE.I (by omega)))
            · rw [hl, a1]
              have s23a := s23.1
              rcases wm with ⟨rfl, rfl⟩ | ⟨rfl, rfl⟩
              · simp (disch := first | omega | assumption | exact b01_rng _ | exact st_5 | exact st_12 | exact st_19 | (simp only [isSt_sI, isSt_sJ, isSt_sF, isSt_sG, isSt_sA]; assumption)) only [↓B192_0, ↓B192_6, ↓B192_9, ↓B192_15, ↓B192_17, ↓B192_24, ↓B192_28, ↓B192_31, ↓B192_35, ↓B192_44, ↓B192_55, ↓B192_59, ↓B192_60, ↓B192_67, ↓B192_71, ↓B192_75, ↓B192_76, ↓B192_81, ↓B192_85, ↓B192_86, ↓B192_90, ↓B192_98, ↓B192_99, ↓B192_102, ↓B192_109, ↓B192_114, ↓B192_121, ↓B192_140, ↓B192_146, ↓B192_149, ↓B192_152, ↓B192_153, ↓a_84, ↓n_84, ↓o_72, ↓r_72_16, ↓r_72_17, ↓r_72_19, ↓r_72_20, ↓r_72_23, ↓r_72_25, ↓s_84, b1, i_lit, i_add, i_sub, i_mul, i_neg, i_lt, i_le, i_eq, i32_gI, i64_gJ, i32_id, i32_to, i64_to, sI_i32, sJ_i64, b01_t, b01_f, i32_b01, b01_0, ↓a_s0, ↓n_s0, ↓a_s1, ↓n_s1, Int.add_zero, t_lt, f_lt, t_le, f_le, t_eq, f_eq, true_and, and_true, false_and, and_false, and_self, ↓reduceIte, z_bool_of, or_true, true_or, or_false, false_or, Int.neg_neg, not_true_eq_false, not_false_eq_true, lg_lt, lg_le, lg_gt, lg_ge, lg_eq, j_lit, j_add, j_sub, j_mul, j_neg, j_eq, i64_id, ij, ji, z_rt, Nat.reduceEqDiff, Nat.reduceAdd, Int.reduceAdd, Int.reduceSub, Int.reduceMul, Int.reduceNeg, Int.reduceLT, Int.reduceLE, Int.reduceEq, s19, s20, s23a, hk1]
              · simp (disch := first | omega | assumption | exact b01_rng _ | exact st_5 | exact st_12 | exact st_19 | (simp only [isSt_sI, isSt_sJ, isSt_sF, isSt_sG, isSt_sA]; assumption)) only [↓B192_0, ↓B192_6, ↓B192_9, ↓B192_15, ↓B192_17, ↓B192_24, ↓B192_28, ↓B192_31, ↓B192_35, ↓B192_44, ↓B192_55, ↓B192_59, ↓B192_60, ↓B192_67, ↓B192_71, ↓B192_75, ↓B192_76, ↓B192_81, ↓B192_85, ↓B192_86, ↓B192_90, ↓B192_98, ↓B192_99, ↓B192_102, ↓B192_109, ↓B192_114, ↓B192_121, ↓B192_140, ↓B192_146, ↓B192_149, ↓B192_152, ↓B192_153, ↓a_84, ↓n_84, ↓o_72, ↓r_72_16, ↓r_72_17, ↓r_72_19, ↓r_72_20, ↓r_72_23, ↓r_72_25, ↓s_84, b1, i_lit, i_add, i_sub, i_mul, i_neg, i_lt, i_le, i_eq, i32_gI, i64_gJ, i32_id, i32_to, i64_to, sI_i32, sJ_i64, b01_t, b01_f, i32_b01, b01_0, ↓a_s0, ↓n_s0, ↓a_s1, ↓n_s1, Int.add_zero, t_lt, f_lt, t_le, f_le, t_eq, f_eq, true_and, and_true, false_and, and_false, and_self, ↓reduceIte, z_bool_of, or_true, true_or, or_false, false_or, Int.neg_neg, not_true_eq_false, not_false_eq_true, lg_lt, lg_le, lg_gt, lg_ge, lg_eq, j_lit, j_add, j_sub, j_mul, j_neg, j_eq, i64_id, ij, ji, z_rt, Nat.reduceEqDiff, Nat.reduceAdd, Int.reduceAdd, Int.reduceSub, Int.reduceMul, Int.reduceNeg, Int.reduceLT, Int.reduceLE, Int.reduceEq, s19, s20, s23a, hk1]
            · refine Seg.word ?_
              show dM 1 (gI (sI S2 84 k (tv b n (t + 1))) 83 k) (gI (sI S2 84 k (tv b n (t + 1))) 84 k) = _
              rw [gI_sI, if_neg (by omega), gI_sI, if_pos ⟨rfl, rfl⟩, i32_id (by omega) (by omega), e83, w3 _ q1.2.1 q1.2.2]
            · intro j hj
              show dM 1 (gI (sI S2 84 k (tv b n (t + 1))) 83 j) (gI (sI S2 84 k (tv b n (t + 1))) 84 j) = _
              rw [gI_sI, if_neg (by omega), gI_sI, if_neg (by omega)]
              show IM 1 S2 j = _
              rw [hI2, a3, upI_ne _ _ (by omega)]
          · rw [if_neg q1] at w2
            have e16 : (gI S1 72 16 = 2) = (tc b n (t + 1) = 300) := by rw [a2.1.2.2.1.2.2.1]; exact mD hT.1 (t + 1)
            have e17 := a2.1.2.2.1.2.2.2
            have hw := mV hT.1 (t + 1)
            have hn' : ¬ (gI S1 72 16 = 2 ∧ 0 ≤ tworth b n (tpos b n (t + 1)) ∧ tworth b n (tpos b n (t + 1)) ≤ m) := by
              rintro ⟨u1, u2, u3⟩
              rw [e16] at u1
              have := hw u1
              exact q1 ⟨u1, by omega, by omega⟩
            have k180 := fun {cm cp : Nat} {L : zL} {st : List Value} => y180 (X := X) (d := 5) (by omega) s19 (lo := 0) (hi := m) (by omega) (by omega) e17 hn' (cm := cm) (cp := cp) (L := L) (st := st)
            obtain ⟨c1, c2⟩ := a2.bad hT
            have hk1 : k + 1 - 1 = k := by omega
            have hJ := gJ_rng S1 72 17
            rw [e17] at hJ
            refine ROut.bad (S' := sI (badS S1) 84 k (tworth b n (tpos b n (t + 1)))) w2 (ev ?_) c1.a84 ((a4.tr c2).tr (FrE.I (by omega)))
            rw [hl, a1]
            have s23a := s23.1
            clear hw hn' hnum
            unfold badS
            rcases wm with ⟨rfl, rfl⟩ | ⟨rfl, rfl⟩
            · simp (disch := first | omega | assumption | exact b01_rng _ | exact st_5 | exact st_12 | exact st_19 | (simp only [isSt_sI, isSt_sJ, isSt_sF, isSt_sG, isSt_sA]; assumption)) only [↓B192_0, ↓B192_6, ↓B192_9, ↓B192_15, ↓B192_17, ↓B192_24, ↓B192_28, ↓B192_31, ↓B192_35, ↓B192_44, ↓B192_55, ↓B192_59, ↓B192_60, ↓B192_67, ↓B192_71, ↓B192_75, ↓B192_76, ↓B192_81, ↓B192_85, ↓B192_86, ↓B192_90, ↓B192_98, ↓B192_99, ↓B192_102, ↓B192_109, ↓B192_114, ↓B192_121, ↓B192_140, ↓B192_146, ↓B192_149, ↓B192_152, ↓B192_153, ↓a_84, ↓n_84, ↓o_72, ↓r_72_16, ↓r_72_17, ↓r_72_19, ↓r_72_20, ↓r_72_23, ↓r_72_25, ↓s_84, k180, i_lit, i_add, i_sub, i_mul, i_neg, i_lt, i_le, i_eq, i32_gI, i64_gJ, i32_id, i32_to, i64_to, sI_i32, sJ_i64, b01_t, b01_f, i32_b01, b01_0, ↓a_s0, ↓n_s0, ↓a_s1, ↓n_s1, Int.add_zero, t_lt, f_lt, t_le, f_le, t_eq, f_eq, true_and, and_true, false_and, and_false, and_self, ↓reduceIte, z_bool_of, or_true, true_or, or_false, false_or, Int.neg_neg, not_true_eq_false, not_false_eq_true, lg_lt, lg_le, lg_gt, lg_ge, lg_eq, j_lit, j_add, j_sub, j_mul, j_neg, j_eq, i64_id, ij, ji, z_rt, Nat.reduceEqDiff, Nat.reduceAdd, Int.reduceAdd, Int.reduceSub, Int.reduceMul, Int.reduceNeg, Int.reduceLT, Int.reduceLE, Int.reduceEq, s19, s20, s23a, hk1]
            · simp (disch := first | omega | assumption | exact b01_rng _ | exact st_5 | exact st_12 | exact st_19 | (simp only [isSt_sI, isSt_sJ, isSt_sF, isSt_sG, isSt_sA]; assumption)) only [↓B192_0, ↓B192_6, ↓B192_9, ↓B192_15, ↓B192_17, ↓B192_24, ↓B192_28, ↓B192_31, ↓B192_35, ↓B192_44, ↓B192_55, ↓B192_59, ↓B192_60, ↓B192_67, ↓B192_71, ↓B192_75, ↓B192_76, ↓B192_81, ↓B192_85, ↓B192_86, ↓B192_90, ↓B192_98, ↓B192_99, ↓B192_102, ↓B192_109, ↓B192_114, ↓B192_121, ↓B192_140, ↓B192_146, ↓B192_149, ↓B192_152, ↓B192_153, ↓a_84, ↓n_84, ↓o_72, ↓r_72_16, ↓r_72_17, ↓r_72_19, ↓r_72_20, ↓r_72_23, ↓r_72_25, ↓s_84, k180, i_lit, i_add, i_sub, i_mul, i_neg, i_lt, i_le, i_eq, i32_gI, i64_gJ, i32_id, i32_to, i64_to, sI_i32, sJ_i64, b01_t, b01_f, i32_b01, b01_0, ↓a_s0, ↓n_s0, ↓a_s1, ↓n_s1, Int.add_zero, t_lt, f_lt, t_le, f_le, t_eq, f_eq, true_and, and_true, false_and, and_false, and_self, ↓reduceIte, z_bool_of, or_true, true_or, or_false, false_or, Int.neg_neg, not_true_eq_false, not_false_eq_true, lg_lt, lg_le, lg_gt, lg_ge, lg_eq, j_lit, j_add, j_sub, j_mul, j_neg, j_eq, i64_id, ij, ji, z_rt, Nat.reduceEqDiff, Nat.reduceAdd, Int.reduceAdd, Int.reduceSub, Int.reduceMul, Int.reduceNeg, Int.reduceLT, Int.reduceLE, Int.reduceEq, s19, s20, s23a, hk1]
        unfold oprt at hoo'
        by_cases e1 : tc b n t = 274
        · rw [if_pos e1] at hoo'
          exact one 0 p.2 (by omega) (by unfold pLeaf; rw [if_neg q50, if_neg hnn, if_neg (by omega), if_pos e1]) (by rw [← hoo']; rfl)
        rw [if_neg e1] at hoo'
        by_cases e2 : tc b n t = 281
        · rw [if_pos e2] at hoo'
          exact one 1 p.2 (by omega) (by unfold pLeaf; rw [if_neg q50, if_neg hnn, if_neg (by omega), if_neg e1, if_pos e2]) (by rw [← hoo']; rfl)
        rw [if_neg e2] at hoo'
        by_cases e3 : tc b n t = 282
        · rw [if_pos e3] at hoo'
          exact one 2 p.2 (by omega) (by unfold pLeaf; rw [if_neg q50, if_neg hnn, if_neg (by omega), if_neg e1, if_neg e2, if_pos e3]) (by rw [← hoo']; rfl)
        rw [if_neg e3] at hoo'
        by_cases e4 : tc b n t = 273
        · rw [if_pos e4] at hoo'
          exact one 3 p.2 (by omega) (by unfold pLeaf; rw [if_neg q50, if_neg hnn, if_neg (by omega), if_neg e1, if_neg e2, if_neg e3, if_pos e4]) (by rw [← hoo']; rfl)
        rw [if_neg e4] at hoo'
        by_cases e5 : tc b n t = 269
        · rw [if_pos e5] at hoo'
          exact two 19 4 p.2 (by omega) (by omega) (by unfold pLeaf; rw [if_neg q50, if_neg hnn, if_neg (by omega), if_neg e1, if_neg e2, if_neg e3, if_neg e4, if_pos e5]) (fun v v1 v2 => by rw [← hoo']; unfold dM dW; rw [if_neg (by omega), if_pos (by omega), if_neg (by omega), if_neg (by omega), if_pos ⟨rfl, v1, v2⟩])
        rw [if_neg e5] at hoo'
        by_cases e6 : tc b n t = 283
        · rw [if_pos e6] at hoo'
          exact two 5 24 1 (by omega) (by omega) (by unfold pLeaf; rw [if_neg q50, if_neg hnn, if_neg (by omega), if_neg e1, if_neg e2, if_neg e3, if_neg e4, if_neg e5, if_pos e6]) (fun v v1 v2 => by rw [← hoo']; unfold dM dW; rw [if_neg (by omega), if_pos (by omega), if_neg (by omega), if_neg (by omega), if_neg (by omega), if_pos ⟨rfl, v1, v2⟩])
        rw [if_neg e6] at hoo'
        omega
  · have hnn := hnum.mp rfl
    have o1 : opw ord (tc b n t) = -1 := by rw [hnn.1]; exact opw_300 ord
    rw [o1, if_pos rfl, if_pos rfl, if_pos rfl] at hl
    obtain ⟨S1, a1, a2, a3, a4, a5, a6⟩ := z191 (X := X) (d := 5) (by omega) hT h (by omega) (by omega) (op := 0) (ar := tv b n t) (by omega) (by omega) p.2
    refine ROut.good (e := eK (tv b n t)) (p1 := (p.1 + 1, p.2)) (t1 := t + 1) (by unfold pLeaf; rw [if_neg q50, if_pos hnn]) (ev (by rw [hl, a1, t192 (by omega) (by omega)])) a2 ?_ ?_ (by omega) a4
    · exact Seg.num (by rw [a3, upI_at]; rfl)
    · intro j hj; rw [a3, upI_ne _ _ (by omega)]
