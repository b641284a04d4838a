/-! the reference's metre(), and in pairs -/
def FrRf (S S' : zS) : Prop := Dyn S S' ∧ (∀ a i, ¬ (a = 72 ∧ ((14 ≤ i ∧ i ≤ 16) ∨ i = 18 ∨ i = 19 ∨ i = 44 ∨ i = 47)) → ¬ (94 ≤ a ∧ a ≤ 98) → gI S' a i = gI S a i) ∧ (∀ a i, ¬ (a = 72 ∧ i = 17) → gJ S' a i = gJ S a i) ∧ (∀ a i, gQ S' a i = gQ S a i)
theorem FrP.rf' {S S' : zS} (h : FrP S S') : FrRf S S' := ⟨h.1, fun a i q1 q2 => h.2.1 a i q1 (by omega) (by omega) (by omega), h.2.2.1, h.2.2.2⟩
theorem FrH.rf' {S S' : zS} (h : FrH S S') : FrRf S S' := ⟨h.1, fun a i q1 q2 => h.2.1 a i (by omega) (by omega), fun a i _ => h.2.2.1 a i, h.2.2.2⟩
theorem FrRf.tr {A B C : zS} (h1 : FrRf A B) (h2 : FrRf B C) : FrRf A C := ⟨h1.1.tr h2.1, fun a i q1 q2 => (h2.2.1 a i q1 q2).trans (h1.2.1 a i q1 q2), fun a i q => (h2.2.2.1 a i q).trans (h1.2.2.1 a i q), fun a i => (h2.2.2.2 a i).trans (h1.2.2.2 a i)⟩
theorem FrRf.I {S : zS} {i x : Int} (h : i = 18 ∨ i = 19) : FrRf S (sI S 72 i x) := ⟨Dyn.sI (by omega) Dyn.rf, fun b j q1 q2 => by rw [gI_sI, if_neg (by omega)], fun _ _ _ => rfl, fun _ _ => rfl⟩
theorem l219 {X : zX} {d : Nat} {at_ : Int} {n : Int} {f : Int → Int} (hat : 80 ≤ at_ ∧ at_ ≤ 2090) (hn : n ≤ 399) : ∀ (m : Nat) (i : Int) (S : zS), 0 ≤ i → i + m = n → (∀ j, f j = gI S 98 (j - (at_ + 1))) → z_ev X d (219, 101, [some (.ref 72), some (.int (Int32.ofInt at_)), some (.int (Int32.ofInt n)), some (.int (Int32.ofInt i))], [], mk S) = z_ev X d (219, 128, [some (.ref 72), some (.int (Int32.ofInt at_)), some (.int (Int32.ofInt n)), some (.int (Int32.ofInt n))], [], mk (sF S 74 (at_ + 1 + i) (at_ + 1 + n) f)) := by
  intro m
  induction m with
  | zero =>
    intro i S h0 h1 hf
    have : i = n := by omega
    subst this
    rw [sF_nil (by omega), B219_101]
    simp (disch := first | omega | assumption | exact b01_rng _ | exact st_5 | exact st_12 | exact st_19 | (simp only [isSt_sI, isSt_sJ, isSt_sF, isSt_sG, isSt_sA]; assumption)) only [i_lit, i_add, i_sub, i_mul, i_neg, i_lt, i_le, i_eq, i32_gI, i64_gJ, i32_id, i32_to, i64_to, sI_i32, sJ_i64, b01_t, b01_f, i32_b01, b01_0, ↓a_s0, ↓n_s0, ↓a_s1, ↓n_s1, Int.add_zero, t_lt, f_lt, t_le, f_le, t_eq, f_eq, true_and, and_true, false_and, and_false, and_self, ↓reduceIte, z_bool_of, or_true, true_or, or_false, false_or, Int.neg_neg, not_true_eq_false, not_false_eq_true, lg_lt, lg_le, lg_gt, lg_ge, lg_eq, j_lit, j_add, j_sub, j_mul, j_neg, j_eq, i64_id, ij, ji, z_rt, Nat.reduceEqDiff, Nat.reduceAdd, Int.reduceAdd, Int.reduceSub, Int.reduceMul, Int.reduceNeg, Int.reduceLT, Int.reduceLE, Int.reduceEq]
  | succ m ih =>
    intro i S h0 h1 hf
    rw [B219_101]
    simp (disch := first | omega | assumption | exact b01_rng _ | exact st_5 | exact st_12 | exact st_19 | (simp only [isSt_sI, isSt_sJ, isSt_sF, isSt_sG, isSt_sA]; assumption)) only [↓B219_106, ↓a_74, ↓a_98, ↓n_74, ↓n_98, ↓o_72, ↓r_72_19, ↓r_72_3, ↓r_72_49, ↓s_74, ↓s_98, ↓w_72_0, ↓w_72_13, i_lit, i_add, i_sub, i_mul, i_neg, i_lt, i_le, i_eq, i32_gI, i64_gJ, i32_id, i32_to, i64_to, sI_i32, sJ_i64, b01_t, b01_f, i32_b01, b01_0, ↓a_s0, ↓n_s0, ↓a_s1, ↓n_s1, Int.add_zero, t_lt, f_lt, t_le, f_le, t_eq, f_eq, true_and, and_true, false_and, and_false, and_self, ↓reduceIte, z_bool_of, or_true, true_or, or_false, false_or, Int.neg_neg, not_true_eq_false, not_false_eq_true, lg_lt, lg_le, lg_gt, lg_ge, lg_eq, j_lit, j_add, j_sub, j_mul, j_neg, j_eq, i64_id, ij, ji, z_rt, Nat.reduceEqDiff, Nat.reduceAdd, Int.reduceAdd, Int.reduceSub, Int.reduceMul, Int.reduceNeg, Int.reduceLT, Int.reduceLE, Int.reduceEq]
    rw [ih (i + 1) _ (by omega) (by omega) (fun j => by rw [hf, gI_sI, if_neg (by omega)])]
    rw [show at_ + 1 + (i + 1) = at_ + 1 + i + 1 by omega, sF_step (by omega) (by rw [hf]; congr 1; omega)]
theorem e219a {X : zX} {d : Nat} (hd : 2 ≤ d) {S : zS} (h : gI S 74 1 = 6) : z_ev X d (z_entry 219 [.ref 72] (mk S)) = some (some (.int (Int32.ofInt (-5))), mk (tellS (sI (sI S 72 0 0) 72 13 0) (-5))) := by
  show z_ev X d (219, 0, [some (.ref 72), none, none, none], [], mk S) = _
  simp (disch := first | omega | assumption | exact b01_rng _ | exact st_5 | exact st_12 | exact st_19 | (simp only [isSt_sI, isSt_sJ, isSt_sF, isSt_sG, isSt_sA]; assumption)) only [↓B219_0, ↓B219_16, ↓B219_27, ↓a_74, ↓a_98, ↓n_74, ↓n_98, ↓o_72, ↓r_72_19, ↓r_72_3, ↓r_72_49, ↓s_74, ↓s_98, ↓w_72_0, ↓w_72_13, c153, i_lit, i_add, i_sub, i_mul, i_neg, i_lt, i_le, i_eq, i32_gI, i64_gJ, i32_id, i32_to, i64_to, sI_i32, sJ_i64, b01_t, b01_f, i32_b01, b01_0, ↓a_s0, ↓n_s0, ↓a_s1, ↓n_s1, Int.add_zero, t_lt, f_lt, t_le, f_le, t_eq, f_eq, true_and, and_true, false_and, and_false, and_self, ↓reduceIte, z_bool_of, or_true, true_or, or_false, false_or, Int.neg_neg, not_true_eq_false, not_false_eq_true, lg_lt, lg_le, lg_gt, lg_ge, lg_eq, j_lit, j_add, j_sub, j_mul, j_neg, j_eq, i64_id, ij, ji, z_rt, Nat.reduceEqDiff, Nat.reduceAdd, Int.reduceAdd, Int.reduceSub, Int.reduceMul, Int.reduceNeg, Int.reduceLT, Int.reduceLE, Int.reduceEq, gI_sI, gI_sJ, gI_sF, gI_sG, gI_sQ, gI_sA, gJ_sI, gJ_sJ, gJ_sF, gJ_sG, gJ_sQ, gJ_sA, gQ_sI, gQ_sJ, gQ_sF, gQ_sG, gQ_sQ, gQ_sA, gH_sI, gH_sJ, gH_sF, gH_sG, gH_sQ, gH_sA, gN_sI, gN_sJ, gN_sF, gN_sG, gN_sQ, gN_sA, gW_sI, gW_sJ, gW_sF, gW_sG, gW_sQ, gW_sA, h, tellS]
theorem c219a {X : zX} {d : Nat} (hd : 2 < d) {S : zS} (h : gI S 74 1 = 6) {cm cp : Nat} {L : zL} {st : List Value} : z_evc X d 219 [.ref 72] (cm, cp, L, st, mk S) = z_ev X d (cm, cp, L, .int (Int32.ofInt (-5)) :: st, mk (tellS (sI (sI S 72 0 0) 72 13 0) (-5))) := z_evc_of (r := (some (.int (Int32.ofInt (-5))), mk (tellS (sI (sI S 72 0 0) 72 13 0) (-5)))) (ck := (cm, cp, L, st, mk S)) hd (e219a (X := X) (Nat.le_refl _) h)
def metM (Z : zS) (k n : Int) : zS := sI (sI (sF (sI (sI Z 72 13 0) 74 (80 + 402 * k) n) 74 (80 + 402 * k + 1) (80 + 402 * k + 1 + n) (fun j => gI Z 98 (j - (80 + 402 * k + 1)))) 74 1 (k + 1)) 72 1 0
theorem x219 {X : zX} {d : Nat} (hd : 20 ≤ d) {b : Int → Int} {n : Int} {T : Nat} (hT : RTape b n T) {S : zS} (hW : StW S) (h1 : gI S 72 13 = n) (h2 : gI S 81 = b) {k : Int} (h8 : gI S 74 1 = k) (hk : 0 ≤ k ∧ k < 6) : match pM (tc b n) (tv b n) 8 0 with
  | .inl e => ∃ Z : zS, z_ev X d (z_entry 219 [.ref 72] (mk S)) = some (some (.int (Int32.ofInt (-6))), mk (tellS (sI Z 72 13 0) (-6))) ∧ FrRf (sI S 72 0 0) Z ∧ gI Z 72 18 = tpos b n e
  | .inr (ops, t1) => if tc b n t1 = 301 then ∀ x : T3, Den3 ops x → OK3 x → (if x.2.1 ≤ 200 then (∃ Z : zS, z_ev X d (z_entry 219 [.ref 72] (mk S)) = some (some (.int (Int32.ofInt k)), mk (metM Z k x.2.2.length)) ∧ FrRf (sI S 72 0 0) Z ∧ gI Z 72 18 = -1 ∧ Cont Z 98 x.2.2) else (∃ Z : zS, z_ev X d (z_entry 219 [.ref 72] (mk S)) = some (some (.int (Int32.ofInt (-6))), mk (tellS (sI Z 72 13 0) (-6))) ∧ FrRf (sI S 72 0 0) Z ∧ gI Z 72 18 = tpos b n t1)) else (∃ Z : zS, z_ev X d (z_entry 219 [.ref 72] (mk S)) = some (some (.int (Int32.ofInt (-6))), mk (tellS (sI Z 72 13 0) (-6))) ∧ FrRf (sI S 72 0 0) Z ∧ gI Z 72 18 = tpos b n t1) := by
  have e0 : z_ev X d (z_entry 219 [.ref 72] (mk S)) = z_ev X d (219, 0, [some (.ref 72), none, none, none], [], mk S) := rfl
  obtain ⟨S1, a1, a2, a3⟩ := ref_text (X := X) (d := d - 1) (by omega) hT (S := sI S 72 0 0) hW (by (repeat (first | rw [gI_sI, if_neg (by omega)] | rw [gI_sF, if_neg (by omega)] | rw [gI_sJ] | rw [gI_sG] | rw [gI_sQ])); exact h1) (by rw [← h2]; funext i; (repeat (first | rw [gI_sI, if_neg (by omega)] | rw [gI_sF, if_neg (by omega)] | rw [gI_sJ] | rw [gI_sG] | rw [gI_sQ])))
  have k215 : ∀ {cm cp : Nat} {L : zL} {s : List Value}, z_evc X d 215 [.ref 72] (cm, cp, L, s, mk (sI S 72 0 0)) = z_ev X d (cm, cp, L, s, mk S1) := fun {cm cp L s} => z_evc_of (r := (none, mk S1)) (ck := (cm, cp, L, s, mk (sI S 72 0 0))) (show d - 1 < d by omega) a1
  have h8' : gI (sI S 72 0 0) 74 1 = k := by (repeat (first | rw [gI_sI, if_neg (by omega)] | rw [gI_sF, if_neg (by omega)] | rw [gI_sJ] | rw [gI_sG] | rw [gI_sQ])); exact h8
  have bad : RBad S1 (gI S1 72 18) → z_ev X d (219, 0, [some (.ref 72), none, none, none], [], mk S) = some (some (.int (Int32.ofInt (-6))), mk (tellS (sI S1 72 13 0) (-6))) := by
    rintro ⟨w1, -⟩
    have w2 : gI (sI S1 72 13 0) 72 19 = 1 := by (repeat (first | rw [gI_sI, if_neg (by omega)] | rw [gI_sF, if_neg (by omega)] | rw [gI_sJ] | rw [gI_sG] | rw [gI_sQ])); exact w1
    simp (disch := first | omega | assumption | exact b01_rng _ | exact st_5 | exact st_12 | exact st_19 | (simp only [isSt_sI, isSt_sJ, isSt_sF, isSt_sG, isSt_sA]; assumption)) only [↓B219_0, ↓B219_28, ↓B219_32, ↓B219_54, ↓B219_66, ↓B219_72, ↓a_74, ↓a_98, ↓n_74, ↓n_98, ↓o_72, ↓r_72_19, ↓r_72_3, ↓r_72_49, ↓s_74, ↓s_98, ↓w_72_0, ↓w_72_13, k215, c153, i_lit, i_add, i_sub, i_mul, i_neg, i_lt, i_le, i_eq, i32_gI, i64_gJ, i32_id, i32_to, i64_to, sI_i32, sJ_i64, b01_t, b01_f, i32_b01, b01_0, ↓a_s0, ↓n_s0, ↓a_s1, ↓n_s1, Int.add_zero, t_lt, f_lt, t_le, f_le, t_eq, f_eq, true_and, and_true, false_and, and_false, and_self, ↓reduceIte, z_bool_of, or_true, true_or, or_false, false_or, Int.neg_neg, not_true_eq_false, not_false_eq_true, lg_lt, lg_le, lg_gt, lg_ge, lg_eq, j_lit, j_add, j_sub, j_mul, j_neg, j_eq, i64_id, ij, ji, z_rt, Nat.reduceEqDiff, Nat.reduceAdd, Int.reduceAdd, Int.reduceSub, Int.reduceMul, Int.reduceNeg, Int.reduceLT, Int.reduceLE, Int.reduceEq, h8', w1, w2, tellS]
  cases hp : pM (tc b n) (tv b n) 8 0 with
  | inl e =>
    rw [hp] at a3
    exact ⟨S1, by rw [e0]; exact bad ⟨a3.1, rfl⟩, a2.rf', a3.2⟩
  | inr p =>
    obtain ⟨ops, t1⟩ := p
    rw [hp] at a3
    simp only [] at a3 ⊢
    by_cases q : tc b n t1 = 301
    · rw [if_pos q] at a3 ⊢
      intro x x1 x2
      obtain ⟨c1, c2, c3, c4, c5, c6⟩ := a3
      obtain ⟨S2, d1, d2⟩ := z216 (X := X) (d := d - 1) (by omega) x1 c4 (by omega) c6
      have k216 : ∀ {cm cp : Nat} {L : zL} {s : List Value}, z_evc X d 216 [.ref 72] (cm, cp, L, s, mk S1) = z_ev X d (cm, cp, L, .int (Int32.ofInt (min 1000000 (x.2.1 : Int))) :: s, mk S2) := fun {cm cp L s} => z_evc_of (r := (some (.int (Int32.ofInt (min 1000000 (x.2.1 : Int)))), mk S2)) (ck := (cm, cp, L, s, mk S1)) (show d - 1 < d by omega) d1
      have s19 : gI S2 72 19 = 0 := by rw [d2.2.1 _ _ (by omega) (by omega)]; exact c1
      by_cases q2 : x.2.1 ≤ 200
      · rw [if_pos q2]
        have hl : x.2.2.length ≤ 399 := by have := x2.2.2.1; omega
        obtain ⟨S3, f1, f2, f3⟩ := z217 (X := X) (d := d - 1) (by omega) x1 (S := sI S2 72 13 0) (by (repeat (first | rw [gI_sI, if_neg (by omega)] | rw [gI_sF, if_neg (by omega)] | rw [gI_sJ] | rw [gI_sG] | rw [gI_sQ])); rw [d2.2.1 _ _ (by omega) (by omega)]; exact c4) (by omega) (Cont.fr (S := S1) (a := 94) (W := ops) c6 (fun i => by (repeat (first | rw [gI_sI, if_neg (by omega)] | rw [gI_sF, if_neg (by omega)] | rw [gI_sJ] | rw [gI_sG] | rw [gI_sQ])); exact d2.2.1 _ _ (by omega) (by omega))) hl
        have k217 : ∀ {cm cp : Nat} {L : zL} {s : List Value}, z_evc X d 217 [.ref 72] (cm, cp, L, s, mk (sI S2 72 13 0)) = z_ev X d (cm, cp, L, .int (Int32.ofInt x.2.2.length) :: s, mk S3) := fun {cm cp L s} => z_evc_of (r := (some (.int (Int32.ofInt x.2.2.length)), mk S3)) (ck := (cm, cp, L, s, mk (sI S2 72 13 0))) (show d - 1 < d by omega) f1
        -- the same, the tape's end put behind
        obtain ⟨Z, hZ⟩ : ∃ Z, Z = sI S3 72 13 n := ⟨_, rfl⟩
        have hn := hT.1.1
        have hS3 : S3 = sI Z 72 13 0 := by
          rw [hZ]
          refine zS_ext (fun a i => ?_) (fun _ _ => rfl) (fun _ _ => rfl) (fun _ => rfl) rfl rfl
          rw [gI_sI]
          by_cases w : a = 72 ∧ i = 13
          · rw [if_pos w, w.1, w.2, f3.2.1 72 13 (by omega) (by omega), gI_sI, if_pos ⟨rfl, rfl⟩]
          · rw [if_neg w, gI_sI, if_neg w]
        have hZ98 : ∀ i, gI Z 98 i = gI S3 98 i := fun i => by rw [hZ]; (repeat (first | rw [gI_sI, if_neg (by omega)] | rw [gI_sF, if_neg (by omega)] | rw [gI_sJ] | rw [gI_sG] | rw [gI_sQ]))
        have hFZ : FrRf (sI S 72 0 0) Z := by
          have g1 : FrRf (sI S 72 0 0) S2 := a2.rf'.tr d2.rf'
          refine ⟨g1.1.tr (((by (repeat (first | exact Dyn.rf | refine Dyn.sI (by decide) ?_ | refine Dyn.sF (by decide) ?_ | refine Dyn.sJ ?_ | refine Dyn.sG ?_ | refine Dyn.sQ (by decide) ?_)) : Dyn S2 (sI S2 72 13 0)).tr f3.1).tr (by rw [hZ]; (repeat (first | exact Dyn.rf | refine Dyn.sI (by decide) ?_ | refine Dyn.sF (by decide) ?_ | refine Dyn.sJ ?_ | refine Dyn.sG ?_ | refine Dyn.sQ (by decide) ?_)))), fun a i w1 w2 => ?_, fun a i w => ?_, fun a i => ?_⟩
          · rw [hZ, gI_sI]
            by_cases w : a = 72 ∧ i = 13
            · rw [if_pos w, w.1, w.2, i32_id (by omega) (by omega)]; (repeat (first | rw [gI_sI, if_neg (by omega)] | rw [gI_sF, if_neg (by omega)] | rw [gI_sJ] | rw [gI_sG] | rw [gI_sQ])); exact h1.symm
            · rw [if_neg w, f3.2.1 a i (by omega) (by omega), gI_sI, if_neg w]; exact g1.2.1 a i w1 w2
          · rw [hZ, gJ_sI, f3.2.2.1]; exact g1.2.2.1 a i w
          · rw [hZ, gQ_sI, f3.2.2.2]; exact g1.2.2.2 a i
        have z18 : gI Z 72 18 = -1 := by
          rw [hZ]; (repeat (first | rw [gI_sI, if_neg (by omega)] | rw [gI_sF, if_neg (by omega)] | rw [gI_sJ] | rw [gI_sG] | rw [gI_sQ])); rw [f3.2.1 _ _ (by omega) (by omega)]; (repeat (first | rw [gI_sI, if_neg (by omega)] | rw [gI_sF, if_neg (by omega)] | rw [gI_sJ] | rw [gI_sG] | rw [gI_sQ])); rw [d2.2.1 _ _ (by omega) (by omega)]; exact c2
        have h8s : gI (sI S2 72 13 0) 74 1 = k := by
          (repeat (first | rw [gI_sI, if_neg (by omega)] | rw [gI_sF, if_neg (by omega)] | rw [gI_sJ] | rw [gI_sG] | rw [gI_sQ])); rw [d2.2.1 _ _ (by omega) (by omega), a2.2.1 74 1 (by omega) (by omega) (by omega) (by omega)]; exact h8'
        have h8z : gI Z 74 1 = k := by rw [hZ]; (repeat (first | rw [gI_sI, if_neg (by omega)] | rw [gI_sF, if_neg (by omega)] | rw [gI_sJ] | rw [gI_sG] | rw [gI_sQ])); rw [f3.2.1 _ _ (by omega) (by omega)]; exact h8s
        refine ⟨Z, ?_, hFZ, z18, f2.fr hZ98⟩
        have hl2 := l219 (X := X) (d := d) (at_ := 80 + 402 * k) (n := x.2.2.length) (f := fun j => gI Z 98 (j - (80 + 402 * k + 1))) (by omega) (by omega) x.2.2.length 0 (sI (sI Z 72 13 0) 74 (80 + 402 * k) x.2.2.length) (by omega) (by omega) (fun j => by (repeat (first | rw [gI_sI, if_neg (by omega)] | rw [gI_sF, if_neg (by omega)] | rw [gI_sJ] | rw [gI_sG] | rw [gI_sQ])))
        rw [Int.add_zero] at hl2
        have w19 : gI (sI S2 72 13 0) 72 19 = 0 := by (repeat (first | rw [gI_sI, if_neg (by omega)] | rw [gI_sF, if_neg (by omega)] | rw [gI_sJ] | rw [gI_sG] | rw [gI_sQ])); exact s19
        have w8 : gI (sF (sI (sI Z 72 13 0) 74 (80 + 402 * k) x.2.2.length) 74 (80 + 402 * k + 1) (80 + 402 * k + 1 + x.2.2.length) (fun j => gI Z 98 (j - (80 + 402 * k + 1)))) 74 1 = k := by (repeat (first | rw [gI_sI, if_neg (by omega)] | rw [gI_sF, if_neg (by omega)] | rw [gI_sJ] | rw [gI_sG] | rw [gI_sQ])); exact h8z
        have w9 : k + 1 - 1 = k := by omega
        have hmin : min 1000000 (x.2.1 : Int) ≤ 200 := by omega
        rw [e0]
        simp (disch := first | omega | assumption | exact b01_rng _ | exact st_5 | exact st_12 | exact st_19 | (simp only [isSt_sI, isSt_sJ, isSt_sF, isSt_sG, isSt_sA]; assumption)) only [↓B219_0, ↓B219_28, ↓B219_32, ↓B219_39, ↓B219_43, ↓B219_54, ↓B219_73, ↓a_74, ↓a_98, ↓n_74, ↓n_98, ↓o_72, ↓r_72_19, ↓r_72_3, ↓r_72_49, ↓s_74, ↓s_98, ↓w_72_0, ↓w_72_13, k215, k216, k217, i_lit, i_add, i_sub, i_mul, i_neg, i_lt, i_le, i_eq, i32_gI, i64_gJ, i32_id, i32_to, i64_to, sI_i32, sJ_i64, b01_t, b01_f, i32_b01, b01_0, ↓a_s0, ↓n_s0, ↓a_s1, ↓n_s1, Int.add_zero, t_lt, f_lt, t_le, f_le, t_eq, f_eq, true_and, and_true, false_and, and_false, and_self, ↓reduceIte, z_bool_of, or_true, true_or, or_false, false_or, Int.neg_neg, not_true_eq_false, not_false_eq_true, lg_lt, lg_le, lg_gt, lg_ge, lg_eq, j_lit, j_add, j_sub, j_mul, j_neg, j_eq, i64_id, ij, ji, z_rt, Nat.reduceEqDiff, Nat.reduceAdd, Int.reduceAdd, Int.reduceSub, Int.reduceMul, Int.reduceNeg, Int.reduceLT, Int.reduceLE, Int.reduceEq, h8', c1, w19, h8s]
        rw [hS3, B219_91]
        simp (disch := first | omega | assumption | exact b01_rng _ | exact st_5 | exact st_12 | exact st_19 | (simp only [isSt_sI, isSt_sJ, isSt_sF, isSt_sG, isSt_sA]; assumption)) only [↓a_74, ↓a_98, ↓n_74, ↓n_98, ↓o_72, ↓r_72_19, ↓r_72_3, ↓r_72_49, ↓s_74, ↓s_98, ↓w_72_0, ↓w_72_13, i_lit, i_add, i_sub, i_mul, i_neg, i_lt, i_le, i_eq, i32_gI, i64_gJ, i32_id, i32_to, i64_to, sI_i32, sJ_i64, b01_t, b01_f, i32_b01, b01_0, ↓a_s0, ↓n_s0, ↓a_s1, ↓n_s1, Int.add_zero, t_lt, f_lt, t_le, f_le, t_eq, f_eq, true_and, and_true, false_and, and_false, and_self, ↓reduceIte, z_bool_of, or_true, true_or, or_false, false_or, Int.neg_neg, not_true_eq_false, not_false_eq_true, lg_lt, lg_le, lg_gt, lg_ge, lg_eq, j_lit, j_add, j_sub, j_mul, j_neg, j_eq, i64_id, ij, ji, z_rt, Nat.reduceEqDiff, Nat.reduceAdd, Int.reduceAdd, Int.reduceSub, Int.reduceMul, Int.reduceNeg, Int.reduceLT, Int.reduceLE, Int.reduceEq]
        rw [hl2]
        simp (disch := first | omega | assumption | exact b01_rng _ | exact st_5 | exact st_12 | exact st_19 | (simp only [isSt_sI, isSt_sJ, isSt_sF, isSt_sG, isSt_sA]; assumption)) only [↓B219_128, ↓B219_150, ↓a_74, ↓a_98, ↓n_74, ↓n_98, ↓o_72, ↓r_72_19, ↓r_72_3, ↓r_72_49, ↓s_74, ↓s_98, ↓w_72_0, ↓w_72_13, c153, i_lit, i_add, i_sub, i_mul, i_neg, i_lt, i_le, i_eq, i32_gI, i64_gJ, i32_id, i32_to, i64_to, sI_i32, sJ_i64, b01_t, b01_f, i32_b01, b01_0, ↓a_s0, ↓n_s0, ↓a_s1, ↓n_s1, Int.add_zero, t_lt, f_lt, t_le, f_le, t_eq, f_eq, true_and, and_true, false_and, and_false, and_self, ↓reduceIte, z_bool_of, or_true, true_or, or_false, false_or, Int.neg_neg, not_true_eq_false, not_false_eq_true, lg_lt, lg_le, lg_gt, lg_ge, lg_eq, j_lit, j_add, j_sub, j_mul, j_neg, j_eq, i64_id, ij, ji, z_rt, Nat.reduceEqDiff, Nat.reduceAdd, Int.reduceAdd, Int.reduceSub, Int.reduceMul, Int.reduceNeg, Int.reduceLT, Int.reduceLE, Int.reduceEq, w8, gI_sI, w9, metM]
      · rw [if_neg q2]
        have s14 : gI S2 72 14 = tpos b n t1 := by
          rw [d2.2.1 _ _ (by omega) (by omega), c3]
          have : tC b n (tpos b n t1) = 301 := q
          apply Classical.byContradiction
          intro w
          have hr := tpos_rng (b := b) hT.1.1.1 t1
          have hb := hT.1.2 (tpos b n t1)
          rcases tC_cases hr.2.1 (hb hr.1 (by omega)) hr.2.2 with ⟨w1, -⟩ | ⟨w1, w2, w3, -⟩ | ⟨w1, w2, w3, w4, -⟩ | ⟨w1, w2, w3, w4, -⟩
          · exact w w1.symm
          · have := findE_rng (w := tworth b n (tpos b n t1)) E28 256 (by omega) (by decide); omega
          · omega
          · have := hb hr.1 w1; omega
        have hn := hT.1.1
        have hr := tpos_rng (b := b) hT.1.1.1 t1
        have k179 := fun {cm cp : Nat} {L : zL} {st : List Value} => c179b (X := X) (d := d) (S := S2) (by omega) s19 (cm := cm) (cp := cp) (L := L) (st := st)
        refine ⟨sI (sI S2 72 19 1) 72 18 (gI S2 72 14), ?_, (a2.rf'.tr d2.rf').tr ((FrRf.I (by omega)).tr (FrRf.I (by omega))), by simp (disch := first | omega | assumption | exact b01_rng _ | exact st_5 | exact st_12 | exact st_19 | (simp only [isSt_sI, isSt_sJ, isSt_sF, isSt_sG, isSt_sA]; assumption)) only [gI_sI, i_lit, i_add, i_sub, i_mul, i_neg, i_lt, i_le, i_eq, i32_gI, i64_gJ, i32_id, i32_to, i64_to, sI_i32, sJ_i64, b01_t, b01_f, i32_b01, b01_0, ↓a_s0, ↓n_s0, ↓a_s1, ↓n_s1, Int.add_zero, t_lt, f_lt, t_le, f_le, t_eq, f_eq, true_and, and_true, false_and, and_false, and_self, ↓reduceIte, z_bool_of, or_true, true_or, or_false, false_or, Int.neg_neg, not_true_eq_false, not_false_eq_true, lg_lt, lg_le, lg_gt, lg_ge, lg_eq, j_lit, j_add, j_sub, j_mul, j_neg, j_eq, i64_id, ij, ji, z_rt, Nat.reduceEqDiff, Nat.reduceAdd, Int.reduceAdd, Int.reduceSub, Int.reduceMul, Int.reduceNeg, Int.reduceLT, Int.reduceLE, Int.reduceEq, s14]⟩
        have w2 : gI (sI (sI (sI S2 72 19 1) 72 18 (gI S2 72 14)) 72 13 0) 72 19 = 1 := by simp (disch := first | omega | assumption | exact b01_rng _ | exact st_5 | exact st_12 | exact st_19 | (simp only [isSt_sI, isSt_sJ, isSt_sF, isSt_sG, isSt_sA]; assumption)) only [gI_sI, i_lit, i_add, i_sub, i_mul, i_neg, i_lt, i_le, i_eq, i32_gI, i64_gJ, i32_id, i32_to, i64_to, sI_i32, sJ_i64, b01_t, b01_f, i32_b01, b01_0, ↓a_s0, ↓n_s0, ↓a_s1, ↓n_s1, Int.add_zero, t_lt, f_lt, t_le, f_le, t_eq, f_eq, true_and, and_true, false_and, and_false, and_self, ↓reduceIte, z_bool_of, or_true, true_or, or_false, false_or, Int.neg_neg, not_true_eq_false, not_false_eq_true, lg_lt, lg_le, lg_gt, lg_ge, lg_eq, j_lit, j_add, j_sub, j_mul, j_neg, j_eq, i64_id, ij, ji, z_rt, Nat.reduceEqDiff, Nat.reduceAdd, Int.reduceAdd, Int.reduceSub, Int.reduceMul, Int.reduceNeg, Int.reduceLT, Int.reduceLE, Int.reduceEq]
        have hmin : 200 < min 1000000 (x.2.1 : Int) := by omega
        rw [e0]
        simp (disch := first | omega | assumption | exact b01_rng _ | exact st_5 | exact st_12 | exact st_19 | (simp only [isSt_sI, isSt_sJ, isSt_sF, isSt_sG, isSt_sA]; assumption)) only [↓B219_0, ↓B219_28, ↓B219_32, ↓B219_39, ↓B219_43, ↓B219_49, ↓B219_54, ↓B219_66, ↓B219_72, ↓a_74, ↓a_98, ↓n_74, ↓n_98, ↓o_72, ↓r_72_19, ↓r_72_3, ↓r_72_49, ↓s_74, ↓s_98, ↓w_72_0, ↓w_72_13, k215, k216, k179, c153, i_lit, i_add, i_sub, i_mul, i_neg, i_lt, i_le, i_eq, i32_gI, i64_gJ, i32_id, i32_to, i64_to, sI_i32, sJ_i64, b01_t, b01_f, i32_b01, b01_0, ↓a_s0, ↓n_s0, ↓a_s1, ↓n_s1, Int.add_zero, t_lt, f_lt, t_le, f_le, t_eq, f_eq, true_and, and_true, false_and, and_false, and_self, ↓reduceIte, z_bool_of, or_true, true_or, or_false, false_or, Int.neg_neg, not_true_eq_false, not_false_eq_true, lg_lt, lg_le, lg_gt, lg_ge, lg_eq, j_lit, j_add, j_sub, j_mul, j_neg, j_eq, i64_id, ij, ji, z_rt, Nat.reduceEqDiff, Nat.reduceAdd, Int.reduceAdd, Int.reduceSub, Int.reduceMul, Int.reduceNeg, Int.reduceLT, Int.reduceLE, Int.reduceEq, h8', c1, w2, tellS]
    · rw [if_neg q] at a3 ⊢
      exact ⟨S1, by rw [e0]; exact bad ⟨a3.1, rfl⟩, a2.rf', a3.2⟩
/-- both refuse a text: what is left of it -/
theorem metre_bad {Q : zP} (h2 : Good2 PM Q) {S S' Z : zS} {f : Int} (hI : Inv PM Q S) (hC : FrCl (sI S 35 1 0) S') (hf : r32 f) (hZ : FrRf (sI (cR (sI S' 4 17 f) (-6)) 72 0 0) Z) (h18 : gI Z 72 18 = f) : Inv PM Q (tellS (sI Z 72 13 0) (-6)) ∧ Dyn S (tellS (sI Z 72 13 0) (-6)) := by
  have hG := h2.g
  obtain ⟨m1, m2, m3, m4, m5, m6, m7, m8, m9⟩ := id hI.2.2.2.1
  -- what the class has left
  have hD1 : Dyn S (cR (sI S' 4 17 f) (-6)) := ((by (repeat (first | exact Dyn.rf | refine Dyn.sI (by decide) ?_ | refine Dyn.sF (by decide) ?_ | refine Dyn.sJ ?_ | refine Dyn.sG ?_ | refine Dyn.sQ (by decide) ?_)) : Dyn S (sI S 35 1 0)).tr hC.1).tr (by unfold cR; (repeat (first | exact Dyn.rf | refine Dyn.sI (by decide) ?_ | refine Dyn.sF (by decide) ?_ | refine Dyn.sJ ?_ | refine Dyn.sG ?_ | refine Dyn.sQ (by decide) ?_)))
  have c1 : ∀ a i, ¬ (37 ≤ a ∧ a ≤ 51) → ¬ (a = 35 ∧ i = 1) → a ≠ 4 → a ≠ 71 → gI (cR (sI S' 4 17 f) (-6)) a i = gI S a i := fun a i q1 q2 q3 q4 => by
    rw [cR_I q3 q4, gI_sI, if_neg (by omega), hC.2.1 a i q1, gI_sI, if_neg q2]
  have c35 : gI (cR (sI S' 4 17 f) (-6)) 35 1 = 0 := by rw [cR_I (by omega) (by omega), gI_sI, if_neg (by omega), hC.2.1 _ _ (by omega)]; simp (disch := first | omega | assumption | exact b01_rng _ | exact st_5 | exact st_12 | exact st_19 | (simp only [isSt_sI, isSt_sJ, isSt_sF, isSt_sG, isSt_sA]; assumption)) only [gI_sI, i_lit, i_add, i_sub, i_mul, i_neg, i_lt, i_le, i_eq, i32_gI, i64_gJ, i32_id, i32_to, i64_to, sI_i32, sJ_i64, b01_t, b01_f, i32_b01, b01_0, ↓a_s0, ↓n_s0, ↓a_s1, ↓n_s1, Int.add_zero, t_lt, f_lt, t_le, f_le, t_eq, f_eq, true_and, and_true, false_and, and_false, and_self, ↓reduceIte, z_bool_of, or_true, true_or, or_false, false_or, Int.neg_neg, not_true_eq_false, not_false_eq_true, lg_lt, lg_le, lg_gt, lg_ge, lg_eq, j_lit, j_add, j_sub, j_mul, j_neg, j_eq, i64_id, ij, ji, z_rt, Nat.reduceEqDiff, Nat.reduceAdd, Int.reduceAdd, Int.reduceSub, Int.reduceMul, Int.reduceNeg, Int.reduceLT, Int.reduceLE, Int.reduceEq]
  have c4 : ∀ i, i ≠ 16 → i ≠ 17 → gI (cR (sI S' 4 17 f) (-6)) 4 i = gI S 4 i := fun i q1 q2 => by
    unfold cR; rw [gI_sI, if_neg (by omega), gI_sI, if_neg (by omega), gI_sI, if_neg (by omega), hC.2.1 _ _ (by omega), gI_sI, if_neg (by omega)]
  have c417 : gI (cR (sI S' 4 17 f) (-6)) 4 17 = f := by unfold cR; simp (disch := first | omega | assumption | exact b01_rng _ | exact st_5 | exact st_12 | exact st_19 | (simp only [isSt_sI, isSt_sJ, isSt_sF, isSt_sG, isSt_sA]; assumption)) only [gI_sI, i_lit, i_add, i_sub, i_mul, i_neg, i_lt, i_le, i_eq, i32_gI, i64_gJ, i32_id, i32_to, i64_to, sI_i32, sJ_i64, b01_t, b01_f, i32_b01, b01_0, ↓a_s0, ↓n_s0, ↓a_s1, ↓n_s1, Int.add_zero, t_lt, f_lt, t_le, f_le, t_eq, f_eq, true_and, and_true, false_and, and_false, and_self, ↓reduceIte, z_bool_of, or_true, true_or, or_false, false_or, Int.neg_neg, not_true_eq_false, not_false_eq_true, lg_lt, lg_le, lg_gt, lg_ge, lg_eq, j_lit, j_add, j_sub, j_mul, j_neg, j_eq, i64_id, ij, ji, z_rt, Nat.reduceEqDiff, Nat.reduceAdd, Int.reduceAdd, Int.reduceSub, Int.reduceMul, Int.reduceNeg, Int.reduceLT, Int.reduceLE, Int.reduceEq, rix]
  have c416 : gI (cR (sI S' 4 17 f) (-6)) 4 16 = -6 := by unfold cR; simp (disch := first | omega | assumption | exact b01_rng _ | exact st_5 | exact st_12 | exact st_19 | (simp only [isSt_sI, isSt_sJ, isSt_sF, isSt_sG, isSt_sA]; assumption)) only [gI_sI, i_lit, i_add, i_sub, i_mul, i_neg, i_lt, i_le, i_eq, i32_gI, i64_gJ, i32_id, i32_to, i64_to, sI_i32, sJ_i64, b01_t, b01_f, i32_b01, b01_0, ↓a_s0, ↓n_s0, ↓a_s1, ↓n_s1, Int.add_zero, t_lt, f_lt, t_le, f_le, t_eq, f_eq, true_and, and_true, false_and, and_false, and_self, ↓reduceIte, z_bool_of, or_true, true_or, or_false, false_or, Int.neg_neg, not_true_eq_false, not_false_eq_true, lg_lt, lg_le, lg_gt, lg_ge, lg_eq, j_lit, j_add, j_sub, j_mul, j_neg, j_eq, i64_id, ij, ji, z_rt, Nat.reduceEqDiff, Nat.reduceAdd, Int.reduceAdd, Int.reduceSub, Int.reduceMul, Int.reduceNeg, Int.reduceLT, Int.reduceLE, Int.reduceEq, rix]
  have e71 : ∀ i, gI S' 71 i = gI S 71 i := fun i => by rw [hC.2.1 _ _ (by omega), gI_sI, if_neg (by omega)]
  have c71 : ∀ i, i ≠ 4 → gI (cR (sI S' 4 17 f) (-6)) 71 i = gI S 71 i := fun i q => by
    unfold cR rix; rw [gI_sI, if_neg (by simp only [Int.reduceNeg, Int.reduceEq, if_false]; omega), gI_sI, if_neg (by omega), gI_sI, if_neg (by omega)]; exact e71 i
  have c714 : gI (cR (sI S' 4 17 f) (-6)) 71 4 = i32 (gI S 71 4 + 1) := by
    unfold cR; simp (disch := first | omega | assumption | exact b01_rng _ | exact st_5 | exact st_12 | exact st_19 | (simp only [isSt_sI, isSt_sJ, isSt_sF, isSt_sG, isSt_sA]; assumption)) only [gI_sI, i_lit, i_add, i_sub, i_mul, i_neg, i_lt, i_le, i_eq, i32_gI, i64_gJ, i32_id, i32_to, i64_to, sI_i32, sJ_i64, b01_t, b01_f, i32_b01, b01_0, ↓a_s0, ↓n_s0, ↓a_s1, ↓n_s1, Int.add_zero, t_lt, f_lt, t_le, f_le, t_eq, f_eq, true_and, and_true, false_and, and_false, and_self, ↓reduceIte, z_bool_of, or_true, true_or, or_false, false_or, Int.neg_neg, not_true_eq_false, not_false_eq_true, lg_lt, lg_le, lg_gt, lg_ge, lg_eq, j_lit, j_add, j_sub, j_mul, j_neg, j_eq, i64_id, ij, ji, z_rt, Nat.reduceEqDiff, Nat.reduceAdd, Int.reduceAdd, Int.reduceSub, Int.reduceMul, Int.reduceNeg, Int.reduceLT, Int.reduceLE, Int.reduceEq, rix, e71]
  have cJ : ∀ a i, gJ (cR (sI S' 4 17 f) (-6)) a i = gJ S a i := fun a i => hC.2.2.1 a i
  have cQ : ∀ a i, gQ (cR (sI S' 4 17 f) (-6)) a i = gQ S a i := fun a i => hC.2.2.2 a i
  generalize cR (sI S' 4 17 f) (-6) = C at *
  -- what the reference has
  have hD2 : Dyn C (tellS (sI Z 72 13 0) (-6)) := ((by (repeat (first | exact Dyn.rf | refine Dyn.sI (by decide) ?_ | refine Dyn.sF (by decide) ?_ | refine Dyn.sJ ?_ | refine Dyn.sG ?_ | refine Dyn.sQ (by decide) ?_)) : Dyn C (sI C 72 0 0)).tr hZ.1).tr (by unfold tellS; rw [if_pos (by omega)]; (repeat (first | exact Dyn.rf | refine Dyn.sI (by decide) ?_ | refine Dyn.sF (by decide) ?_ | refine Dyn.sJ ?_ | refine Dyn.sG ?_ | refine Dyn.sQ (by decide) ?_)))
  have t1 : ∀ a i, a ≠ 72 → a ≠ 73 → ¬ (94 ≤ a ∧ a ≤ 98) → gI (tellS (sI Z 72 13 0) (-6)) a i = gI C a i := fun a i q1 q2 q3 => by
    unfold tellS; rw [if_pos (by omega)]; (repeat (first | rw [gI_sI, if_neg (by omega)] | rw [gI_sF, if_neg (by omega)] | rw [gI_sJ] | rw [gI_sG] | rw [gI_sQ])); rw [hZ.2.1 a i (by omega) q3]; (repeat (first | rw [gI_sI, if_neg (by omega)] | rw [gI_sF, if_neg (by omega)] | rw [gI_sJ] | rw [gI_sG] | rw [gI_sQ]))
  have t72 : ∀ i, i = 8 ∨ i = 11 ∨ i = 67 ∨ i = 71 ∨ i = 20 → gI (tellS (sI Z 72 13 0) (-6)) 72 i = gI C 72 i := fun i q => by
    unfold tellS; rw [if_pos (by omega)]; (repeat (first | rw [gI_sI, if_neg (by omega)] | rw [gI_sF, if_neg (by omega)] | rw [gI_sJ] | rw [gI_sG] | rw [gI_sQ])); rw [hZ.2.1 72 i (by omega) (by omega)]; (repeat (first | rw [gI_sI, if_neg (by omega)] | rw [gI_sF, if_neg (by omega)] | rw [gI_sJ] | rw [gI_sG] | rw [gI_sQ]))
  have t13 : gI (tellS (sI Z 72 13 0) (-6)) 72 13 = 0 := by unfold tellS; rw [if_pos (by omega)]; simp (disch := first | omega | assumption | exact b01_rng _ | exact st_5 | exact st_12 | exact st_19 | (simp only [isSt_sI, isSt_sJ, isSt_sF, isSt_sG, isSt_sA]; assumption)) only [gI_sI, i_lit, i_add, i_sub, i_mul, i_neg, i_lt, i_le, i_eq, i32_gI, i64_gJ, i32_id, i32_to, i64_to, sI_i32, sJ_i64, b01_t, b01_f, i32_b01, b01_0, ↓a_s0, ↓n_s0, ↓a_s1, ↓n_s1, Int.add_zero, t_lt, f_lt, t_le, f_le, t_eq, f_eq, true_and, and_true, false_and, and_false, and_self, ↓reduceIte, z_bool_of, or_true, true_or, or_false, false_or, Int.neg_neg, not_true_eq_false, not_false_eq_true, lg_lt, lg_le, lg_gt, lg_ge, lg_eq, j_lit, j_add, j_sub, j_mul, j_neg, j_eq, i64_id, ij, ji, z_rt, Nat.reduceEqDiff, Nat.reduceAdd, Int.reduceAdd, Int.reduceSub, Int.reduceMul, Int.reduceNeg, Int.reduceLT, Int.reduceLE, Int.reduceEq]
  have t18 : gI (tellS (sI Z 72 13 0) (-6)) 72 18 = f := by unfold tellS; rw [if_pos (by omega)]; (repeat (first | rw [gI_sI, if_neg (by omega)] | rw [gI_sF, if_neg (by omega)] | rw [gI_sJ] | rw [gI_sG] | rw [gI_sQ])); exact h18
  have t01 : gI (tellS (sI Z 72 13 0) (-6)) 72 1 = -6 := by unfold tellS; rw [if_pos (by omega)]; simp (disch := first | omega | assumption | exact b01_rng _ | exact st_5 | exact st_12 | exact st_19 | (simp only [isSt_sI, isSt_sJ, isSt_sF, isSt_sG, isSt_sA]; assumption)) only [gI_sI, i_lit, i_add, i_sub, i_mul, i_neg, i_lt, i_le, i_eq, i32_gI, i64_gJ, i32_id, i32_to, i64_to, sI_i32, sJ_i64, b01_t, b01_f, i32_b01, b01_0, ↓a_s0, ↓n_s0, ↓a_s1, ↓n_s1, Int.add_zero, t_lt, f_lt, t_le, f_le, t_eq, f_eq, true_and, and_true, false_and, and_false, and_self, ↓reduceIte, z_bool_of, or_true, true_or, or_false, false_or, Int.neg_neg, not_true_eq_false, not_false_eq_true, lg_lt, lg_le, lg_gt, lg_ge, lg_eq, j_lit, j_add, j_sub, j_mul, j_neg, j_eq, i64_id, ij, ji, z_rt, Nat.reduceEqDiff, Nat.reduceAdd, Int.reduceAdd, Int.reduceSub, Int.reduceMul, Int.reduceNeg, Int.reduceLT, Int.reduceLE, Int.reduceEq]
  have e73 : ∀ i, gI Z 73 i = gI C 73 i := fun i => by rw [hZ.2.1 _ _ (by omega) (by omega)]; (repeat (first | rw [gI_sI, if_neg (by omega)] | rw [gI_sF, if_neg (by omega)] | rw [gI_sJ] | rw [gI_sG] | rw [gI_sQ]))
  have t73 : ∀ i, i ≠ 6 → gI (tellS (sI Z 72 13 0) (-6)) 73 i = gI C 73 i := fun i q => by
    unfold tellS; rw [if_pos (by omega)]; (repeat (first | rw [gI_sI, if_neg (by omega)] | rw [gI_sF, if_neg (by omega)] | rw [gI_sJ] | rw [gI_sG] | rw [gI_sQ])); exact e73 i
  have t736 : gI (tellS (sI Z 72 13 0) (-6)) 73 6 = i32 (gI C 73 6 + 1) := by
    unfold tellS; rw [if_pos (by omega)]; simp (disch := first | omega | assumption | exact b01_rng _ | exact st_5 | exact st_12 | exact st_19 | (simp only [isSt_sI, isSt_sJ, isSt_sF, isSt_sG, isSt_sA]; assumption)) only [gI_sI, i_lit, i_add, i_sub, i_mul, i_neg, i_lt, i_le, i_eq, i32_gI, i64_gJ, i32_id, i32_to, i64_to, sI_i32, sJ_i64, b01_t, b01_f, i32_b01, b01_0, ↓a_s0, ↓n_s0, ↓a_s1, ↓n_s1, Int.add_zero, t_lt, f_lt, t_le, f_le, t_eq, f_eq, true_and, and_true, false_and, and_false, and_self, ↓reduceIte, z_bool_of, or_true, true_or, or_false, false_or, Int.neg_neg, not_true_eq_false, not_false_eq_true, lg_lt, lg_le, lg_gt, lg_ge, lg_eq, j_lit, j_add, j_sub, j_mul, j_neg, j_eq, i64_id, ij, ji, z_rt, Nat.reduceEqDiff, Nat.reduceAdd, Int.reduceAdd, Int.reduceSub, Int.reduceMul, Int.reduceNeg, Int.reduceLT, Int.reduceLE, Int.reduceEq, e73]
  have tJ : ∀ a i, ¬ (a = 72 ∧ i = 17) → gJ (tellS (sI Z 72 13 0) (-6)) a i = gJ C a i := fun a i q => by
    unfold tellS; rw [if_pos (by omega)]; exact hZ.2.2.1 a i q
  have tQ : ∀ a i, gQ (tellS (sI Z 72 13 0) (-6)) a i = gQ C a i := fun a i => by
    unfold tellS; rw [if_pos (by omega)]; exact hZ.2.2.2 a i
  generalize tellS (sI Z 72 13 0) (-6) = F at *
  have hD := hD1.tr hD2
  refine ⟨?_, hD⟩
  have k : ∀ a i, ¬ (37 ≤ a ∧ a ≤ 51) → ¬ (a = 35 ∧ i = 1) → a ≠ 4 → a ≠ 71 → a ≠ 72 → a ≠ 73 → ¬ (94 ≤ a ∧ a ≤ 98) → gI F a i = gI S a i := fun a i q1 q2 q3 q4 q5 q6 q7 => by rw [t1 a i q5 q6 q7, c1 a i q1 q2 q3 q4]
  have kQ : ∀ a i, gQ F a i = gQ S a i := fun a i => (tQ a i).trans (cQ a i)
  have k72 : ∀ i, i = 8 ∨ i = 11 ∨ i = 67 ∨ i = 71 ∨ i = 20 → gI F 72 i = gI S 72 i := fun i q => by rw [t72 i q, c1 72 i (by omega) (by omega) (by omega) (by omega)]
  have hfx := hI.2.2.2.2.2.2
  refine hI.gen (Keep.dyn hG hD) ?_ ?_ ?_ ?_ ?_ ?_ (fun i => k _ _ (by omega) (by omega) (by omega) (by omega) (by omega) (by omega) (by omega)) (fun i => k _ _ (by omega) (by omega) (by omega) (by omega) (by omega) (by omega) (by omega)) (fun i => kQ _ _) (fun b q1 q2 => hD.1 b q1) (by rw [hD.2.1]; exact Nat.le_refl _) (fun b q1 q2 => by rw [(hD.1 b q1).2.2]; exact hI.2.2.2.2.2.1.2.1.1 b q1 (by rw [← hD.2.1]; exact q2)) (fun b i q => by rw [tJ b i (by omega)]; exact cJ b i) (by rw [kQ, kQ]; exact hfx.2.1) (by rw [k72 20 (by omega)]; exact hfx.2.2.1)
  · exact hI.1.fr hG hD (fun i => k _ _ (by omega) (by omega) (by omega) (by omega) (by omega) (by omega) (by omega)) (fun i => k _ _ (by omega) (by omega) (by omega) (by omega) (by omega) (by omega) (by omega)) (fun i => k _ _ (by omega) (by omega) (by omega) (by omega) (by omega) (by omega) (by omega)) (fun i => k _ _ (by omega) (by omega) (by omega) (by omega) (by omega) (by omega) (by omega)) (fun i => k _ _ (by omega) (by omega) (by omega) (by omega) (by omega) (by omega) (by omega)) (fun i => kQ _ _) (fun i => kQ _ _) (fun i => k _ _ (by omega) (by omega) (by omega) (by omega) (by omega) (by omega) (by omega))
  · exact hI.2.1.fr (k _ _ (by omega) (by omega) (by omega) (by omega) (by omega) (by omega) (by omega)) (k72 8 (by omega)) (fun i => k _ _ (by omega) (by omega) (by omega) (by omega) (by omega) (by omega) (by omega)) (fun i => k _ _ (by omega) (by omega) (by omega) (by omega) (by omega) (by omega) (by omega)) (fun i => k _ _ (by omega) (by omega) (by omega) (by omega) (by omega) (by omega) (by omega)) (fun i => k _ _ (by omega) (by omega) (by omega) (by omega) (by omega) (by omega) (by omega)) (fun i => k _ _ (by omega) (by omega) (by omega) (by omega) (by omega) (by omega) (by omega)) (fun i _ _ => k _ _ (by omega) (by omega) (by omega) (by omega) (by omega) (by omega) (by omega))
  · refine ⟨⟨?_, ?_, ?_⟩, fun i q1 q2 => ?_⟩
    · rw [t13, t1 35 1 (by omega) (by omega) (by omega), c35]
    · rw [t13]; omega
    · rw [t13]; omega
    · rw [t13] at q2; omega
  · unfold MsRel
    rw [t1 4 17 (by omega) (by omega) (by omega), t1 4 18 (by omega) (by omega) (by omega), t1 4 19 (by omega) (by omega) (by omega), t1 4 16 (by omega) (by omega) (by omega), c417, c416, c4 18 (by omega) (by omega), c4 19 (by omega) (by omega), t18, t01, k72 11 (by omega), k72 67 (by omega)]
    have e : ∀ i, gI F 71 i = gI C 71 i := fun i => t1 71 i (by omega) (by omega) (by omega)
    simp only [e]
    rw [c71 0 (by omega), c71 1 (by omega), c71 2 (by omega), c71 3 (by omega), c714, t73 1 (by omega), t73 2 (by omega), t73 3 (by omega), t73 5 (by omega), t736]
    have e2 : ∀ i, gI C 73 i = gI S 73 i := fun i => c1 73 i (by omega) (by omega) (by omega) (by omega)
    simp only [e2, m9]
    exact ⟨trivial, m2, m3, trivial, m5, m6, m7, m8, trivial⟩
  · exact hI.2.2.2.2.1.fr (k72 71 (by omega)) (k _ _ (by omega) (by omega) (by omega) (by omega) (by omega) (by omega) (by omega)) (fun i => k _ _ (by omega) (by omega) (by omega) (by omega) (by omega) (by omega) (by omega)) (fun i => k _ _ (by omega) (by omega) (by omega) (by omega) (by omega) (by omega) (by omega))
  · exact hI.2.2.2.2.2.1.1.fr hD (fun i => kQ _ _) (fun i => kQ _ _)
