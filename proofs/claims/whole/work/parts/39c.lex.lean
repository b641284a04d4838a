/-! readTape -/
theorem run_all {p : Int → Prop} {b : Int → Int} {n : Int} : ∀ (m : Nat) (i : Int), (n - i).toNat = m → ∀ j, i ≤ j → j < run p b n i → p (b j) := by
  intro m
  induction m with
  | zero => intro i h j h1 h2; rw [run_f (Or.inl (by omega))] at h2; omega
  | succ m ih =>
    intro i h j h1 h2
    by_cases q : p (b i)
    · by_cases q2 : j = i
      · rw [q2]; exact q
      · rw [run_t (by omega) q] at h2
        exact ih (i + 1) (by omega) j (by omega) h2
    · rw [run_f (Or.inr q)] at h2; omega
theorem wl_rng {b : Int → Int} {i e : Int} : ∀ (r : List Nat) (code nx al : Int), 256 ≤ code → 256 ≤ wl b i e r code nx al ∧ wl b i e r code nx al ≤ max 284 (code + r.length) := by
  intro r
  induction r with
  | nil => intro code nx al h; simp only [wl]; omega
  | cons c r ih =>
    intro code nx al h
    simp only [wl, List.length_cons]
    split
    · have := ih code (nx + 1) (b01 (al ≠ 0 ∧ nx < e ∧ b nx = (c : Int))) h
      omega
    · split
      · omega
      · have := ih (code + 1) i 1 (by omega)
        omega
theorem nv_rng {b : Int → Int} : ∀ (m : Nat) (i v : Int), 0 ≤ v ∧ v ≤ 9999 → (∀ j, i ≤ j → j < i + m → 48 ≤ b j ∧ b j ≤ 57) → 0 ≤ nv b m i v ∧ nv b m i v ≤ 9999 := by
  intro m
  induction m with
  | zero => intro i v h _; exact h
  | succ m ih =>
    intro i v h hd
    have := hd i (by omega) (by omega)
    simp only [nv]
    refine ih (i + 1) _ (by split <;> omega) (fun j h1 h2 => hd j (by omega) (by omega))
noncomputable def tcode (b : Int → Int) (n i : Int) : Int := @ite _ (isL (b i)) (Classical.propDecidable _) (wl b i (tE b n i) z_words 256 i 1) (@ite _ (isD (b i)) (Classical.propDecidable _) 300 (b i))
noncomputable def tval (b : Int → Int) (n i : Int) : Int := @ite _ (isL (b i)) (Classical.propDecidable _) 0 (@ite _ (isD (b i)) (Classical.propDecidable _) (nv b (tE b n i - i).toNat i 0) 0)
/-- the tokens up to one are laid -/
def TokIn (S : zS) (b : Int → Int) (n : Int) (t : Nat) : Prop := ∀ j : Nat, j < t → tpos b n j < n ∧ gI S 40 j = tpos b n j ∧ gI S 38 j = tcode b n (tpos b n j) ∧ gI S 39 j = tval b n (tpos b n j)
/-- all tokens are laid -/
def TokAll (S : zS) (b : Int → Int) (n : Int) (T : Nat) : Prop := TokIn S b n T ∧ tpos b n T = n ∧ T ≤ 400 ∧ gI S 37 3 = T + 1 ∧ gI S 40 T = n ∧ gI S 38 T = 301 ∧ gI S 39 T = 0
theorem TokIn.add {S : zS} {b : Int → Int} {n : Int} {t : Nat} (h : TokIn S b n t) (ht : tpos b n t < n) {c v p : Int} (hc : c = tcode b n (tpos b n t)) (hv : v = tval b n (tpos b n t)) (hp : p = tpos b n t) (r1 : r32 c) (r2 : r32 v) (r3 : r32 p) : TokIn (sI (sI (sI (sI S 38 t c) 39 t v) 40 t p) 37 3 (t + 1)) b n (t + 1) := by
  intro j hj
  by_cases q : j = t
  · subst q
    refine ⟨ht, ?_, ?_, ?_⟩
    · rw [gI_sI, if_neg (by omega), gI_sI, if_pos ⟨rfl, rfl⟩, i32_id r3.1 r3.2, hp]
    · rw [gI_sI, if_neg (by omega), gI_sI, if_neg (by omega), gI_sI, if_neg (by omega), gI_sI, if_pos ⟨rfl, rfl⟩, i32_id r1.1 r1.2, hc]
    · rw [gI_sI, if_neg (by omega), gI_sI, if_neg (by omega), gI_sI, if_pos ⟨rfl, rfl⟩, i32_id r2.1 r2.2, hv]
  · obtain ⟨w1, w2, w3, w4⟩ := h j (by omega)
    refine ⟨w1, ?_, ?_, ?_⟩
    · rw [gI_sI, if_neg (by omega), gI_sI, if_neg (by omega), gI_sI, if_neg (by omega), gI_sI, if_neg (by omega)]; exact w2
    · rw [gI_sI, if_neg (by omega), gI_sI, if_neg (by omega), gI_sI, if_neg (by omega), gI_sI, if_neg (by omega)]; exact w3
    · rw [gI_sI, if_neg (by omega), gI_sI, if_neg (by omega), gI_sI, if_neg (by omega), gI_sI, if_neg (by omega)]; exact w4
/-- what tokens change -/
def FrT (S S' : zS) : Prop := Dyn S S' ∧ (∀ a i, a ≠ 38 → a ≠ 39 → a ≠ 40 → ¬ (a = 37 ∧ 3 ≤ i ∧ i ≤ 5) → gI S' a i = gI S a i) ∧ (∀ a i, gJ S' a i = gJ S a i) ∧ (∀ a i, gQ S' a i = gQ S a i)
theorem FrT.tr {A B C : zS} (h1 : FrT A B) (h2 : FrT B C) : FrT A C := ⟨h1.1.tr h2.1, fun a i q1 q2 q3 q4 => (h2.2.1 a i q1 q2 q3 q4).trans (h1.2.1 a i q1 q2 q3 q4), fun a i => (h2.2.2.1 a i).trans (h1.2.2.1 a i), fun a i => (h2.2.2.2 a i).trans (h1.2.2.2 a i)⟩
theorem FrT.add {S : zS} {t c v p : Int} : FrT S (sI (sI (sI (sI S 38 t c) 39 t v) 40 t p) 37 3 (t + 1)) :=
  ⟨by (repeat (first | exact Dyn.rf | refine Dyn.sI (by decide) ?_ | refine Dyn.sF (by decide) ?_ | refine Dyn.sJ ?_ | refine Dyn.sG ?_ | refine Dyn.sQ (by decide) ?_)), fun a i q1 q2 q3 q4 => by (repeat (first | rw [gI_sI, if_neg (by omega)] | rw [gI_sF, if_neg (by omega)] | rw [gI_sJ] | rw [gI_sG] | rw [gI_sQ])), fun _ _ => rfl, fun _ _ => rfl⟩
theorem l84 {X : zX} {d : Nat} (hd : 2 ≤ d) {n : Int} (hn2 : n ≤ 400) {b : Int → Int} (hb : ∀ i, 0 ≤ i → i < n → 0 ≤ b i ∧ b i ≤ 255) : ∀ (m : Nat) (i : Int) (t : Nat) (x2 x4 : Option Value) (S : zS), (n - i).toNat = m → 0 ≤ i → i ≤ n → gI S 35 1 = n → gI S 36 = b → gI S 37 3 = t → (t : Int) ≤ i → skp b n i = tpos b n t → TokIn S b n t → ∃ (T : Nat) (S' : zS), z_ev X d (84, 17, [some (.ref 37), some (.ref 35), x2, some (.int (Int32.ofInt i)), x4], [], mk S) = some (none, mk S') ∧ TokAll S' b n T ∧ FrT S S' ∧ gI S' 37 4 = gI S 37 4 ∧ gI S' 37 5 = gI S 37 5 := by
  intro m
  induction m using Nat.strongRecOn with
  | _ m ih =>
    intro i t x2 x4 S hm h0 h1 h2 h3 h4 h5 h6 h7
    by_cases q : i = n
    · subst q
      have hpos : tpos b i t = i := by rw [← h6]; exact run_f (Or.inl (Int.le_refl _))
      refine ⟨t, sI (sI (sI (sI S 38 t 301) 39 t 0) 40 t i) 37 3 (t + 1), ?_, ?_, FrT.add, by (repeat (first | rw [gI_sI, if_neg (by omega)] | rw [gI_sF, if_neg (by omega)] | rw [gI_sJ] | rw [gI_sG] | rw [gI_sQ])), by (repeat (first | rw [gI_sI, if_neg (by omega)] | rw [gI_sF, if_neg (by omega)] | rw [gI_sJ] | rw [gI_sG] | rw [gI_sQ]))⟩
      · rw [B84_17]
        simp (disch := first | omega | assumption | exact b01_rng _ | exact st_5 | exact st_12 | exact st_19 | (simp only [isSt_sI, isSt_sJ, isSt_sF, isSt_sG, isSt_sA]; assumption)) only [↓B84_112, ↓B84_124, ↓o_35, ↓o_37, ↓r_35_1, ↓w_37_3, ↓w_37_4, ↓w_37_5, c85, i_lit, i_add, i_sub, i_mul, i_neg, i_lt, i_le, i_eq, i32_gI, i64_gJ, i32_id, i32_to, i64_to, sI_i32, sJ_i64, b01_t, b01_f, i32_b01, b01_0, ↓a_s0, ↓n_s0, ↓a_s1, ↓n_s1, Int.add_zero, t_lt, f_lt, t_le, f_le, t_eq, f_eq, true_and, and_true, false_and, and_false, and_self, ↓reduceIte, z_bool_of, or_true, true_or, or_false, false_or, Int.neg_neg, not_true_eq_false, not_false_eq_true, lg_lt, lg_le, lg_gt, lg_ge, lg_eq, j_lit, j_add, j_sub, j_mul, j_neg, j_eq, i64_id, ij, ji, z_rt, Nat.reduceEqDiff, Nat.reduceAdd, Int.reduceAdd, Int.reduceSub, Int.reduceMul, Int.reduceNeg, Int.reduceLT, Int.reduceLE, Int.reduceEq, h2, h4]
      · refine ⟨fun j hj => ?_, hpos, by omega, ?_, ?_, ?_, ?_⟩
        · obtain ⟨w1, w2, w3, w4⟩ := h7 j hj
          refine ⟨w1, ?_, ?_, ?_⟩
          · rw [gI_sI, if_neg (by omega), gI_sI, if_neg (by omega), gI_sI, if_neg (by omega), gI_sI, if_neg (by omega)]; exact w2
          · rw [gI_sI, if_neg (by omega), gI_sI, if_neg (by omega), gI_sI, if_neg (by omega), gI_sI, if_neg (by omega)]; exact w3
          · rw [gI_sI, if_neg (by omega), gI_sI, if_neg (by omega), gI_sI, if_neg (by omega), gI_sI, if_neg (by omega)]; exact w4
        · simp (disch := first | omega | assumption | exact b01_rng _ | exact st_5 | exact st_12 | exact st_19 | (simp only [isSt_sI, isSt_sJ, isSt_sF, isSt_sG, isSt_sA]; assumption)) only [gI_sI, i_lit, i_add, i_sub, i_mul, i_neg, i_lt, i_le, i_eq, i32_gI, i64_gJ, i32_id, i32_to, i64_to, sI_i32, sJ_i64, b01_t, b01_f, i32_b01, b01_0, ↓a_s0, ↓n_s0, ↓a_s1, ↓n_s1, Int.add_zero, t_lt, f_lt, t_le, f_le, t_eq, f_eq, true_and, and_true, false_and, and_false, and_self, ↓reduceIte, z_bool_of, or_true, true_or, or_false, false_or, Int.neg_neg, not_true_eq_false, not_false_eq_true, lg_lt, lg_le, lg_gt, lg_ge, lg_eq, j_lit, j_add, j_sub, j_mul, j_neg, j_eq, i64_id, ij, ji, z_rt, Nat.reduceEqDiff, Nat.reduceAdd, Int.reduceAdd, Int.reduceSub, Int.reduceMul, Int.reduceNeg, Int.reduceLT, Int.reduceLE, Int.reduceEq]
        · simp (disch := first | omega | assumption | exact b01_rng _ | exact st_5 | exact st_12 | exact st_19 | (simp only [isSt_sI, isSt_sJ, isSt_sF, isSt_sG, isSt_sA]; assumption)) only [gI_sI, i_lit, i_add, i_sub, i_mul, i_neg, i_lt, i_le, i_eq, i32_gI, i64_gJ, i32_id, i32_to, i64_to, sI_i32, sJ_i64, b01_t, b01_f, i32_b01, b01_0, ↓a_s0, ↓n_s0, ↓a_s1, ↓n_s1, Int.add_zero, t_lt, f_lt, t_le, f_le, t_eq, f_eq, true_and, and_true, false_and, and_false, and_self, ↓reduceIte, z_bool_of, or_true, true_or, or_false, false_or, Int.neg_neg, not_true_eq_false, not_false_eq_true, lg_lt, lg_le, lg_gt, lg_ge, lg_eq, j_lit, j_add, j_sub, j_mul, j_neg, j_eq, i64_id, ij, ji, z_rt, Nat.reduceEqDiff, Nat.reduceAdd, Int.reduceAdd, Int.reduceSub, Int.reduceMul, Int.reduceNeg, Int.reduceLT, Int.reduceLE, Int.reduceEq]
        · simp (disch := first | omega | assumption | exact b01_rng _ | exact st_5 | exact st_12 | exact st_19 | (simp only [isSt_sI, isSt_sJ, isSt_sF, isSt_sG, isSt_sA]; assumption)) only [gI_sI, i_lit, i_add, i_sub, i_mul, i_neg, i_lt, i_le, i_eq, i32_gI, i64_gJ, i32_id, i32_to, i64_to, sI_i32, sJ_i64, b01_t, b01_f, i32_b01, b01_0, ↓a_s0, ↓n_s0, ↓a_s1, ↓n_s1, Int.add_zero, t_lt, f_lt, t_le, f_le, t_eq, f_eq, true_and, and_true, false_and, and_false, and_self, ↓reduceIte, z_bool_of, or_true, true_or, or_false, false_or, Int.neg_neg, not_true_eq_false, not_false_eq_true, lg_lt, lg_le, lg_gt, lg_ge, lg_eq, j_lit, j_add, j_sub, j_mul, j_neg, j_eq, i64_id, ij, ji, z_rt, Nat.reduceEqDiff, Nat.reduceAdd, Int.reduceAdd, Int.reduceSub, Int.reduceMul, Int.reduceNeg, Int.reduceLT, Int.reduceLE, Int.reduceEq]
        · simp (disch := first | omega | assumption | exact b01_rng _ | exact st_5 | exact st_12 | exact st_19 | (simp only [isSt_sI, isSt_sJ, isSt_sF, isSt_sG, isSt_sA]; assumption)) only [gI_sI, i_lit, i_add, i_sub, i_mul, i_neg, i_lt, i_le, i_eq, i32_gI, i64_gJ, i32_id, i32_to, i64_to, sI_i32, sJ_i64, b01_t, b01_f, i32_b01, b01_0, ↓a_s0, ↓n_s0, ↓a_s1, ↓n_s1, Int.add_zero, t_lt, f_lt, t_le, f_le, t_eq, f_eq, true_and, and_true, false_and, and_false, and_self, ↓reduceIte, z_bool_of, or_true, true_or, or_false, false_or, Int.neg_neg, not_true_eq_false, not_false_eq_true, lg_lt, lg_le, lg_gt, lg_ge, lg_eq, j_lit, j_add, j_sub, j_mul, j_neg, j_eq, i64_id, ij, ji, z_rt, Nat.reduceEqDiff, Nat.reduceAdd, Int.reduceAdd, Int.reduceSub, Int.reduceMul, Int.reduceNeg, Int.reduceLT, Int.reduceLE, Int.reduceEq]
    · have hi : i < n := by omega
      have hbi := hb i h0 hi
      have hbi' : 0 ≤ gI S 36 i ∧ gI S 36 i ≤ 255 := by rw [h3]; exact hbi
      have hbS : ∀ i, 0 ≤ i → i < n → 0 ≤ gI S 36 i ∧ gI S 36 i ≤ 255 := by rw [h3]; exact hb
      have hE := tE_rng (b := b) hi
      have hmax : max (tE b n i) (i + 1) = tE b n i := Int.max_eq_left (by omega)
      by_cases qb : b i = 32
      · -- a blank
        have hnl : ¬ (97 ≤ gI S 36 i ∧ gI S 36 i ≤ 122) := by rw [h3]; omega
        have hnd : ¬ (48 ≤ gI S 36 i ∧ gI S 36 i ≤ 57) := by rw [h3]; omega
        have hte : tE b n i = i + 1 := by
          unfold tE isL isD
          rw [if_neg (by omega), if_neg (by omega)]
        have hs : skp b n (i + 1) = tpos b n t := by rw [← h6]; exact (run_t (p := fun c => c = 32) hi qb).symm
        obtain ⟨T, S', g1, g2, g3, g4, g5⟩ := ih (n - (i + 1)).toNat (by omega) (i + 1) t (some (.int (Int32.ofInt (i + 1)))) (some (.int (Int32.ofInt 32))) S rfl (by omega) (by omega) h2 h3 h4 (by omega) hs h7
        refine ⟨T, S', ?_, g2, g3, g4, g5⟩
        rw [← g1, B84_17]
        have c88' := fun {cm cp : Nat} {L : zL} {st : List Value} => c88 (X := X) (d := d) (S := S) (by omega) n i h2 hn2 hbS (by omega) (cm := cm) (cp := cp) (L := L) (st := st)
        rw [h3, hte] at c88'
        have e36 : gI S 36 i = 32 := by rw [h3]; exact qb
        simp (disch := first | omega | assumption | exact b01_rng _ | exact st_5 | exact st_12 | exact st_19 | (simp only [isSt_sI, isSt_sJ, isSt_sF, isSt_sG, isSt_sA]; assumption)) only [↓B84_25, ↓B84_30, ↓B84_36, ↓B84_43, ↓B84_61, ↓B84_66, ↓B84_86, ↓B84_101, ↓B84_108, ↓o_35, ↓o_37, ↓r_35_1, ↓w_37_3, ↓w_37_4, ↓w_37_5, c88', c82a, c86, c87, c272, i_lit, i_add, i_sub, i_mul, i_neg, i_lt, i_le, i_eq, i32_gI, i64_gJ, i32_id, i32_to, i64_to, sI_i32, sJ_i64, b01_t, b01_f, i32_b01, b01_0, ↓a_s0, ↓n_s0, ↓a_s1, ↓n_s1, Int.add_zero, t_lt, f_lt, t_le, f_le, t_eq, f_eq, true_and, and_true, false_and, and_false, and_self, ↓reduceIte, z_bool_of, or_true, true_or, or_false, false_or, Int.neg_neg, not_true_eq_false, not_false_eq_true, lg_lt, lg_le, lg_gt, lg_ge, lg_eq, j_lit, j_add, j_sub, j_mul, j_neg, j_eq, i64_id, ij, ji, z_rt, Nat.reduceEqDiff, Nat.reduceAdd, Int.reduceAdd, Int.reduceSub, Int.reduceMul, Int.reduceNeg, Int.reduceLT, Int.reduceLE, Int.reduceEq, h2, e36, Int.max_self]
      · have hps : tpos b n t = i := by rw [← h6]; exact run_f (p := fun c => c = 32) (Or.inr qb)
        have hnx : skp b n (tE b n i) = tpos b n (t + 1) := by
          show _ = @ite _ (tpos b n t < n) (Classical.propDecidable _) (skp b n (tE b n (tpos b n t))) n
          rw [hps, if_pos hi]
        have c88' := fun {cm cp : Nat} {L : zL} {st : List Value} => c88 (X := X) (d := d) (S := S) (by omega) n i h2 hn2 hbS (by omega) (cm := cm) (cp := cp) (L := L) (st := st)
        rw [h3] at c88'
        -- what is the same for each sort of token
        have fin : ∀ (c v : Int), c = tcode b n i → v = tval b n i → r32 c → r32 v → (∀ (x4' : Option Value), ∃ (T : Nat) (S' : zS), z_ev X d (84, 17, [some (.ref 37), some (.ref 35), some (.int (Int32.ofInt (tE b n i))), some (.int (Int32.ofInt (tE b n i))), x4'], [], mk (sI (sI (sI (sI S 38 t c) 39 t v) 40 t i) 37 3 (t + 1))) = some (none, mk S') ∧ TokAll S' b n T ∧ FrT S S' ∧ gI S' 37 4 = gI S 37 4 ∧ gI S' 37 5 = gI S 37 5) := by
          intro c v hc hv r1 r2 x4'
          obtain ⟨T, S', g1, g2, g3, g4, g5⟩ := ih (n - tE b n i).toNat (by omega) (tE b n i) (t + 1) (some (.int (Int32.ofInt (tE b n i)))) x4' (sI (sI (sI (sI S 38 t c) 39 t v) 40 t i) 37 3 (t + 1)) rfl (by omega) (by omega) (by (repeat (first | rw [gI_sI, if_neg (by omega)] | rw [gI_sF, if_neg (by omega)] | rw [gI_sJ] | rw [gI_sG] | rw [gI_sQ])); exact h2) (by rw [← h3]; funext j; (repeat (first | rw [gI_sI, if_neg (by omega)] | rw [gI_sF, if_neg (by omega)] | rw [gI_sJ] | rw [gI_sG] | rw [gI_sQ]))) (by simp (disch := first | omega | assumption | exact b01_rng _ | exact st_5 | exact st_12 | exact st_19 | (simp only [isSt_sI, isSt_sJ, isSt_sF, isSt_sG, isSt_sA]; assumption)) only [gI_sI, i_lit, i_add, i_sub, i_mul, i_neg, i_lt, i_le, i_eq, i32_gI, i64_gJ, i32_id, i32_to, i64_to, sI_i32, sJ_i64, b01_t, b01_f, i32_b01, b01_0, ↓a_s0, ↓n_s0, ↓a_s1, ↓n_s1, Int.add_zero, t_lt, f_lt, t_le, f_le, t_eq, f_eq, true_and, and_true, false_and, and_false, and_self, ↓reduceIte, z_bool_of, or_true, true_or, or_false, false_or, Int.neg_neg, not_true_eq_false, not_false_eq_true, lg_lt, lg_le, lg_gt, lg_ge, lg_eq, j_lit, j_add, j_sub, j_mul, j_neg, j_eq, i64_id, ij, ji, z_rt, Nat.reduceEqDiff, Nat.reduceAdd, Int.reduceAdd, Int.reduceSub, Int.reduceMul, Int.reduceNeg, Int.reduceLT, Int.reduceLE, Int.reduceEq]) (by omega) hnx (h7.add (by omega) (by rw [hps]; exact hc) (by rw [hps]; exact hv) hps.symm r1 r2 (by omega))
          refine ⟨T, S', g1, g2, FrT.add.tr g3, by rw [g4]; (repeat (first | rw [gI_sI, if_neg (by omega)] | rw [gI_sF, if_neg (by omega)] | rw [gI_sJ] | rw [gI_sG] | rw [gI_sQ])), by rw [g5]; (repeat (first | rw [gI_sI, if_neg (by omega)] | rw [gI_sF, if_neg (by omega)] | rw [gI_sJ] | rw [gI_sG] | rw [gI_sQ]))⟩
        by_cases ql : 97 ≤ b i ∧ b i ≤ 122
        · have hw := wl_rng (b := b) (i := i) (e := tE b n i) z_words 256 i 1 (by omega)
          have hw2 : wl b i (tE b n i) z_words 256 i 1 ≤ 396 := by have := hw.2; rw [show (z_words.length : Int) = 140 from rfl] at this; omega
          obtain ⟨T, S', g1, g2⟩ := fin (wl b i (tE b n i) z_words 256 i 1) 0 (by unfold tcode; rw [if_pos (show isL (b i) from ql)]) (by unfold tval; rw [if_pos (show isL (b i) from ql)]) (by omega) (by omega) (some (.int (Int32.ofInt (b i))))
          refine ⟨T, S', ?_, g2⟩
          rw [← g1, B84_17]
          have c89' := fun {cm cp : Nat} {L : zL} {st : List Value} => c89 (X := X) (d := d) (S := S) (by omega) n i (tE b n i) h2 hn2 hbS (by omega) (cm := cm) (cp := cp) (L := L) (st := st)
          rw [h3] at c89'
          have e36 : gI S 36 i = b i := by rw [h3]
          simp (disch := first | omega | assumption | exact b01_rng _ | exact st_5 | exact st_12 | exact st_19 | (simp only [isSt_sI, isSt_sJ, isSt_sF, isSt_sG, isSt_sA]; assumption)) only [↓B84_25, ↓B84_30, ↓B84_36, ↓B84_43, ↓B84_46, ↓B84_53, ↓B84_58, ↓B84_101, ↓B84_108, ↓o_35, ↓o_37, ↓r_35_1, ↓w_37_3, ↓w_37_4, ↓w_37_5, c88', c89', c82a, c86, c87, c85, c272, i_lit, i_add, i_sub, i_mul, i_neg, i_lt, i_le, i_eq, i32_gI, i64_gJ, i32_id, i32_to, i64_to, sI_i32, sJ_i64, b01_t, b01_f, i32_b01, b01_0, ↓a_s0, ↓n_s0, ↓a_s1, ↓n_s1, Int.add_zero, t_lt, f_lt, t_le, f_le, t_eq, f_eq, true_and, and_true, false_and, and_false, and_self, ↓reduceIte, z_bool_of, or_true, true_or, or_false, false_or, Int.neg_neg, not_true_eq_false, not_false_eq_true, lg_lt, lg_le, lg_gt, lg_ge, lg_eq, j_lit, j_add, j_sub, j_mul, j_neg, j_eq, i64_id, ij, ji, z_rt, Nat.reduceEqDiff, Nat.reduceAdd, Int.reduceAdd, Int.reduceSub, Int.reduceMul, Int.reduceNeg, Int.reduceLT, Int.reduceLE, Int.reduceEq, h2, e36, hmax, h4]
        · by_cases qd : 48 ≤ b i ∧ b i ≤ 57
          · have hdg : ∀ j, i ≤ j → j < tE b n i → 48 ≤ b j ∧ b j ≤ 57 := by
              intro j q1 q2
              unfold tE at q2
              rw [if_neg (show ¬ isL (b i) from ql), if_pos (show isD (b i) from qd)] at q2
              by_cases q3 : j = i
              · rw [q3]; exact qd
              · exact run_all (p := isD) (b := b) (n := n) _ (i + 1) rfl j (by omega) q2
            have hv := nv_rng (b := b) (tE b n i - i).toNat i 0 (by omega) (fun j q1 q2 => hdg j q1 (by omega))
            obtain ⟨T, S', g1, g2⟩ := fin 300 (nv b (tE b n i - i).toNat i 0) (by unfold tcode; rw [if_neg (show ¬ isL (b i) from ql), if_pos (show isD (b i) from qd)]) (by unfold tval; rw [if_neg (show ¬ isL (b i) from ql), if_pos (show isD (b i) from qd)]) (by omega) (by omega) (some (.int (Int32.ofInt (b i))))
            refine ⟨T, S', ?_, g2⟩
            rw [← g1, B84_17]
            have c90' := fun {cm cp : Nat} {L : zL} {st : List Value} => c90 (X := X) (d := d) (S := S) (by omega) n i (tE b n i) h2 hn2 hbS (by omega) (by rw [h3]; exact hdg) (cm := cm) (cp := cp) (L := L) (st := st)
            rw [h3] at c90'
            have e36 : gI S 36 i = b i := by rw [h3]
            simp (disch := first | omega | assumption | exact b01_rng _ | exact st_5 | exact st_12 | exact st_19 | (simp only [isSt_sI, isSt_sJ, isSt_sF, isSt_sG, isSt_sA]; assumption)) only [↓B84_25, ↓B84_30, ↓B84_36, ↓B84_43, ↓B84_61, ↓B84_66, ↓B84_69, ↓B84_79, ↓B84_83, ↓B84_101, ↓B84_108, ↓o_35, ↓o_37, ↓r_35_1, ↓w_37_3, ↓w_37_4, ↓w_37_5, c88', c90', c82a, c86, c87, c85, c272, i_lit, i_add, i_sub, i_mul, i_neg, i_lt, i_le, i_eq, i32_gI, i64_gJ, i32_id, i32_to, i64_to, sI_i32, sJ_i64, b01_t, b01_f, i32_b01, b01_0, ↓a_s0, ↓n_s0, ↓a_s1, ↓n_s1, Int.add_zero, t_lt, f_lt, t_le, f_le, t_eq, f_eq, true_and, and_true, false_and, and_false, and_self, ↓reduceIte, z_bool_of, or_true, true_or, or_false, false_or, Int.neg_neg, not_true_eq_false, not_false_eq_true, lg_lt, lg_le, lg_gt, lg_ge, lg_eq, j_lit, j_add, j_sub, j_mul, j_neg, j_eq, i64_id, ij, ji, z_rt, Nat.reduceEqDiff, Nat.reduceAdd, Int.reduceAdd, Int.reduceSub, Int.reduceMul, Int.reduceNeg, Int.reduceLT, Int.reduceLE, Int.reduceEq, h2, e36, hmax, h4, ql]
          · obtain ⟨T, S', g1, g2⟩ := fin (b i) 0 (by unfold tcode; rw [if_neg (show ¬ isL (b i) from ql), if_neg (show ¬ isD (b i) from qd)]) (by unfold tval; rw [if_neg (show ¬ isL (b i) from ql), if_neg (show ¬ isD (b i) from qd)]) (by omega) (by omega) (some (.int (Int32.ofInt (b i))))
            refine ⟨T, S', ?_, g2⟩
            rw [← g1, B84_17]
            have e36 : gI S 36 i = b i := by rw [h3]
            simp (disch := first | omega | assumption | exact b01_rng _ | exact st_5 | exact st_12 | exact st_19 | (simp only [isSt_sI, isSt_sJ, isSt_sF, isSt_sG, isSt_sA]; assumption)) only [↓B84_25, ↓B84_30, ↓B84_36, ↓B84_43, ↓B84_61, ↓B84_66, ↓B84_86, ↓B84_93, ↓B84_101, ↓B84_108, ↓o_35, ↓o_37, ↓r_35_1, ↓w_37_3, ↓w_37_4, ↓w_37_5, c88', c82a, c86, c87, c85, c272, i_lit, i_add, i_sub, i_mul, i_neg, i_lt, i_le, i_eq, i32_gI, i64_gJ, i32_id, i32_to, i64_to, sI_i32, sJ_i64, b01_t, b01_f, i32_b01, b01_0, ↓a_s0, ↓n_s0, ↓a_s1, ↓n_s1, Int.add_zero, t_lt, f_lt, t_le, f_le, t_eq, f_eq, true_and, and_true, false_and, and_false, and_self, ↓reduceIte, z_bool_of, or_true, true_or, or_false, false_or, Int.neg_neg, not_true_eq_false, not_false_eq_true, lg_lt, lg_le, lg_gt, lg_ge, lg_eq, j_lit, j_add, j_sub, j_mul, j_neg, j_eq, i64_id, ij, ji, z_rt, Nat.reduceEqDiff, Nat.reduceAdd, Int.reduceAdd, Int.reduceSub, Int.reduceMul, Int.reduceNeg, Int.reduceLT, Int.reduceLE, Int.reduceEq, h2, e36, hmax, h4, ql, qd, qb]
theorem x84 {X : zX} {d : Nat} (hd : 2 ≤ d) {S : zS} {n : Int} (hn : gI S 35 1 = n) (hn2 : 0 ≤ n ∧ n ≤ 400) (hb : ∀ i, 0 ≤ i → i < n → 0 ≤ gI S 36 i ∧ gI S 36 i ≤ 255) : ∃ (T : Nat) (S' : zS), z_ev X d (z_entry 84 [.ref 37, .ref 35] (mk S)) = some (none, mk S') ∧ TokAll S' (gI S 36) n T ∧ FrT S S' ∧ gI S' 37 4 = 0 ∧ gI S' 37 5 = -1 := by
  show ∃ (T : Nat) (S' : zS), z_ev X d (84, 0, [some (.ref 37), some (.ref 35), none, none, none], [], mk S) = _ ∧ _
  obtain ⟨T, S', g1, g2, g3, g4, g5⟩ := l84 (X := X) (d := d) hd (n := n) (by omega) (b := gI S 36) hb (n - 0).toNat 0 0 none none (sI (sI (sI S 37 3 0) 37 4 0) 37 5 (-1)) rfl (by omega) (by omega) (by (repeat (first | rw [gI_sI, if_neg (by omega)] | rw [gI_sF, if_neg (by omega)] | rw [gI_sJ] | rw [gI_sG] | rw [gI_sQ])); exact hn) (by funext j; (repeat (first | rw [gI_sI, if_neg (by omega)] | rw [gI_sF, if_neg (by omega)] | rw [gI_sJ] | rw [gI_sG] | rw [gI_sQ]))) (by simp (disch := first | omega | assumption | exact b01_rng _ | exact st_5 | exact st_12 | exact st_19 | (simp only [isSt_sI, isSt_sJ, isSt_sF, isSt_sG, isSt_sA]; assumption)) only [gI_sI, i_lit, i_add, i_sub, i_mul, i_neg, i_lt, i_le, i_eq, i32_gI, i64_gJ, i32_id, i32_to, i64_to, sI_i32, sJ_i64, b01_t, b01_f, i32_b01, b01_0, ↓a_s0, ↓n_s0, ↓a_s1, ↓n_s1, Int.add_zero, t_lt, f_lt, t_le, f_le, t_eq, f_eq, true_and, and_true, false_and, and_false, and_self, ↓reduceIte, z_bool_of, or_true, true_or, or_false, false_or, Int.neg_neg, not_true_eq_false, not_false_eq_true, lg_lt, lg_le, lg_gt, lg_ge, lg_eq, j_lit, j_add, j_sub, j_mul, j_neg, j_eq, i64_id, ij, ji, z_rt, Nat.reduceEqDiff, Nat.reduceAdd, Int.reduceAdd, Int.reduceSub, Int.reduceMul, Int.reduceNeg, Int.reduceLT, Int.reduceLE, Int.reduceEq]) (by omega) rfl (fun j hj => by omega)
  have g0 : FrT S (sI (sI (sI S 37 3 0) 37 4 0) 37 5 (-1)) := ⟨by (repeat (first | exact Dyn.rf | refine Dyn.sI (by decide) ?_ | refine Dyn.sF (by decide) ?_ | refine Dyn.sJ ?_ | refine Dyn.sG ?_ | refine Dyn.sQ (by decide) ?_)), fun a i q1 q2 q3 q4 => by (repeat (first | rw [gI_sI, if_neg (by omega)] | rw [gI_sF, if_neg (by omega)] | rw [gI_sJ] | rw [gI_sG] | rw [gI_sQ])), fun _ _ => rfl, fun _ _ => rfl⟩
  refine ⟨T, S', ?_, g2, g0.tr g3, ?_, ?_⟩
  · rw [← g1]
    simp (disch := first | omega | assumption | exact b01_rng _ | exact st_5 | exact st_12 | exact st_19 | (simp only [isSt_sI, isSt_sJ, isSt_sF, isSt_sG, isSt_sA]; assumption)) only [↓B84_0, ↓o_35, ↓o_37, ↓r_35_1, ↓w_37_3, ↓w_37_4, ↓w_37_5, i_lit, i_add, i_sub, i_mul, i_neg, i_lt, i_le, i_eq, i32_gI, i64_gJ, i32_id, i32_to, i64_to, sI_i32, sJ_i64, b01_t, b01_f, i32_b01, b01_0, ↓a_s0, ↓n_s0, ↓a_s1, ↓n_s1, Int.add_zero, t_lt, f_lt, t_le, f_le, t_eq, f_eq, true_and, and_true, false_and, and_false, and_self, ↓reduceIte, z_bool_of, or_true, true_or, or_false, false_or, Int.neg_neg, not_true_eq_false, not_false_eq_true, lg_lt, lg_le, lg_gt, lg_ge, lg_eq, j_lit, j_add, j_sub, j_mul, j_neg, j_eq, i64_id, ij, ji, z_rt, Nat.reduceEqDiff, Nat.reduceAdd, Int.reduceAdd, Int.reduceSub, Int.reduceMul, Int.reduceNeg, Int.reduceLT, Int.reduceLE, Int.reduceEq]
  · rw [g4]; simp (disch := first | omega | assumption | exact b01_rng _ | exact st_5 | exact st_12 | exact st_19 | (simp only [isSt_sI, isSt_sJ, isSt_sF, isSt_sG, isSt_sA]; assumption)) only [gI_sI, i_lit, i_add, i_sub, i_mul, i_neg, i_lt, i_le, i_eq, i32_gI, i64_gJ, i32_id, i32_to, i64_to, sI_i32, sJ_i64, b01_t, b01_f, i32_b01, b01_0, ↓a_s0, ↓n_s0, ↓a_s1, ↓n_s1, Int.add_zero, t_lt, f_lt, t_le, f_le, t_eq, f_eq, true_and, and_true, false_and, and_false, and_self, ↓reduceIte, z_bool_of, or_true, true_or, or_false, false_or, Int.neg_neg, not_true_eq_false, not_false_eq_true, lg_lt, lg_le, lg_gt, lg_ge, lg_eq, j_lit, j_add, j_sub, j_mul, j_neg, j_eq, i64_id, ij, ji, z_rt, Nat.reduceEqDiff, Nat.reduceAdd, Int.reduceAdd, Int.reduceSub, Int.reduceMul, Int.reduceNeg, Int.reduceLT, Int.reduceLE, Int.reduceEq]
  · rw [g5]; simp (disch := first | omega | assumption | exact b01_rng _ | exact st_5 | exact st_12 | exact st_19 | (simp only [isSt_sI, isSt_sJ, isSt_sF, isSt_sG, isSt_sA]; assumption)) only [gI_sI, i_lit, i_add, i_sub, i_mul, i_neg, i_lt, i_le, i_eq, i32_gI, i64_gJ, i32_id, i32_to, i64_to, sI_i32, sJ_i64, b01_t, b01_f, i32_b01, b01_0, ↓a_s0, ↓n_s0, ↓a_s1, ↓n_s1, Int.add_zero, t_lt, f_lt, t_le, f_le, t_eq, f_eq, true_and, and_true, false_and, and_false, and_self, ↓reduceIte, z_bool_of, or_true, true_or, or_false, false_or, Int.neg_neg, not_true_eq_false, not_false_eq_true, lg_lt, lg_le, lg_gt, lg_ge, lg_eq, j_lit, j_add, j_sub, j_mul, j_neg, j_eq, i64_id, ij, ji, z_rt, Nat.reduceEqDiff, Nat.reduceAdd, Int.reduceAdd, Int.reduceSub, Int.reduceMul, Int.reduceNeg, Int.reduceLT, Int.reduceLE, Int.reduceEq]
