/-! the class: flowThrough, takes, reachOf -/
section
variable {X : zX} {d : Nat} {a m : Nat} {E : Ln} {F : Nat → Lg} {k nx ot : Int → Int}
theorem l51 (hd : 0 < d) (hG : Gr k nx ot m F) {st : Int} : ∀ (j : Nat) (S : zS) (x4 x5 : Option Value), j ≤ m → MtC S a m → BtL S E → gI S (a + 1) = k → gI S (a + 2) = nx → gI S (a + 3) = ot → ∃ S' : zS, z_ev X d (51, 26, L51 a st ((j : Int) - 1) x4 x5, [], mk S) = some (none, mk S') ∧ FrFw S S' ∧ (∀ (b A : Nat → Int → Prop) (s0 : Nat), Fam E F b A → (∀ j p, j < m → b j p → A j p) → Fl s0 m b A (Qs S) j → Fl s0 m b A (Qs S') 0) ∧ (∀ i p, j ≤ i → (Qs S' i p ↔ Qs S i p)) ∧ (∀ n : Nat, n < 32 → (bt (gI S' 58 10) n = true ↔ bt (gI S 58 10) n = true ∨ ∃ i, i < j ∧ Qs S' i n)) := by
  intro j
  induction j with
  | zero =>
    intro S x4 x5 _ hM hL _ _ _
    refine ⟨S, ?_, FrFw.rf, fun _ _ _ _ _ h => h, fun _ _ _ => Iff.rfl, fun n _ => ⟨Or.inl, fun h => h.elim id (fun ⟨i, hi, _⟩ => by omega)⟩⟩
    have e : ((0 : Nat) : Int) - 1 = -1 := rfl
    rw [e, B51_26]
    simp (disch := first | omega | assumption | exact b01_rng _ | exact st_5 | exact st_12 | exact st_19 | (simp only [isSt_sI, isSt_sJ, isSt_sF, isSt_sG, isSt_sA]; assumption)) only [↓B51_227, i_lit, i_add, i_sub, i_mul, i_neg, i_lt, i_le, i_eq, i32_gI, i64_gJ, i32_id, i32_to, i64_to, sI_i32, sJ_i64, b01_t, b01_f, i32_b01, b01_0, ↓a_s0, ↓n_s0, ↓a_s1, ↓n_s1, Int.add_zero, t_lt, f_lt, t_le, f_le, t_eq, f_eq, true_and, and_true, false_and, and_false, and_self, ↓reduceIte, z_bool_of, or_true, true_or, or_false, false_or, Int.neg_neg, not_true_eq_false, not_false_eq_true, lg_lt, lg_le, lg_gt, lg_ge, lg_eq, j_lit, j_add, j_sub, j_mul, j_neg, j_eq, i64_id, ij, ji, z_rt, Nat.reduceEqDiff, Nat.reduceAdd, Int.reduceAdd, Int.reduceSub, Int.reduceMul, Int.reduceNeg, Int.reduceLT, Int.reduceLE, Int.reduceEq]
  | succ j ih =>
    intro S x4 x5 hj hM hL hk hnx hot
    have ha := hM.1
    obtain ⟨S1, y4, y5, e1, f1, q1, q2, q3, q4⟩ := t51 (X := X) (d := d) (E := E) (F := F) hd hM hL hk hnx hot (j := j) (by omega) (hG j (by omega)) (st := st) (x4 := x4) (x5 := x5)
    have ec : ∀ b, 114 ≤ b → gI S1 b = gI S b := fun b hb => funext fun i => f1.2.1 b i (by omega) (by omega)
    obtain ⟨S', e2, f2, w1, w2, w3⟩ := ih S1 y4 y5 (by omega) (hM.fr f1.1) (hL.fr f1) (by rw [ec _ (by omega)]; exact hk) (by rw [ec _ (by omega)]; exact hnx) (by rw [ec _ (by omega)]; exact hot)
    refine ⟨S', ?_, f1.tr f2, fun b A s0 hF hb h => w1 b A s0 hF hb (h.step hF hb hG (by omega) q1 q2 (fun i p hi _ => q3 i p hi)), fun i p hi => by rw [w2 i p (by omega), q3 i p (by omega)], fun n hn => ?_⟩
    · rw [show ((j + 1 : Nat) : Int) - 1 = (j : Int) by omega, e1]; exact e2
    · rw [w3 n hn, q4 n hn, ← w2 j n (Nat.le_refl _)]
      constructor
      · rintro ((w | w) | ⟨i, hi, w⟩)
        · exact Or.inl w
        · exact Or.inr ⟨j, by omega, w⟩
        · exact Or.inr ⟨i, by omega, w⟩
      · rintro (w | ⟨i, hi, w⟩)
        · exact Or.inl (Or.inl w)
        · by_cases e : i = j
          · subst e; exact Or.inl (Or.inr w)
          · exact Or.inr ⟨i, by omega, w⟩
theorem x51 (hd : 0 < d) {S : zS} (hG : Gr k nx ot m F) (hM : MtC S a m) (hL : BtL S E) (hk : gI S (a + 1) = k) (hnx : gI S (a + 2) = nx) (hot : gI S (a + 3) = ot) : ∃ S' : zS, z_ev X d (z_entry 51 [.ref 58, .ref a] (mk S)) = some (none, mk S') ∧ FrFw S S' ∧ (∀ (b A : Nat → Int → Prop), Fam E F b A → (∀ j p, j < m → b j p → A j p) → (A (m - 1) 0 ↔ ∃ i p, i < m ∧ Qs S' i p ∧ b i p)) ∧ (∀ n : Nat, n < 32 → (bt (gI S' 58 10) n = true ↔ ∃ i, i < m ∧ Qs S' i n)) := by
  have hm := hM.2.2.2.2
  have ha := hM.1
  obtain ⟨S1, hS1⟩ : ∃ S1 : zS, S1 = spS (sI (sF S 65 0 400 (fun _ => 0)) 58 10 0) ((m - 1 : Nat) : Int) (Int32.ofInt 1) := ⟨_, rfl⟩
  have f1 : FrFw S S1 := by
    rw [hS1]
    have : FrFw S (sF S 65 0 400 (fun _ => 0)) := ⟨Dyn.sF (by decide) Dyn.rf, fun b j q _ => by rw [gI_sF, if_neg (by omega)], fun _ _ => rfl, fun _ _ => rfl⟩
    exact (this.tr FrFw.R).tr spS_fr
  have ec : ∀ b, 114 ≤ b → gI S1 b = gI S b := fun b hb => funext fun i => f1.2.1 b i (by omega) (by omega)
  have hq : ∀ i p, i < m → (Qs S1 i p ↔ i = m - 1 ∧ p = 0) := fun i p hi => by
    rw [hS1, Qs_sp]
    constructor
    · rintro (⟨n, w1, w2, w3⟩ | ⟨w1, n, w2, w3, w4⟩)
      · rw [gI_sI, if_neg (by omega), gI_sF, if_pos ⟨rfl, by omega, by omega⟩, bt_i32] at w3
        unfold bt at w3
        rw [zero_b] at w3; cases w3
      · rw [show (Int32.ofInt 1).toBitVec = 1#32 from rfl, BitVec.getLsbD_one, Bool.and_eq_true, decide_eq_true_eq, decide_eq_true_eq] at w4
        exact ⟨w1, by omega⟩
    · rintro ⟨w1, w2⟩
      exact Or.inr ⟨w1, 0, w2, by omega, rfl⟩
  have h10 : ∀ n : Nat, n < 32 → ¬ bt (gI S1 58 10) n = true := fun n _ w => by
    rw [hS1] at w
    unfold spS at w
    rw [gI_sI, if_neg (by omega), gI_sI, if_pos ⟨rfl, rfl⟩, bt_i32] at w
    unfold bt at w
    rw [zero_b] at w; cases w
  obtain ⟨S', e2, f2, w1, w2, w3⟩ := l51 (X := X) (d := d) (a := a) (E := E) hd hG (st := (m : Int) - 1) m S1 none none (Nat.le_refl _) (hM.fr f1.1) (hL.fr f1) (by rw [ec _ (by omega)]; exact hk) (by rw [ec _ (by omega)]; exact hnx) (by rw [ec _ (by omega)]; exact hot)
  refine ⟨S', ?_, f1.tr f2, fun b A hF hb => ?_, fun n hn => ?_⟩
  · rw [← e2, hS1]
    have h65 : ∀ S : zS, zdes S 65 = some (.inr (0, 400)) := fun S => rfl
    have hM1 : MtC (sI (sF S 65 0 400 (fun _ => 0)) 58 10 0) a m := hM.fr (by (repeat (first | exact Dyn.rf | refine Dyn.sI (by decide) ?_ | refine Dyn.sF (by decide) ?_ | refine Dyn.sJ ?_ | refine Dyn.sG ?_ | refine Dyn.sQ (by decide) ?_)))
    have k0 := fun (k : Option (Option Value × zM)) => mt_o hM1 (k := k)
    have k1 := fun {cm cp : Nat} {L : zL} {st : List Value} => c279 (X := X) hd hM1 (cm := cm) (cp := cp) (L := L) (st := st)
    have em : ((m - 1 : Nat) : Int) = (m : Int) - 1 := by omega
    have fl := fun {S : zS} {cm cp : Nat} {L : zL} {st : List Value} => (c277 (X := X) (d := d) hd (c := 65) (n := 400) (by omega) h65 (by omega) (v := 0) (by omega) (S := S) (cm := cm) (cp := cp) (L := L) (st := st))
    rw [show (((400 : Nat) : Int)) = (400 : Int) from rfl] at fl
    unfold spS
    rw [em]
    show z_ev X d (51, 0, [some (.ref 58), some (.ref a), none, none, none, none], [], mk S) = _
    simp (disch := first | omega | assumption | exact b01_rng _ | exact st_5 | exact st_12 | exact st_19 | (simp only [isSt_sI, isSt_sJ, isSt_sF, isSt_sG, isSt_sA]; assumption)) only [↓B51_0, ↓B51_8, ↓B51_17, ↓B51_24, ↓a_62, ↓a_65, ↓n_62, ↓n_65, ↓o_58, ↓r_58_10, ↓r_58_2, ↓r_58_5, ↓r_58_9, ↓s_62, ↓s_65, ↓w_58_10, ↓o_58, ↓k0, k1, fl, c52, i_lit, i_add, i_sub, i_mul, i_neg, i_lt, i_le, i_eq, i32_gI, i64_gJ, i32_id, i32_to, i64_to, sI_i32, sJ_i64, b01_t, b01_f, i32_b01, b01_0, ↓a_s0, ↓n_s0, ↓a_s1, ↓n_s1, Int.add_zero, t_lt, f_lt, t_le, f_le, t_eq, f_eq, true_and, and_true, false_and, and_false, and_self, ↓reduceIte, z_bool_of, or_true, true_or, or_false, false_or, Int.neg_neg, not_true_eq_false, not_false_eq_true, lg_lt, lg_le, lg_gt, lg_ge, lg_eq, j_lit, j_add, j_sub, j_mul, j_neg, j_eq, i64_id, ij, ji, z_rt, Nat.reduceEqDiff, Nat.reduceAdd, Int.reduceAdd, Int.reduceSub, Int.reduceMul, Int.reduceNeg, Int.reduceLT, Int.reduceLE, Int.reduceEq]
  · have h0 : Fl (m - 1) m b A (Qs S1) m := by
      unfold Fl
      constructor
      · intro h; exact Or.inl ⟨m - 1, 0, by omega, (hq _ _ (by omega)).mpr ⟨rfl, rfl⟩, h⟩
      · rintro (⟨i, p, hi, v1, v2⟩ | ⟨i, p, v1, v2, -⟩)
        · obtain ⟨rfl, rfl⟩ := (hq i p hi).mp v1
          exact v2
        · omega
    have := w1 b A (m - 1) hF hb h0
    unfold Fl at this
    rw [this]
    constructor
    · rintro (⟨i, p, hi, -⟩ | ⟨i, p, -, v⟩)
      · omega
      · exact ⟨i, p, v⟩
    · rintro ⟨i, p, v⟩; exact Or.inr ⟨i, p, Nat.zero_le _, v⟩
  · rw [w3 n hn]
    exact ⟨fun w => w.elim (fun w => absurd w (h10 n hn)) id, Or.inr⟩
/-- a metre, as the class has it -/
theorem MetC.op {S : zS} {a : Nat} {x : T3} (h : MetC S a x) : ∃ (m : Nat) (F : Nat → Lg), MtC S a m ∧ Gr (gI S (a + 1)) (gI S (a + 2)) (gI S (a + 3)) m F ∧ F (m - 1) = x.1 ∧ gI S a 3 = x.2.1 ∧ LMin x.1 (gI S a 4) ∧ LMax x.1 (gI S a 5) := by
  obtain ⟨h1, h2, m, F, h3, h4, h5, h6, h7, h8, h9, h10⟩ := h
  exact ⟨m, F, ⟨h1, h2, h4, h5, h3⟩, h6, h7, h8, h9, h10⟩
theorem Gr.zero (hG : Gr k nx ot m F) (hm : 1 ≤ m) : F 0 = lnil := by
  rcases hG 0 (by omega) with ⟨-, -, h⟩ | ⟨x, -, -, -, q, q1, -⟩ | ⟨-, q, r, q1, -⟩
  · exact h
  · omega
  · omega
theorem Gr.ne (hG : Gr k nx ot m F) : ∀ j, j < m → ∃ w, F j w := by
  intro j
  induction j using Nat.strongRecOn with
  | _ j ih =>
    intro hj
    rcases hG j hj with ⟨-, -, h⟩ | ⟨x, -, -, -, q, q1, -, h⟩ | ⟨-, q, r, q1, -, -, -, h⟩
    · exact ⟨[], by rw [h]; rfl⟩
    · obtain ⟨w, hw⟩ := ih q q1 (by omega)
      exact ⟨[x] ++ w, by rw [h]; exact ⟨[x], w, rfl, rfl, hw⟩⟩
    · obtain ⟨w, hw⟩ := ih q q1 (by omega)
      exact ⟨w, by rw [h]; exact Or.inl hw⟩
theorem x49 (hd : 1 < d) {S : zS} {x : T3} (hX : MetC S a x) (hL : BtL S E) : ∃ (S' : zS) (r : Int), z_ev X d (z_entry 49 [.ref 58, .ref a] (mk S)) = some (vI r, mk S') ∧ FrFw S S' ∧ ((r = 1 ∧ Gw E x.1 0 E.1) ∨ (r = 0 ∧ ¬ Gw E x.1 0 E.1)) := by
  obtain ⟨m, F, hM, hG, hF, -⟩ := hX.op
  have hm := hM.2.2.2.2
  obtain ⟨S', e1, f1, w1, -⟩ := x51 (X := X) (d := 1) (a := a) (E := E) (by omega) hG hM hL rfl rfl rfl
  have ev := fun {cm cp : Nat} {L : zL} {st : List Value} => evV (X := X) (d := d) hd e1 (cm := cm) (cp := cp) (L := L) (st := st)
  have key := w1 _ _ (fam_w (E := E) (F := F) (q := E.1)) (fun j p _ ⟨h1, h2⟩ => by
    subst h1
    exact ⟨[], by rw [hG.zero hm.1]; rfl, gp_iff.mpr (Or.inl h2)⟩)
  rw [hF] at key
  have hL' := hL.fr f1
  obtain ⟨en, hen⟩ : ∃ n : Nat, E.1 = n := ⟨E.1.toNat, by have := hL.2.1; omega⟩
  have hn20 := hL.2.1
  have key2 : Gw E x.1 0 E.1 ↔ bt (gI S' 65 0) en = true := by
    rw [key]
    constructor
    · rintro ⟨i, p, -, ⟨n, v1, v2, v3⟩, rfl, v4⟩
      have : n = en := by omega
      subst this; exact v3
    · intro h; exact ⟨0, E.1, by omega, ⟨en, hen, by omega, h⟩, rfl, rfl⟩
  have hb := bit1_bt (gI S' 65 0) (s := en) (by omega)
  rw [← hen] at hb
  have h8 : gI S' 58 8 = E.1 := hL'.1
  refine ⟨S', if bt (gI S' 65 0) en = true then 1 else 0, ?_, f1, ?_⟩
  · show z_ev X d (49, 0, [some (.ref 58), some (.ref a)], [], mk S) = _
    by_cases q : bt (gI S' 65 0) en = true
    · rw [if_pos q] at hb ⊢
      simp (disch := first | omega | assumption | exact b01_rng _ | exact st_5 | exact st_12 | exact st_19 | (simp only [isSt_sI, isSt_sJ, isSt_sF, isSt_sG, isSt_sA]; assumption)) only [↓B49_0, ↓B49_5, ↓B49_22, ↓B49_26, ↓B49_27, ↓a_65, ↓n_65, ↓o_58, ↓r_58_5, ↓r_58_8, ↓s_65, ↓o_58, ev, i_lit, i_add, i_sub, i_mul, i_neg, i_lt, i_le, i_eq, i32_gI, i64_gJ, i32_id, i32_to, i64_to, sI_i32, sJ_i64, b01_t, b01_f, i32_b01, b01_0, ↓a_s0, ↓n_s0, ↓a_s1, ↓n_s1, Int.add_zero, t_lt, f_lt, t_le, f_le, t_eq, f_eq, true_and, and_true, false_and, and_false, and_self, ↓reduceIte, z_bool_of, or_true, true_or, or_false, false_or, Int.neg_neg, not_true_eq_false, not_false_eq_true, lg_lt, lg_le, lg_gt, lg_ge, lg_eq, j_lit, j_add, j_sub, j_mul, j_neg, j_eq, i64_id, ij, ji, z_rt, Nat.reduceEqDiff, Nat.reduceAdd, Int.reduceAdd, Int.reduceSub, Int.reduceMul, Int.reduceNeg, Int.reduceLT, Int.reduceLE, Int.reduceEq, h8, bit1_of, hb]
    · rw [if_neg q] at hb ⊢
      simp (disch := first | omega | assumption | exact b01_rng _ | exact st_5 | exact st_12 | exact st_19 | (simp only [isSt_sI, isSt_sJ, isSt_sF, isSt_sG, isSt_sA]; assumption)) only [↓B49_0, ↓B49_5, ↓B49_22, ↓B49_26, ↓B49_27, ↓a_65, ↓n_65, ↓o_58, ↓r_58_5, ↓r_58_8, ↓s_65, ↓o_58, ev, i_lit, i_add, i_sub, i_mul, i_neg, i_lt, i_le, i_eq, i32_gI, i64_gJ, i32_id, i32_to, i64_to, sI_i32, sJ_i64, b01_t, b01_f, i32_b01, b01_0, ↓a_s0, ↓n_s0, ↓a_s1, ↓n_s1, Int.add_zero, t_lt, f_lt, t_le, f_le, t_eq, f_eq, true_and, and_true, false_and, and_false, and_self, ↓reduceIte, z_bool_of, or_true, true_or, or_false, false_or, Int.neg_neg, not_true_eq_false, not_false_eq_true, lg_lt, lg_le, lg_gt, lg_ge, lg_eq, j_lit, j_add, j_sub, j_mul, j_neg, j_eq, i64_id, ij, ji, z_rt, Nat.reduceEqDiff, Nat.reduceAdd, Int.reduceAdd, Int.reduceSub, Int.reduceMul, Int.reduceNeg, Int.reduceLT, Int.reduceLE, Int.reduceEq, h8, bit1_of, hb]
  · by_cases q : bt (gI S' 65 0) en = true
    · rw [if_pos q]; exact Or.inl ⟨rfl, key2.mpr q⟩
    · rw [if_neg q]; exact Or.inr ⟨rfl, fun w => q (key2.mp w)⟩
/-- the farthest -/
def IsFar (E : Ln) (A : Lg) (r : Int) : Prop := 0 ≤ r ∧ r ≤ E.1 ∧ (r = 0 ∨ Gu E A 0 r) ∧ ∀ p, r < p → p ≤ E.1 → ¬ Gu E A 0 p
theorem IsFar.uniq {A : Lg} {r s : Int} (h1 : IsFar E A r) (h2 : IsFar E A s) : r = s := by
  obtain ⟨a1, a2, a3, a4⟩ := h1
  obtain ⟨b1, b2, b3, b4⟩ := h2
  by_cases q : r < s
  · rcases b3 with w | w
    · omega
    · exact absurd w (a4 s q b2)
  · by_cases q2 : s < r
    · rcases a3 with w | w
      · omega
      · exact absurd w (b4 r q2 a2)
    · omega
theorem Gr.cut (hG : Gr k nx ot m F) : Gr k nx ot m (fun j => if j < m then F j else lnil) := by
  intro j hj
  rcases hG j hj with ⟨h1, h2, h3⟩ | ⟨x, x0, x3, kx, q, q1, nq, e⟩ | ⟨k5, q, r, q1, r1, nq, nr, e⟩
  · exact Or.inl ⟨h1, h2, by simp only []; rw [if_pos hj]; exact h3⟩
  · exact Or.inr (Or.inl ⟨x, x0, x3, kx, q, q1, nq, by simp only []; rw [if_pos hj, if_pos (show q < m by omega)]; exact e⟩)
  · exact Or.inr (Or.inr ⟨k5, q, r, q1, r1, nq, nr, by simp only []; rw [if_pos hj, if_pos (show q < m by omega), if_pos (show r < m by omega)]; exact e⟩)
theorem Gr.all (hG : Gr k nx ot m F) : ∀ j, ∃ w, (fun j => if j < m then F j else lnil) j w := by
  intro j
  by_cases q : j < m
  · obtain ⟨w, hw⟩ := hG.ne j q
    exact ⟨w, by simp only []; rw [if_pos q]; exact hw⟩
  · exact ⟨[], by simp only []; rw [if_neg q]; rfl⟩
theorem x50 (hd : 1 < d) {S : zS} {x : T3} (hX : MetC S a x) (hL : BtL S E) : ∃ (S' : zS) (r : Int), z_ev X d (z_entry 50 [.ref 58, .ref a] (mk S)) = some (vI r, mk S') ∧ FrFw S S' ∧ IsFar E x.1 r := by
  obtain ⟨m, F, hM, hG, hF, -⟩ := hX.op
  have hm := hM.2.2.2.2
  obtain ⟨S', e1, f1, w1, w2⟩ := x51 (X := X) (d := 1) (a := a) (E := E) (by omega) hG.cut hM hL rfl rfl rfl
  have ev := fun {cm cp : Nat} {L : zL} {st : List Value} => evV (X := X) (d := d) hd e1 (cm := cm) (cp := cp) (L := L) (st := st)
  have hn20 := hL.2.1
  have h8 : gI S' 58 8 = E.1 := (hL.fr f1).1
  -- a place within a word is one that is reached
  have key : ∀ n : Nat, n < 32 → (Gu E x.1 0 n ↔ bt (gI S' 58 10) n = true) := by
    intro n hn
    rw [w2 n hn]
    have := w1 _ _ (fam_u (E := E) hG.all (q := (n : Int))) (fun j p hj h => by
      obtain ⟨w, hw⟩ := hG.all j
      exact ⟨[], w, hw, gp_iff.mpr (Or.inl h)⟩)
    rw [if_pos (show m - 1 < m by omega), hF] at this
    rw [this]
    constructor
    · rintro ⟨i, p, v1, v2, rfl⟩; exact ⟨i, v1, v2⟩
    · rintro ⟨i, v1, v2⟩; exact ⟨i, n, v1, v2, rfl⟩
  have loop : ∀ (c : Nat) (p r : Int), p + c = E.1 + 1 → 1 ≤ p → (0 ≤ r ∧ r < p ∧ (r = 0 ∨ Gu E x.1 0 r) ∧ ∀ q, r < q → q < p → ¬ Gu E x.1 0 q) → ∃ r' : Int, z_ev X d (50, 9, [some (.ref 58), some (.ref a), some (.int (Int32.ofInt r)), some (.int (Int32.ofInt p))], [], mk S') = some (vI r', mk S') ∧ IsFar E x.1 r' := by
    intro c
    induction c with
    | zero =>
      intro p r hc hp ⟨h1, h2, h3, h4⟩
      refine ⟨r, ?_, h1, by omega, h3, fun q q1 q2 => h4 q q1 (by omega)⟩
      rw [B50_9]
      simp (disch := first | omega | assumption | exact b01_rng _ | exact st_5 | exact st_12 | exact st_19 | (simp only [isSt_sI, isSt_sJ, isSt_sF, isSt_sG, isSt_sA]; assumption)) only [↓B50_37, ↓o_58, ↓r_58_10, ↓r_58_8, i_lit, i_add, i_sub, i_mul, i_neg, i_lt, i_le, i_eq, i32_gI, i64_gJ, i32_id, i32_to, i64_to, sI_i32, sJ_i64, b01_t, b01_f, i32_b01, b01_0, ↓a_s0, ↓n_s0, ↓a_s1, ↓n_s1, Int.add_zero, t_lt, f_lt, t_le, f_le, t_eq, f_eq, true_and, and_true, false_and, and_false, and_self, ↓reduceIte, z_bool_of, or_true, true_or, or_false, false_or, Int.neg_neg, not_true_eq_false, not_false_eq_true, lg_lt, lg_le, lg_gt, lg_ge, lg_eq, j_lit, j_add, j_sub, j_mul, j_neg, j_eq, i64_id, ij, ji, z_rt, Nat.reduceEqDiff, Nat.reduceAdd, Int.reduceAdd, Int.reduceSub, Int.reduceMul, Int.reduceNeg, Int.reduceLT, Int.reduceLE, Int.reduceEq, h8]
    | succ c ih =>
      intro p r hc hp ⟨h1, h2, h3, h4⟩
      obtain ⟨pn, rfl⟩ : ∃ n : Nat, p = n := ⟨p.toNat, by omega⟩
      have hb := bit1_bt (gI S' 58 10) (s := pn) (by omega)
      have hk := key pn (by omega)
      by_cases q : bt (gI S' 58 10) pn = true
      · rw [if_pos q] at hb
        obtain ⟨r', v1, v2⟩ := ih ((pn : Int) + 1) pn (by omega) (by omega) ⟨by omega, by omega, Or.inr (hk.mpr q), fun u u1 u2 => by omega⟩
        refine ⟨r', ?_, v2⟩
        rw [← v1, B50_9]
        simp (disch := first | omega | assumption | exact b01_rng _ | exact st_5 | exact st_12 | exact st_19 | (simp only [isSt_sI, isSt_sJ, isSt_sF, isSt_sG, isSt_sA]; assumption)) only [↓B50_17, ↓B50_29, ↓B50_31, ↓o_58, ↓r_58_10, ↓r_58_8, i_lit, i_add, i_sub, i_mul, i_neg, i_lt, i_le, i_eq, i32_gI, i64_gJ, i32_id, i32_to, i64_to, sI_i32, sJ_i64, b01_t, b01_f, i32_b01, b01_0, ↓a_s0, ↓n_s0, ↓a_s1, ↓n_s1, Int.add_zero, t_lt, f_lt, t_le, f_le, t_eq, f_eq, true_and, and_true, false_and, and_false, and_self, ↓reduceIte, z_bool_of, or_true, true_or, or_false, false_or, Int.neg_neg, not_true_eq_false, not_false_eq_true, lg_lt, lg_le, lg_gt, lg_ge, lg_eq, j_lit, j_add, j_sub, j_mul, j_neg, j_eq, i64_id, ij, ji, z_rt, Nat.reduceEqDiff, Nat.reduceAdd, Int.reduceAdd, Int.reduceSub, Int.reduceMul, Int.reduceNeg, Int.reduceLT, Int.reduceLE, Int.reduceEq, h8, bit1_of, hb]
      · rw [if_neg q] at hb
        obtain ⟨r', v1, v2⟩ := ih ((pn : Int) + 1) r (by omega) (by omega) ⟨h1, by omega, h3, fun u u1 u2 => by
          by_cases e : u = pn
          · subst e; exact fun w => q (hk.mp w)
          · exact h4 u u1 (by omega)⟩
        refine ⟨r', ?_, v2⟩
        rw [← v1, B50_9]
        simp (disch := first | omega | assumption | exact b01_rng _ | exact st_5 | exact st_12 | exact st_19 | (simp only [isSt_sI, isSt_sJ, isSt_sF, isSt_sG, isSt_sA]; assumption)) only [↓B50_17, ↓B50_31, ↓o_58, ↓r_58_10, ↓r_58_8, i_lit, i_add, i_sub, i_mul, i_neg, i_lt, i_le, i_eq, i32_gI, i64_gJ, i32_id, i32_to, i64_to, sI_i32, sJ_i64, b01_t, b01_f, i32_b01, b01_0, ↓a_s0, ↓n_s0, ↓a_s1, ↓n_s1, Int.add_zero, t_lt, f_lt, t_le, f_le, t_eq, f_eq, true_and, and_true, false_and, and_false, and_self, ↓reduceIte, z_bool_of, or_true, true_or, or_false, false_or, Int.neg_neg, not_true_eq_false, not_false_eq_true, lg_lt, lg_le, lg_gt, lg_ge, lg_eq, j_lit, j_add, j_sub, j_mul, j_neg, j_eq, i64_id, ij, ji, z_rt, Nat.reduceEqDiff, Nat.reduceAdd, Int.reduceAdd, Int.reduceSub, Int.reduceMul, Int.reduceNeg, Int.reduceLT, Int.reduceLE, Int.reduceEq, h8, bit1_of, hb]
  obtain ⟨r', v1, v2⟩ := loop E.1.toNat 1 0 (by omega) (by omega) ⟨by omega, by omega, Or.inl rfl, fun q q1 q2 => by omega⟩
  refine ⟨S', r', ?_, f1, v2⟩
  show z_ev X d (50, 0, [some (.ref 58), some (.ref a), none, none], [], mk S) = _
  rw [← v1]
  simp (disch := first | omega | assumption | exact b01_rng _ | exact st_5 | exact st_12 | exact st_19 | (simp only [isSt_sI, isSt_sJ, isSt_sF, isSt_sG, isSt_sA]; assumption)) only [↓B50_0, ↓B50_5, ↓o_58, ev, i_lit, i_add, i_sub, i_mul, i_neg, i_lt, i_le, i_eq, i32_gI, i64_gJ, i32_id, i32_to, i64_to, sI_i32, sJ_i64, b01_t, b01_f, i32_b01, b01_0, ↓a_s0, ↓n_s0, ↓a_s1, ↓n_s1, Int.add_zero, t_lt, f_lt, t_le, f_le, t_eq, f_eq, true_and, and_true, false_and, and_false, and_self, ↓reduceIte, z_bool_of, or_true, true_or, or_false, false_or, Int.neg_neg, not_true_eq_false, not_false_eq_true, lg_lt, lg_le, lg_gt, lg_ge, lg_eq, j_lit, j_add, j_sub, j_mul, j_neg, j_eq, i64_id, ij, ji, z_rt, Nat.reduceEqDiff, Nat.reduceAdd, Int.reduceAdd, Int.reduceSub, Int.reduceMul, Int.reduceNeg, Int.reduceLT, Int.reduceLE, Int.reduceEq]
end
