/-! WHAT WAS HEARD: the line read only so -/
abbrev LnK (k : Int) (cls : List Cl) (g : Int → Int) : Ln := (g 0, cutB g, fun p v => (0 ≤ p ∧ p < g 0) ∧ (0 ≤ v ∧ v ≤ 2) ∧ CanR cls g p v ∧ ∀ j : Int, 0 ≤ j → j < k → g (68 + 2 * j) = p → g (69 + 2 * j) = v)
/-- all of them are there -/
def HrA (k : Int) (g : Int → Int) : Prop := ∀ j : Int, 0 ≤ j → j < k → g (68 + 2 * j) < g 0
def HdB (g : Int → Int) : Prop := (0 ≤ g 2 ∧ g 2 ≤ 6) ∧ ∀ k : Int, 0 ≤ k → k < g 2 → (0 ≤ g (68 + 2 * k) ∧ g (68 + 2 * k) < 20) ∧ (0 ≤ g (69 + 2 * k) ∧ g (69 + 2 * k) ≤ 2)
theorem LnK_s {k : Int} {cls : List Cl} {g : Int → Int} {p v : Int} (hk : 0 ≤ k) : (LnK (k + 1) cls g).2.2 p v ↔ (LnK k cls g).2.2 p v ∧ (g (68 + 2 * k) = p → g (69 + 2 * k) = v) := by
  constructor
  · rintro ⟨h1, h2, h3, h4⟩
    exact ⟨⟨h1, h2, h3, fun j q1 q2 => h4 j q1 (by omega)⟩, h4 k hk (by omega)⟩
  · rintro ⟨⟨h1, h2, h3, h4⟩, h5⟩
    refine ⟨h1, h2, h3, fun j q1 q2 q3 => ?_⟩
    by_cases e : j = k
    · subst e; exact h5 q3
    · exact h4 j q1 (by omega) q3
theorem LnK_0 {cls : List Cl} {g : Int → Int} {p v : Int} : (LnK 0 cls g).2.2 p v ↔ (LnH 0 cls g).2.2 p v := by
  constructor
  · rintro ⟨h1, h2, h3, h4⟩; exact ⟨h1, h2, Or.inl h3⟩
  · rintro ⟨h1, h2, h3 | h3⟩
    · exact ⟨h1, h2, h3, fun j q1 q2 => by omega⟩
    · exact absurd h3.1 (by omega)
def FrHr (S S' : zS) : Prop := Dyn S S' ∧ (∀ a i, a ≠ 62 → gI S' a i = gI S a i) ∧ (∀ a i, gJ S' a i = gJ S a i) ∧ (∀ a i, gQ S' a i = gQ S a i)
theorem FrHr.rf {S : zS} : FrHr S S := ⟨Dyn.rf, fun _ _ _ => rfl, fun _ _ => rfl, fun _ _ => rfl⟩
theorem FrHr.tr {A B C : zS} (h1 : FrHr A B) (h2 : FrHr B C) : FrHr A C := ⟨h1.1.tr h2.1, fun a i q => (h2.2.1 a i q).trans (h1.2.1 a i q), fun a i => (h2.2.2.1 a i).trans (h1.2.2.1 a i), fun a i => (h2.2.2.2 a i).trans (h1.2.2.2 a i)⟩
theorem FrHr.I {S : zS} {i x : Int} : FrHr S (sI S 62 i x) := ⟨Dyn.sI (by decide) Dyn.rf, fun b j q => by rw [gI_sI, if_neg (by omega)], fun _ _ => rfl, fun _ _ => rfl⟩
theorem FrHr.q {S S' : zS} (h : FrHr S S') : FrQc S S' := ⟨h.1, fun a i q => h.2.1 a i (by omega), fun a i _ _ => h.2.2.1 a i, fun a i _ => h.2.2.2 a i⟩
/-- a bit taken away -/
def ndI (y p : Int) : Int32 := Int32.ofInt y &&& ((Int32.ofInt 1 <<< (Int32.ofInt p &&& Int32.ofInt 31)) ^^^ Int32.ofInt (-1))
theorem ndI_b {y p : Int} (hp : 0 ≤ p ∧ p < 32) {i : Nat} (hi : i < 32) : bt (ndI y p).toInt i = true ↔ bt y i = true ∧ (i : Int) ≠ p := by
  have e : Int32.ofInt p = Int32.ofInt ((p.toNat : Nat) : Int) := by rw [Int.toNat_of_nonneg hp.1]
  rw [bt_to]
  unfold ndI
  rw [and_b, xor_b, m1_b hi, e, one_b (by omega), show (Int32.ofInt y).toBitVec.getLsbD i = bt y i from rfl]
  by_cases q : (i : Int) = p
  · have : i = p.toNat := by omega
    rw [decide_eq_true (show i = p.toNat ∧ i < 32 from ⟨this, hi⟩)]
    simp [q]
  · rw [decide_eq_false (show ¬ (i = p.toNat ∧ i < 32) from fun z => q (by omega))]
    simp [q]
section
variable {X : zX} {d : Nat} {cls : List Cl} {g : Int → Int}
/-- the line's own cells -/
def SHd (S : zS) (g : Int → Int) : Prop := gI S 5 6 = g 0 ∧ gI S 5 7 = g 2 ∧ ∀ k : Int, 0 ≤ k → k < g 2 → gI S 8 k = g (68 + 2 * k) ∧ gI S 9 k = g (69 + 2 * k)
theorem SHd.fr {S S' : zS} (h : SHd S g) (hF : FrHr S S') : SHd S' g :=
  ⟨by rw [hF.2.1 5 6 (by omega)]; exact h.1, by rw [hF.2.1 5 7 (by omega)]; exact h.2.1, fun k q1 q2 => by rw [hF.2.1 8 k (by omega), hF.2.1 9 k (by omega)]; exact h.2.2 k q1 q2⟩
def LkH (S : zS) (cls : List Cl) (g : Int → Int) (k v : Int) : Prop := gI S 58 8 = g 0 ∧ (∀ i : Nat, i < 32 → (bt (gI S 58 9) i = true ↔ cutB g i)) ∧ ∀ u : Int, 0 ≤ u → u ≤ 2 → ∀ i : Nat, i < 32 → (bt (gI S 62 u) i = true ↔ (LnK (if u < v then k + 1 else k) cls g).2.2 i u)
theorem LkH.nx {S : zS} {k : Int} (h : LkH S cls g k 3) : LkH S cls g (k + 1) 0 :=
  ⟨h.1, h.2.1, fun u u1 u2 i hi => by
    have := h.2.2 u u1 u2 i hi
    rw [if_pos (by omega)] at this
    rw [if_neg (by omega)]; exact this⟩
abbrev L48 (k : Int) (x3 x4 : Option Value) : zL := [some (.ref 58), some (.ref 5), some (.int (Int32.ofInt k)), x3, x4]
theorem t48 (hd : 0 < d) {S : zS} {k v : Int} (hB : HdB g) (hS : SHd S g) (hk : 0 ≤ k ∧ k < g 2) (hv : 0 ≤ v ∧ v ≤ 2) (hL : LkH S cls g k v) : ∃ S' : zS, z_ev X d (48, 29, L48 k (vI (g (68 + 2 * k))) (vI v), [], mk S) = z_ev X d (48, 29, L48 k (vI (g (68 + 2 * k))) (vI (v + 1)), [], mk S') ∧ FrHr S S' ∧ LkH S' cls g k (v + 1) := by
  obtain ⟨hb, hbk⟩ := hB
  obtain ⟨⟨p1, p2⟩, w1, w2⟩ := hbk k hk.1 hk.2
  obtain ⟨s1, s2, s3⟩ := hS
  obtain ⟨s4, s5⟩ := s3 k hk.1 hk.2
  have c74' := fun {cm cp : Nat} {L : zL} {st : List Value} => c74 (X := X) (d := d) hd (cm := cm) (cp := cp) (L := L) (st := st) (S := S) (s := 5) k st_5 (by omega)
  simp only [Nat.reduceAdd] at c74'
  rw [s5] at c74'
  have same : ∀ u : Int, u ≠ v → (if u < v + 1 then k + 1 else k) = (if u < v then k + 1 else k) := fun u q => by
    by_cases z : u < v
    · rw [if_pos z, if_pos (by omega)]
    · rw [if_neg z, if_neg (by omega)]
  by_cases q : v = g (69 + 2 * k)
  · refine ⟨S, ?_, FrHr.rf, hL.1, hL.2.1, fun u u1 u2 i hi => ?_⟩
    · rw [B48_29]
      simp (disch := first | omega | assumption | exact b01_rng _ | exact st_5 | exact st_12 | exact st_19 | (simp only [isSt_sI, isSt_sJ, isSt_sF, isSt_sG, isSt_sA]; assumption)) only [↓B48_39, ↓B48_46, ↓B48_64, ↓a_62, ↓n_62, ↓o_19, ↓o_5, ↓r_19_7, ↓r_58_2, ↓r_5_7, ↓s_62, ↓n_62, ↓o_5, c74', i_lit, i_add, i_sub, i_mul, i_neg, i_lt, i_le, i_eq, i32_gI, i64_gJ, i32_id, i32_to, i64_to, sI_i32, sJ_i64, b01_t, b01_f, i32_b01, b01_0, ↓a_s0, ↓n_s0, ↓a_s1, ↓n_s1, Int.add_zero, t_lt, f_lt, t_le, f_le, t_eq, f_eq, true_and, and_true, false_and, and_false, and_self, ↓reduceIte, z_bool_of, or_true, true_or, or_false, false_or, Int.neg_neg, not_true_eq_false, not_false_eq_true, lg_lt, lg_le, lg_gt, lg_ge, lg_eq, j_lit, j_add, j_sub, j_mul, j_neg, j_eq, i64_id, ij, ji, z_rt, Nat.reduceEqDiff, Nat.reduceAdd, Int.reduceAdd, Int.reduceSub, Int.reduceMul, Int.reduceNeg, Int.reduceLT, Int.reduceLE, Int.reduceEq, q]
    · by_cases e : u = v
      · subst e
        have := hL.2.2 u u1 u2 i hi
        rw [if_neg (by omega)] at this
        rw [if_pos (by omega), LnK_s hk.1, this]
        exact ⟨fun z => ⟨z, fun _ => q.symm⟩, fun z => z.1⟩
      · rw [same u e]; exact hL.2.2 u u1 u2 i hi
  · refine ⟨sI S 62 v (ndI (gI S 62 v) (g (68 + 2 * k))).toInt, ?_, FrHr.I, ?_, ?_, fun u u1 u2 i hi => ?_⟩
    · rw [B48_29]
      unfold ndI
      simp (disch := first | omega | assumption | exact b01_rng _ | exact st_5 | exact st_12 | exact st_19 | (simp only [isSt_sI, isSt_sJ, isSt_sF, isSt_sG, isSt_sA]; assumption)) only [↓B48_39, ↓B48_46, ↓B48_49, ↓B48_64, ↓a_62, ↓n_62, ↓o_19, ↓o_5, ↓r_19_7, ↓r_58_2, ↓r_5_7, ↓s_62, ↓n_62, ↓a_62, ↓s_62, ↓o_5, c74', i_lit, i_add, i_sub, i_mul, i_neg, i_lt, i_le, i_eq, i32_gI, i64_gJ, i32_id, i32_to, i64_to, sI_i32, sJ_i64, b01_t, b01_f, i32_b01, b01_0, ↓a_s0, ↓n_s0, ↓a_s1, ↓n_s1, Int.add_zero, t_lt, f_lt, t_le, f_le, t_eq, f_eq, true_and, and_true, false_and, and_false, and_self, ↓reduceIte, z_bool_of, or_true, true_or, or_false, false_or, Int.neg_neg, not_true_eq_false, not_false_eq_true, lg_lt, lg_le, lg_gt, lg_ge, lg_eq, j_lit, j_add, j_sub, j_mul, j_neg, j_eq, i64_id, ij, ji, z_rt, Nat.reduceEqDiff, Nat.reduceAdd, Int.reduceAdd, Int.reduceSub, Int.reduceMul, Int.reduceNeg, Int.reduceLT, Int.reduceLE, Int.reduceEq, q]
    · rw [gI_sI, if_neg (by omega)]; exact hL.1
    · intro i hi
      rw [gI_sI, if_neg (by omega)]; exact hL.2.1 i hi
    · by_cases e : u = v
      · subst e
        have := hL.2.2 u u1 u2 i hi
        rw [if_neg (by omega)] at this
        rw [gI_sI, if_pos ⟨rfl, rfl⟩, bt_i32, ndI_b ⟨p1, by omega⟩ hi, if_pos (by omega), LnK_s hk.1, this]
        constructor
        · rintro ⟨z1, z2⟩; exact ⟨z1, fun z => absurd z.symm z2⟩
        · rintro ⟨z1, z2⟩; exact ⟨z1, fun z => q (z2 z.symm).symm⟩
      · rw [gI_sI, if_neg (fun z => e z.2), same u e]; exact hL.2.2 u u1 u2 i hi
theorem l48 (hd : 0 < d) (hB : HdB g) (hg : 0 ≤ g 0 ∧ g 0 ≤ 20) : ∀ (c : Nat) (k : Int) (S : zS) (x3 x4 : Option Value), k + c = g 2 → 0 ≤ k → SHd S g → LkH S cls g k 0 → HrA k g → ∃ (S' : zS) (r : Int), z_ev X d (48, 2, L48 k x3 x4, [], mk S) = some (vI r, mk S') ∧ FrHr S S' ∧ ((r = 1 ∧ HrA (g 2) g ∧ LkH S' cls g (g 2) 0) ∨ (r = 0 ∧ ¬ HrA (g 2) g)) := by
  intro c
  induction c with
  | zero =>
    intro k S x3 x4 hc hk hS hL hA
    have : k = g 2 := by omega
    subst this
    have b2 := hB.1
    refine ⟨S, 1, ?_, FrHr.rf, Or.inl ⟨rfl, hA, hL⟩⟩
    rw [B48_2]
    simp (disch := first | omega | assumption | exact b01_rng _ | exact st_5 | exact st_12 | exact st_19 | (simp only [isSt_sI, isSt_sJ, isSt_sF, isSt_sG, isSt_sA]; assumption)) only [↓B48_76, ↓a_62, ↓n_62, ↓o_19, ↓o_5, ↓r_19_7, ↓r_58_2, ↓r_5_7, ↓s_62, ↓r_5_7, i_lit, i_add, i_sub, i_mul, i_neg, i_lt, i_le, i_eq, i32_gI, i64_gJ, i32_id, i32_to, i64_to, sI_i32, sJ_i64, b01_t, b01_f, i32_b01, b01_0, ↓a_s0, ↓n_s0, ↓a_s1, ↓n_s1, Int.add_zero, t_lt, f_lt, t_le, f_le, t_eq, f_eq, true_and, and_true, false_and, and_false, and_self, ↓reduceIte, z_bool_of, or_true, true_or, or_false, false_or, Int.neg_neg, not_true_eq_false, not_false_eq_true, lg_lt, lg_le, lg_gt, lg_ge, lg_eq, j_lit, j_add, j_sub, j_mul, j_neg, j_eq, i64_id, ij, ji, z_rt, Nat.reduceEqDiff, Nat.reduceAdd, Int.reduceAdd, Int.reduceSub, Int.reduceMul, Int.reduceNeg, Int.reduceLT, Int.reduceLE, Int.reduceEq, hS.2.1]
  | succ c ih =>
    intro k S x3 x4 hc hk hS hL hA
    obtain ⟨hb, hbk⟩ := id hB
    obtain ⟨⟨p1, p2⟩, w1, w2⟩ := hbk k hk (by omega)
    obtain ⟨s1, s2, s3⟩ := id hS
    obtain ⟨s4, s5⟩ := s3 k hk (by omega)
    have c73' := fun {cm cp : Nat} {L : zL} {st : List Value} => c73 (X := X) (d := d) hd (cm := cm) (cp := cp) (L := L) (st := st) (S := S) (s := 5) k st_5 (by omega)
    simp only [Nat.reduceAdd] at c73'
    rw [s4] at c73'
    have c66' := fun {cm cp : Nat} {L : zL} {st : List Value} => c66 (X := X) (d := d) hd (cm := cm) (cp := cp) (L := L) (st := st) (S := S) (s := 5) (g (68 + 2 * k)) st_5 (by omega) (by omega)
    rw [s1] at c66'
    by_cases q : g (68 + 2 * k) < g 0
    · rw [show b01 (0 ≤ g (68 + 2 * k) ∧ g (68 + 2 * k) < g 0) = 1 from if_pos ⟨p1, q⟩] at c66'
      obtain ⟨S1, a1, a2, a3⟩ := t48 (X := X) (d := d) hd hB hS ⟨hk, by omega⟩ (v := 0) (by omega) hL
      obtain ⟨S2, b1, b2, b3⟩ := t48 (X := X) (d := d) hd hB (hS.fr a2) ⟨hk, by omega⟩ (v := 0 + 1) (by omega) a3
      obtain ⟨S3, d1, d2, d3⟩ := t48 (X := X) (d := d) hd hB ((hS.fr a2).fr b2) ⟨hk, by omega⟩ (v := 0 + 1 + 1) (by omega) b3
      obtain ⟨S', r, e1, e2, e3⟩ := ih (k + 1) S3 (vI (g (68 + 2 * k))) (vI (0 + 1 + 1 + 1)) (by omega) (by omega) (((hS.fr a2).fr b2).fr d2) d3.nx (fun j q1 q2 => by
        by_cases e : j = k
        · subst e; exact q
        · exact hA j q1 (by omega))
      refine ⟨S', r, ?_, ((a2.tr b2).tr d2).tr e2, e3⟩
      have f1 : z_ev X d (48, 2, L48 k x3 x4, [], mk S) = z_ev X d (48, 29, L48 k (vI (g (68 + 2 * k))) (vI 0), [], mk S) := by
        rw [B48_2]
        simp (disch := first | omega | assumption | exact b01_rng _ | exact st_5 | exact st_12 | exact st_19 | (simp only [isSt_sI, isSt_sJ, isSt_sF, isSt_sG, isSt_sA]; assumption)) only [↓B48_10, ↓B48_15, ↓B48_21, ↓B48_26, ↓a_62, ↓n_62, ↓o_19, ↓o_5, ↓r_19_7, ↓r_58_2, ↓r_5_7, ↓s_62, ↓r_5_7, ↓o_5, c73', c66', i_lit, i_add, i_sub, i_mul, i_neg, i_lt, i_le, i_eq, i32_gI, i64_gJ, i32_id, i32_to, i64_to, sI_i32, sJ_i64, b01_t, b01_f, i32_b01, b01_0, ↓a_s0, ↓n_s0, ↓a_s1, ↓n_s1, Int.add_zero, t_lt, f_lt, t_le, f_le, t_eq, f_eq, true_and, and_true, false_and, and_false, and_self, ↓reduceIte, z_bool_of, or_true, true_or, or_false, false_or, Int.neg_neg, not_true_eq_false, not_false_eq_true, lg_lt, lg_le, lg_gt, lg_ge, lg_eq, j_lit, j_add, j_sub, j_mul, j_neg, j_eq, i64_id, ij, ji, z_rt, Nat.reduceEqDiff, Nat.reduceAdd, Int.reduceAdd, Int.reduceSub, Int.reduceMul, Int.reduceNeg, Int.reduceLT, Int.reduceLE, Int.reduceEq, s2]
      rw [f1, a1, b1, d1, ← e1, B48_29]
      simp (disch := first | omega | assumption | exact b01_rng _ | exact st_5 | exact st_12 | exact st_19 | (simp only [isSt_sI, isSt_sJ, isSt_sF, isSt_sG, isSt_sA]; assumption)) only [↓B48_70, ↓a_62, ↓n_62, ↓o_19, ↓o_5, ↓r_19_7, ↓r_58_2, ↓r_5_7, ↓s_62, ↓n_62, i_lit, i_add, i_sub, i_mul, i_neg, i_lt, i_le, i_eq, i32_gI, i64_gJ, i32_id, i32_to, i64_to, sI_i32, sJ_i64, b01_t, b01_f, i32_b01, b01_0, ↓a_s0, ↓n_s0, ↓a_s1, ↓n_s1, Int.add_zero, t_lt, f_lt, t_le, f_le, t_eq, f_eq, true_and, and_true, false_and, and_false, and_self, ↓reduceIte, z_bool_of, or_true, true_or, or_false, false_or, Int.neg_neg, not_true_eq_false, not_false_eq_true, lg_lt, lg_le, lg_gt, lg_ge, lg_eq, j_lit, j_add, j_sub, j_mul, j_neg, j_eq, i64_id, ij, ji, z_rt, Nat.reduceEqDiff, Nat.reduceAdd, Int.reduceAdd, Int.reduceSub, Int.reduceMul, Int.reduceNeg, Int.reduceLT, Int.reduceLE, Int.reduceEq]
    · rw [show b01 (0 ≤ g (68 + 2 * k) ∧ g (68 + 2 * k) < g 0) = 0 from if_neg (fun z => q z.2)] at c66'
      refine ⟨S, 0, ?_, FrHr.rf, Or.inr ⟨rfl, fun z => q (z k hk (by omega))⟩⟩
      rw [B48_2]
      simp (disch := first | omega | assumption | exact b01_rng _ | exact st_5 | exact st_12 | exact st_19 | (simp only [isSt_sI, isSt_sJ, isSt_sF, isSt_sG, isSt_sA]; assumption)) only [↓B48_10, ↓B48_15, ↓B48_21, ↓B48_24, ↓a_62, ↓n_62, ↓o_19, ↓o_5, ↓r_19_7, ↓r_58_2, ↓r_5_7, ↓s_62, ↓r_5_7, ↓o_5, c73', c66', i_lit, i_add, i_sub, i_mul, i_neg, i_lt, i_le, i_eq, i32_gI, i64_gJ, i32_id, i32_to, i64_to, sI_i32, sJ_i64, b01_t, b01_f, i32_b01, b01_0, ↓a_s0, ↓n_s0, ↓a_s1, ↓n_s1, Int.add_zero, t_lt, f_lt, t_le, f_le, t_eq, f_eq, true_and, and_true, false_and, and_false, and_self, ↓reduceIte, z_bool_of, or_true, true_or, or_false, false_or, Int.neg_neg, not_true_eq_false, not_false_eq_true, lg_lt, lg_le, lg_gt, lg_ge, lg_eq, j_lit, j_add, j_sub, j_mul, j_neg, j_eq, i64_id, ij, ji, z_rt, Nat.reduceEqDiff, Nat.reduceAdd, Int.reduceAdd, Int.reduceSub, Int.reduceMul, Int.reduceNeg, Int.reduceLT, Int.reduceLE, Int.reduceEq, s2]
/-- the class hears -/
theorem x48 (hd : 0 < d) (hB : HdB g) (hG : GB g) {S : zS} (hS : SHd S g) (hL : LkR S cls g) : ∃ (S' : zS) (r : Int), z_ev X d (z_entry 48 [.ref 58, .ref 5] (mk S)) = some (vI r, mk S') ∧ FrHr S S' ∧ ((r = 1 ∧ HrA (g 2) g ∧ BtL S' (LnK (g 2) cls g)) ∨ (r = 0 ∧ ¬ HrA (g 2) g)) := by
  have hbt := BtL_C (how := 0) hG hL (by omega)
  obtain ⟨S', r, e1, e2, e3⟩ := l48 (X := X) (d := d) (cls := cls) hd hB hG.1 (g 2).toNat 0 S none none (by have := hB.1; omega) (by omega) hS ⟨hbt.1, hbt.2.2.1, fun u u1 u2 i hi => by
    rw [if_neg (by omega), LnK_0]
    exact hbt.2.2.2.1 u u1 u2 i hi⟩ (fun j q1 q2 => by omega)
  refine ⟨S', r, ?_, e2, ?_⟩
  · rw [← e1]
    show z_ev X d (48, 0, [some (.ref 58), some (.ref 5), none, none, none], [], mk S) = _
    simp (disch := first | omega | assumption | exact b01_rng _ | exact st_5 | exact st_12 | exact st_19 | (simp only [isSt_sI, isSt_sJ, isSt_sF, isSt_sG, isSt_sA]; assumption)) only [↓B48_0, i_lit, i_add, i_sub, i_mul, i_neg, i_lt, i_le, i_eq, i32_gI, i64_gJ, i32_id, i32_to, i64_to, sI_i32, sJ_i64, b01_t, b01_f, i32_b01, b01_0, ↓a_s0, ↓n_s0, ↓a_s1, ↓n_s1, Int.add_zero, t_lt, f_lt, t_le, f_le, t_eq, f_eq, true_and, and_true, false_and, and_false, and_self, ↓reduceIte, z_bool_of, or_true, true_or, or_false, false_or, Int.neg_neg, not_true_eq_false, not_false_eq_true, lg_lt, lg_le, lg_gt, lg_ge, lg_eq, j_lit, j_add, j_sub, j_mul, j_neg, j_eq, i64_id, ij, ji, z_rt, Nat.reduceEqDiff, Nat.reduceAdd, Int.reduceAdd, Int.reduceSub, Int.reduceMul, Int.reduceNeg, Int.reduceLT, Int.reduceLE, Int.reduceEq]
  · rcases e3 with ⟨w1, w2, w3, w4, w5⟩ | w
    · refine Or.inl ⟨w1, w2, w3, hG.1, w4, fun u u1 u2 i hi => ?_, fun p v h => h.1⟩
      have := w5 u u1 u2 i hi
      rw [if_neg (by omega)] at this; exact this
    · exact Or.inr w
end
