/-! ORDERS: one turn of the class -/
def FrOc (S S' : zS) : Prop := Dyn S S' ∧ (∀ a i, a ≠ 6 → a ≠ 7 → ¬ (27 ≤ a ∧ a ≤ 30) → ¬ (57 ≤ a ∧ a ≤ 65) → a ≠ 68 → gI S' a i = gI S a i) ∧ (∀ a i, ¬ (64 ≤ a ∧ a ≤ 67) → a ≠ 69 → gJ S' a i = gJ S a i) ∧ (∀ a i, a ≠ 58 → gQ S' a i = gQ S a i)
theorem FrOc.rf {S : zS} : FrOc S S := ⟨Dyn.rf, fun _ _ _ _ _ _ _ => rfl, fun _ _ _ _ => rfl, fun _ _ _ => rfl⟩
theorem FrOc.tr {A B C : zS} (h1 : FrOc A B) (h2 : FrOc B C) : FrOc A C := ⟨h1.1.tr h2.1, fun a i q r s t u => (h2.2.1 a i q r s t u).trans (h1.2.1 a i q r s t u), fun a i q r => (h2.2.2.1 a i q r).trans (h1.2.2.1 a i q r), fun a i q => (h2.2.2.2 a i q).trans (h1.2.2.2 a i q)⟩
theorem FrOq.oc {S S' : zS} (h : FrOq S S') : FrOc S S' := ⟨h.1, fun a i _ _ _ q r => h.2.1 a i r (by omega), h.2.2.1, h.2.2.2⟩
theorem FrQc.oc {S S' : zS} (h : FrQc S S') : FrOc S S' := h.oq.oc
theorem FrC.oc {S S' : zS} (h : FrC S S') : FrOc S S' := ⟨h.1, fun a i q r s _ _ => h.2.1 a i q r s, fun a i _ _ => h.2.2.1 a i, fun a i _ => h.2.2.2 a i⟩
theorem FrSk.oc {S S' : zS} (h : FrSk 57 S S') : FrOc S S' := ⟨h.1, fun a i _ _ _ q _ => h.2.1 a i (by omega), fun a i _ _ => h.2.2.1 a i, fun a i _ => h.2.2.2 a i⟩
/-- between turns: the class's store, beside what the reference's would be -/
def OR (S T0 : zS) (done latest asks : Int) : Prop := LH PM QL S T0 ∧ FxC S ∧ (∃ F : Int → Int, (∀ i, 0 ≤ i → i < 30 → gI S 68 i = ordW (gI T0 74) done latest F i) ∧ FOK asks (gI T0 74) F) ∧ (0 ≤ done ∧ done ≤ 240) ∧ (-1 ≤ latest ∧ latest ≤ 6)
theorem LH.oq {S S' T : zS} (h : LH PM QL S T) (hF : FrOq S S') : LH PM QL S' T := h.fr good2.g hF.1 (fun a i q => hF.2.1 a i (by omega) (by omega)) (fun a i q => hF.2.2.2 a i (by omega)) (fun _ _ _ => rfl) rfl
theorem LH.sk {S S' T : zS} (h : LH PM QL S T) (hF : FrSk 57 S S') : LH PM QL S' T := h.fr good2.g hF.1 (fun a i q => hF.2.1 a i (by omega)) (fun a i q => hF.2.2.2 a i) (fun _ _ _ => rfl) rfl
theorem OR.sk {S S' T0 : zS} {done latest asks : Int} (h : OR S T0 done latest asks) (hF : FrSk 57 S S') : OR S' T0 done latest asks := by
  obtain ⟨h1, h2, ⟨F, h3, h4⟩, h5⟩ := h
  exact ⟨h1.sk hF, h2.keep hF.2.2.1 hF.2.2.2, ⟨F, fun i q1 q2 => by rw [hF.2.1 68 i (by omega)]; exact h3 i q1 q2, h4⟩, h5⟩
theorem eV_n {e : Ev} {w : Int → Int} (h : e w = none) : eV (some e) w = -2000000000 := by simp only [eV, h]
theorem eV_v {e : Ev} {w : Int → Int} {v : Int} (h : e w = some v) : eV (some e) w = v := by simp only [eV, h]
theorem e14r {X : zX} {d : Nat} (hd : 0 ≤ d) {S : zS} (k f : Int) (hk : 0 ≤ k ∧ k < 12) (hf : 0 ≤ f ∧ f < 5) : z_ev X d (z_entry 14 [.ref 53, .int (Int32.ofInt k), .int (Int32.ofInt f)] (mk S)) = some (some (.int (Int32.ofInt (gI S 55 (5 * k + f)))), mk S) := by
  show z_ev X d (14, 0, [some (.ref 53), some (.int (Int32.ofInt k)), some (.int (Int32.ofInt f)), none], [], mk S) = _
  simp (disch := first | omega | assumption | exact b01_rng _ | exact st_5 | exact st_12 | exact st_19 | (simp only [isSt_sI, isSt_sJ, isSt_sF, isSt_sG, isSt_sA]; assumption)) only [↓B14_0, ↓B14_10, ↓B14_14, ↓B14_23, ↓B14_32, ↓B14_33, ↓a_55, ↓n_55, ↓r_53_1, ↓s_55, i_lit, i_add, i_sub, i_mul, i_neg, i_lt, i_le, i_eq, i32_gI, i64_gJ, i32_id, i32_to, i64_to, sI_i32, sJ_i64, b01_t, b01_f, i32_b01, b01_0, ↓a_s0, ↓n_s0, ↓a_s1, ↓n_s1, Int.add_zero, t_lt, f_lt, t_le, f_le, t_eq, f_eq, true_and, and_true, false_and, and_false, and_self, ↓reduceIte, z_bool_of, or_true, true_or, or_false, false_or, Int.neg_neg, not_true_eq_false, not_false_eq_true, lg_lt, lg_le, lg_gt, lg_ge, lg_eq, j_lit, j_add, j_sub, j_mul, j_neg, j_eq, i64_id, ij, ji, z_rt, Nat.reduceEqDiff, Nat.reduceAdd, Int.reduceAdd, Int.reduceSub, Int.reduceMul, Int.reduceNeg, Int.reduceLT, Int.reduceLE, Int.reduceEq]
theorem c14r {X : zX} {d : Nat} (hd : 0 < d) {S : zS} (k f : Int) (hk : 0 ≤ k ∧ k < 12) (hf : 0 ≤ f ∧ f < 5) {cm cp : Nat} {L : zL} {st : List Value} : z_evc X d 14 [.ref 53, .int (Int32.ofInt k), .int (Int32.ofInt f)] (cm, cp, L, st, mk S) = z_ev X d (cm, cp, L, .int (Int32.ofInt (gI S 55 (5 * k + f))) :: st, mk S) := z_evc_of (r := (some (.int (Int32.ofInt (gI S 55 (5 * k + f)))), mk S)) (ck := (cm, cp, L, st, mk S)) hd (e14r (X := X) (Nat.le_refl _) k f hk hf)
section
variable {X : zX} {d : Nat} {S T0 : zS} {done latest asks : Int}
/-- code of orders is run -/
theorem ev41 (hd : 0 < d) {g F : Int → Int} (h52 : gI S 52 1 = 1) {sz fr : Int} (hsz : sz ≤ 436) {x : Option Ev} (hC : CSeg (IC S) sz x fr) (hW : WB (ordW g done latest F)) (hw : ∀ i, 0 ≤ i → i < 30 → gI S 68 i = ordW g done latest F i) : ∃ S' : zS, z_ev X d (z_entry 41 [.ref 56, .ref 54, .int (Int32.ofInt fr), .ref 68] (mk S)) = some (vI (eV x (ordW g done latest F)), mk S') ∧ FrSk 57 S S' := by
  have hI : IC S = fun k => dC 1 (gI S 54 k) := by funext k; unfold IC; rw [h52]
  rw [hI] at hC
  exact x41 (X := X) (d := d) hd (r := 56) (sk := 57) (cc := 54) (wc := 68) (len := 436) (wl := 30) (Or.inl ⟨rfl, rfl⟩) (by omega) (zd54 S) (by omega) (by omega) (zd68 S) (by omega) (by omega) (ord := 1) (Or.inr ⟨rfl, rfl⟩) hC hsz hW (fun i q1 q2 => hw i q1 (by omega))
abbrev L145 (j x3 x4 x5 : Int) (x6 : Option Value) : zL := [some (.ref 4), some (.ref 53), some (.int (Int32.ofInt j)), some (.int (Int32.ofInt x3)), some (.int (Int32.ofInt x4)), some (.int (Int32.ofInt x5)), x6]
/-- what was run counts, and words are set anew -/
theorem fin145 (hd : 40 < d) {S2 : zS} {j x3 x4 x5 v latest' : Int} (hL : LH PM QL S2 T0) (hX : FxC S2) (ha : asks = 0 ∨ asks = 1) (h534 : gI S2 53 4 = asks) (h1 : gI S2 68 1 = done) (h2 : gI S2 68 2 = latest') (hdn : 0 ≤ done ∧ done < 240) (hl : -1 ≤ latest' ∧ latest' ≤ 6) (hv : 0 ≤ v ∧ v ≤ 6) : ∃ S' : zS, z_ev X d (145, 167, L145 j x3 x4 x5 (vI v), [], mk S2) = some (vI 1, mk S') ∧ FrOc S2 S' ∧ OR S' T0 (done + 1) latest' asks := by
  have fI : FrOq S2 (sI S2 68 1 (done + 1)) := FrOq.I
  have XI : FxC (sI S2 68 1 (done + 1)) := hX.keep (fun _ _ => rfl) (fun _ _ => rfl)
  obtain ⟨S', F, w1, w2, w3, w4, w5⟩ := x146 (X := X) (d := 40) (by omega) (S := sI S2 68 1 (done + 1)) (g := gI T0 74) (asks := asks) (done := done + 1) (latest := latest') (hL.oq fI).1 XI ha (by rw [gI_sI, if_pos ⟨rfl, rfl⟩, i32_id (by omega) (by omega)]) (by rw [gI_sI, if_neg (by omega)]; exact h2)
  have ev1 := fun {cm cp : Nat} {L : zL} {st : List Value} => evV (X := X) (d := d) (by omega) w1 (cm := cm) (cp := cp) (L := L) (st := st)
  have e4 : gI (sI S2 68 1 (done + 1)) 53 4 = asks := by rw [gI_sI, if_neg (by omega)]; exact h534
  refine ⟨S', ?_, (fI.tr w2).oc, (hL.oq fI).oq w2, w3, ⟨F, w4, w5⟩, by omega, hl⟩
  rcases ha with rfl | rfl
  · simp (disch := first | omega | assumption | exact b01_rng _ | exact st_5 | exact st_12 | exact st_19 | (simp only [isSt_sI, isSt_sJ, isSt_sF, isSt_sG, isSt_sA]; assumption)) only [↓B145_167, ↓B145_174, ↓B145_192, ↓a_54, ↓a_68, ↓n_54, ↓n_68, ↓o_4, ↓o_53, ↓o_56, ↓o_59, ↓r_4_10, ↓r_4_12, ↓r_53_0, ↓r_53_4, ↓s_54, ↓s_68, ↓o_4, ↓a_68, ↓s_68, ↓r_53_4, e4, h1, ev1, i_lit, i_add, i_sub, i_mul, i_neg, i_lt, i_le, i_eq, i32_gI, i64_gJ, i32_id, i32_to, i64_to, sI_i32, sJ_i64, b01_t, b01_f, i32_b01, b01_0, ↓a_s0, ↓n_s0, ↓a_s1, ↓n_s1, Int.add_zero, t_lt, f_lt, t_le, f_le, t_eq, f_eq, true_and, and_true, false_and, and_false, and_self, ↓reduceIte, z_bool_of, or_true, true_or, or_false, false_or, Int.neg_neg, not_true_eq_false, not_false_eq_true, lg_lt, lg_le, lg_gt, lg_ge, lg_eq, j_lit, j_add, j_sub, j_mul, j_neg, j_eq, i64_id, ij, ji, z_rt, Nat.reduceEqDiff, Nat.reduceAdd, Int.reduceAdd, Int.reduceSub, Int.reduceMul, Int.reduceNeg, Int.reduceLT, Int.reduceLE, Int.reduceEq]
  · simp (disch := first | omega | assumption | exact b01_rng _ | exact st_5 | exact st_12 | exact st_19 | (simp only [isSt_sI, isSt_sJ, isSt_sF, isSt_sG, isSt_sA]; assumption)) only [↓B145_167, ↓B145_174, ↓B145_192, ↓a_54, ↓a_68, ↓n_54, ↓n_68, ↓o_4, ↓o_53, ↓o_56, ↓o_59, ↓r_4_10, ↓r_4_12, ↓r_53_0, ↓r_53_4, ↓s_54, ↓s_68, ↓o_4, ↓a_68, ↓s_68, ↓r_53_4, e4, h1, ev1, i_lit, i_add, i_sub, i_mul, i_neg, i_lt, i_le, i_eq, i32_gI, i64_gJ, i32_id, i32_to, i64_to, sI_i32, sJ_i64, b01_t, b01_f, i32_b01, b01_0, ↓a_s0, ↓n_s0, ↓a_s1, ↓n_s1, Int.add_zero, t_lt, f_lt, t_le, f_le, t_eq, f_eq, true_and, and_true, false_and, and_false, and_self, ↓reduceIte, z_bool_of, or_true, true_or, or_false, false_or, Int.neg_neg, not_true_eq_false, not_false_eq_true, lg_lt, lg_le, lg_gt, lg_ge, lg_eq, j_lit, j_add, j_sub, j_mul, j_neg, j_eq, i64_id, ij, ji, z_rt, Nat.reduceEqDiff, Nat.reduceAdd, Int.reduceAdd, Int.reduceSub, Int.reduceMul, Int.reduceNeg, Int.reduceLT, Int.reduceLE, Int.reduceEq]
/-- weigh -/
theorem w145 (hd : 40 < d) {j x3 x4 x5 : Int} (hO : OR S T0 done latest asks) (ha : asks = 0 ∨ asks = 1) (h534 : gI S 53 4 = asks) (hdn : done < 240) (r4 : r32 x4) (r5 : r32 x5) : ((0 ≤ x5 ∧ x5 ≤ 2) ∧ (0 ≤ x4 ∧ x4 < gI T0 74 0) ∧ gI T0 74 (8 + x4) ≠ x5 ∧ ∃ S' : zS, z_ev X d (145, 86, L145 j x3 x4 x5 none, [.int (Int32.ofInt 276)], mk S) = some (vI 1, mk S') ∧ FrOc S S' ∧ OR S' (sI (remS T0 0) 74 (8 + x4) x5) (done + 1) latest asks) ∨ (¬ ((0 ≤ x5 ∧ x5 ≤ 2) ∧ (0 ≤ x4 ∧ x4 < gI T0 74 0) ∧ gI T0 74 (8 + x4) ≠ x5) ∧ z_ev X d (145, 86, L145 j x3 x4 x5 none, [.int (Int32.ofInt 276)], mk S) = some (vI 0, mk S)) := by
  obtain ⟨hL, hX, ⟨F, hw, hF⟩, hdb, hlb⟩ := hO
  obtain ⟨⟨b1, b1'⟩, -, -, -, -, -, b7, -⟩ := id hL.1
  simp only [Nat.reduceAdd] at b7
  have hH := hL.2.1
  by_cases q : 0 ≤ x5 ∧ x5 ≤ 2
  · by_cases q2 : 0 ≤ x4 ∧ x4 < gI T0 74 0
    · have bp := b7 x4 q2.1 (by omega)
      by_cases q3 : gI T0 74 (8 + x4) = x5
      · right
        refine ⟨fun z => z.2.2 q3, ?_⟩
        have cc := fun {cm cp : Nat} {L : zL} {st : List Value} => c142c (X := X) (d := d) (by omega) (cm := cm) (cp := cp) (L := L) (st := st) (S := S) x4 x5 q (by omega) (by omega) (by omega)
        simp (disch := first | omega | assumption | exact b01_rng _ | exact st_5 | exact st_12 | exact st_19 | (simp only [isSt_sI, isSt_sJ, isSt_sF, isSt_sG, isSt_sA]; assumption)) only [↓B145_86, ↓B145_116, ↓B145_124, ↓B145_167, ↓B145_172, ↓o_4, cc, i_lit, i_add, i_sub, i_mul, i_neg, i_lt, i_le, i_eq, i32_gI, i64_gJ, i32_id, i32_to, i64_to, sI_i32, sJ_i64, b01_t, b01_f, i32_b01, b01_0, ↓a_s0, ↓n_s0, ↓a_s1, ↓n_s1, Int.add_zero, t_lt, f_lt, t_le, f_le, t_eq, f_eq, true_and, and_true, false_and, and_false, and_self, ↓reduceIte, z_bool_of, or_true, true_or, or_false, false_or, Int.neg_neg, not_true_eq_false, not_false_eq_true, lg_lt, lg_le, lg_gt, lg_ge, lg_eq, j_lit, j_add, j_sub, j_mul, j_neg, j_eq, i64_id, ij, ji, z_rt, Nat.reduceEqDiff, Nat.reduceAdd, Int.reduceAdd, Int.reduceSub, Int.reduceMul, Int.reduceNeg, Int.reduceLT, Int.reduceLE, Int.reduceEq]
      · left
        refine ⟨q, q2, q3, ?_⟩
        have cc := fun {cm cp : Nat} {L : zL} {st : List Value} => c142d (X := X) (d := d) (by omega) (cm := cm) (cp := cp) (L := L) (st := st) (S := S) x4 x5 (gI T0 74 (8 + x4)) q (by omega) (by omega) (by omega) (by omega) q3 (by omega)
        obtain ⟨hL2, hC, hM⟩ := hL.weigh good2.g q q2 (v := gI T0 74 (8 + x4)) rfl
        have hX2 : FxC (addS (sI S 6 (3 * x4) x5) 0 x4 (gI T0 74 (8 + x4))) := hX.keep hC.2.2.1 hC.2.2.2
        obtain ⟨S', w1, w2, w3⟩ := fin145 (X := X) (d := d) hd (done := done) (asks := asks) (j := j) (x3 := x3) (x4 := x4) (x5 := x5) (v := gI T0 74 (8 + x4)) (latest' := latest) hL2 hX2 ha (by rw [hC.2.1 53 4 (by omega) (by omega) (by omega)]; exact h534) (by rw [hC.2.1 68 1 (by omega) (by omega) (by omega), hw 1 (by omega) (by omega)]; rfl) (by rw [hC.2.1 68 2 (by omega) (by omega) (by omega), hw 2 (by omega) (by omega)]; rfl) ⟨hdb.1, hdn⟩ hlb (by omega)
        refine ⟨S', ?_, hC.oc.tr w2, w3⟩
        rw [← w1]
        simp (disch := first | omega | assumption | exact b01_rng _ | exact st_5 | exact st_12 | exact st_19 | (simp only [isSt_sI, isSt_sJ, isSt_sF, isSt_sG, isSt_sA]; assumption)) only [↓B145_86, ↓B145_116, ↓B145_124, ↓o_4, cc, i_lit, i_add, i_sub, i_mul, i_neg, i_lt, i_le, i_eq, i32_gI, i64_gJ, i32_id, i32_to, i64_to, sI_i32, sJ_i64, b01_t, b01_f, i32_b01, b01_0, ↓a_s0, ↓n_s0, ↓a_s1, ↓n_s1, Int.add_zero, t_lt, f_lt, t_le, f_le, t_eq, f_eq, true_and, and_true, false_and, and_false, and_self, ↓reduceIte, z_bool_of, or_true, true_or, or_false, false_or, Int.neg_neg, not_true_eq_false, not_false_eq_true, lg_lt, lg_le, lg_gt, lg_ge, lg_eq, j_lit, j_add, j_sub, j_mul, j_neg, j_eq, i64_id, ij, ji, z_rt, Nat.reduceEqDiff, Nat.reduceAdd, Int.reduceAdd, Int.reduceSub, Int.reduceMul, Int.reduceNeg, Int.reduceLT, Int.reduceLE, Int.reduceEq]
    · right
      refine ⟨fun z => q2 z.2.1, ?_⟩
      have cc := fun {cm cp : Nat} {L : zL} {st : List Value} => c142b (X := X) (d := d) (by omega) (cm := cm) (cp := cp) (L := L) (st := st) (S := S) x4 x5 r4 q (by omega) (by omega)
      simp (disch := first | omega | assumption | exact b01_rng _ | exact st_5 | exact st_12 | exact st_19 | (simp only [isSt_sI, isSt_sJ, isSt_sF, isSt_sG, isSt_sA]; assumption)) only [↓B145_86, ↓B145_116, ↓B145_124, ↓B145_167, ↓B145_172, ↓o_4, cc, i_lit, i_add, i_sub, i_mul, i_neg, i_lt, i_le, i_eq, i32_gI, i64_gJ, i32_id, i32_to, i64_to, sI_i32, sJ_i64, b01_t, b01_f, i32_b01, b01_0, ↓a_s0, ↓n_s0, ↓a_s1, ↓n_s1, Int.add_zero, t_lt, f_lt, t_le, f_le, t_eq, f_eq, true_and, and_true, false_and, and_false, and_self, ↓reduceIte, z_bool_of, or_true, true_or, or_false, false_or, Int.neg_neg, not_true_eq_false, not_false_eq_true, lg_lt, lg_le, lg_gt, lg_ge, lg_eq, j_lit, j_add, j_sub, j_mul, j_neg, j_eq, i64_id, ij, ji, z_rt, Nat.reduceEqDiff, Nat.reduceAdd, Int.reduceAdd, Int.reduceSub, Int.reduceMul, Int.reduceNeg, Int.reduceLT, Int.reduceLE, Int.reduceEq]
  · right
    refine ⟨fun z => q z.1, ?_⟩
    have cc := fun {cm cp : Nat} {L : zL} {st : List Value} => c142a (X := X) (d := d) (by omega) (cm := cm) (cp := cp) (L := L) (st := st) (S := S) x4 x5 r4 r5 (by omega) (by omega)
    simp (disch := first | omega | assumption | exact b01_rng _ | exact st_5 | exact st_12 | exact st_19 | (simp only [isSt_sI, isSt_sJ, isSt_sF, isSt_sG, isSt_sA]; assumption)) only [↓B145_86, ↓B145_116, ↓B145_124, ↓B145_167, ↓B145_172, ↓o_4, cc, i_lit, i_add, i_sub, i_mul, i_neg, i_lt, i_le, i_eq, i32_gI, i64_gJ, i32_id, i32_to, i64_to, sI_i32, sJ_i64, b01_t, b01_f, i32_b01, b01_0, ↓a_s0, ↓n_s0, ↓a_s1, ↓n_s1, Int.add_zero, t_lt, f_lt, t_le, f_le, t_eq, f_eq, true_and, and_true, false_and, and_false, and_self, ↓reduceIte, z_bool_of, or_true, true_or, or_false, false_or, Int.neg_neg, not_true_eq_false, not_false_eq_true, lg_lt, lg_le, lg_gt, lg_ge, lg_eq, j_lit, j_add, j_sub, j_mul, j_neg, j_eq, i64_id, ij, ji, z_rt, Nat.reduceEqDiff, Nat.reduceAdd, Int.reduceAdd, Int.reduceSub, Int.reduceMul, Int.reduceNeg, Int.reduceLT, Int.reduceLE, Int.reduceEq]
/-- end, meet -/
theorem e145 (hd : 40 < d) {j x3 x4 x5 kd k : Int} (hO : OR S T0 done latest asks) (ha : asks = 0 ∨ asks = 1) (h534 : gI S 53 4 = asks) (hdn : done < 240) (r4 : r32 x4) (hk : (kd = 278 ∧ k = 1) ∨ (kd = 279 ∧ k = 2)) : ((0 ≤ x4 ∧ x4 < gI T0 74 0) ∧ ∃ S' : zS, z_ev X d (145, 86, L145 j x3 x4 x5 none, [.int (Int32.ofInt kd)], mk S) = some (vI 1, mk S') ∧ FrOc S S' ∧ OR S' (sI (remS T0 k) 74 (8 + 20 * k + x4) (1 - gI T0 74 (8 + 20 * k + x4))) (done + 1) latest asks) ∨ (¬ (0 ≤ x4 ∧ x4 < gI T0 74 0) ∧ z_ev X d (145, 86, L145 j x3 x4 x5 none, [.int (Int32.ofInt kd)], mk S) = some (vI 0, mk S)) := by
  obtain ⟨hL, hX, ⟨F, hw, hF⟩, hdb, hlb⟩ := hO
  obtain ⟨⟨b1, b1'⟩, -, -, -, -, -, b7, -⟩ := id hL.1
  simp only [Nat.reduceAdd] at b7
  have hH := hL.2.1
  by_cases q2 : 0 ≤ x4 ∧ x4 < gI T0 74 0
  · left
    refine ⟨q2, ?_⟩
    have bp := b7 x4 q2.1 (by omega)
    have hcell : gI S 6 (3 * x4 + k) = gI T0 74 (8 + 20 * k + x4) ∧ 0 ≤ gI T0 74 (8 + 20 * k + x4) ∧ gI T0 74 (8 + 20 * k + x4) ≤ 1 := by
      rcases hk with ⟨-, rfl⟩ | ⟨-, rfl⟩
      · rw [show 8 + 20 * 1 + x4 = 28 + x4 by omega]; omega
      · rw [show 8 + 20 * 2 + x4 = 48 + x4 by omega]; omega
    have cc := fun {cm cp : Nat} {L : zL} {st : List Value} => c143b (X := X) (d := d) (by omega) (cm := cm) (cp := cp) (L := L) (st := st) (S := S) x4 k (gI T0 74 (8 + 20 * k + x4)) (by omega) (by omega) (by omega) hcell.1 hcell.2 (by omega)
    obtain ⟨hL2, hC, hM⟩ := hL.turn good2.g (k := k) (by omega) q2 (v := gI T0 74 (8 + 20 * k + x4)) rfl
    have hX2 : FxC (sI (addS S k x4 0) 6 (3 * x4 + k) (1 - gI T0 74 (8 + 20 * k + x4))) := hX.keep hC.2.2.1 hC.2.2.2
    obtain ⟨S', w1, w2, w3⟩ := fin145 (X := X) (d := d) hd (done := done) (asks := asks) (j := j) (x3 := x3) (x4 := x4) (x5 := x5) (v := 1 - gI T0 74 (8 + 20 * k + x4)) (latest' := latest) hL2 hX2 ha (by rw [hC.2.1 53 4 (by omega) (by omega) (by omega)]; exact h534) (by rw [hC.2.1 68 1 (by omega) (by omega) (by omega), hw 1 (by omega) (by omega)]; rfl) (by rw [hC.2.1 68 2 (by omega) (by omega) (by omega), hw 2 (by omega) (by omega)]; rfl) ⟨hdb.1, hdn⟩ hlb (by omega)
    refine ⟨S', ?_, hC.oc.tr w2, w3⟩
    rw [← w1]
    rcases hk with ⟨rfl, rfl⟩ | ⟨rfl, rfl⟩
    · simp (disch := first | omega | assumption | exact b01_rng _ | exact st_5 | exact st_12 | exact st_19 | (simp only [isSt_sI, isSt_sJ, isSt_sF, isSt_sG, isSt_sA]; assumption)) only [↓B145_86, ↓B145_129, ↓B145_136, ↓o_4, cc, i_lit, i_add, i_sub, i_mul, i_neg, i_lt, i_le, i_eq, i32_gI, i64_gJ, i32_id, i32_to, i64_to, sI_i32, sJ_i64, b01_t, b01_f, i32_b01, b01_0, ↓a_s0, ↓n_s0, ↓a_s1, ↓n_s1, Int.add_zero, t_lt, f_lt, t_le, f_le, t_eq, f_eq, true_and, and_true, false_and, and_false, and_self, ↓reduceIte, z_bool_of, or_true, true_or, or_false, false_or, Int.neg_neg, not_true_eq_false, not_false_eq_true, lg_lt, lg_le, lg_gt, lg_ge, lg_eq, j_lit, j_add, j_sub, j_mul, j_neg, j_eq, i64_id, ij, ji, z_rt, Nat.reduceEqDiff, Nat.reduceAdd, Int.reduceAdd, Int.reduceSub, Int.reduceMul, Int.reduceNeg, Int.reduceLT, Int.reduceLE, Int.reduceEq]
    · simp (disch := first | omega | assumption | exact b01_rng _ | exact st_5 | exact st_12 | exact st_19 | (simp only [isSt_sI, isSt_sJ, isSt_sF, isSt_sG, isSt_sA]; assumption)) only [↓B145_86, ↓B145_141, ↓B145_148, ↓o_4, cc, i_lit, i_add, i_sub, i_mul, i_neg, i_lt, i_le, i_eq, i32_gI, i64_gJ, i32_id, i32_to, i64_to, sI_i32, sJ_i64, b01_t, b01_f, i32_b01, b01_0, ↓a_s0, ↓n_s0, ↓a_s1, ↓n_s1, Int.add_zero, t_lt, f_lt, t_le, f_le, t_eq, f_eq, true_and, and_true, false_and, and_false, and_self, ↓reduceIte, z_bool_of, or_true, true_or, or_false, false_or, Int.neg_neg, not_true_eq_false, not_false_eq_true, lg_lt, lg_le, lg_gt, lg_ge, lg_eq, j_lit, j_add, j_sub, j_mul, j_neg, j_eq, i64_id, ij, ji, z_rt, Nat.reduceEqDiff, Nat.reduceAdd, Int.reduceAdd, Int.reduceSub, Int.reduceMul, Int.reduceNeg, Int.reduceLT, Int.reduceLE, Int.reduceEq]
  · right
    refine ⟨q2, ?_⟩
    have cc := fun {cm cp : Nat} {L : zL} {st : List Value} => c143a (X := X) (d := d) (by omega) (cm := cm) (cp := cp) (L := L) (st := st) (S := S) x4 k r4 (by omega) (by omega)
    rcases hk with ⟨rfl, rfl⟩ | ⟨rfl, rfl⟩
    · simp (disch := first | omega | assumption | exact b01_rng _ | exact st_5 | exact st_12 | exact st_19 | (simp only [isSt_sI, isSt_sJ, isSt_sF, isSt_sG, isSt_sA]; assumption)) only [↓B145_86, ↓B145_129, ↓B145_136, ↓B145_167, ↓B145_172, ↓o_4, cc, i_lit, i_add, i_sub, i_mul, i_neg, i_lt, i_le, i_eq, i32_gI, i64_gJ, i32_id, i32_to, i64_to, sI_i32, sJ_i64, b01_t, b01_f, i32_b01, b01_0, ↓a_s0, ↓n_s0, ↓a_s1, ↓n_s1, Int.add_zero, t_lt, f_lt, t_le, f_le, t_eq, f_eq, true_and, and_true, false_and, and_false, and_self, ↓reduceIte, z_bool_of, or_true, true_or, or_false, false_or, Int.neg_neg, not_true_eq_false, not_false_eq_true, lg_lt, lg_le, lg_gt, lg_ge, lg_eq, j_lit, j_add, j_sub, j_mul, j_neg, j_eq, i64_id, ij, ji, z_rt, Nat.reduceEqDiff, Nat.reduceAdd, Int.reduceAdd, Int.reduceSub, Int.reduceMul, Int.reduceNeg, Int.reduceLT, Int.reduceLE, Int.reduceEq]
    · simp (disch := first | omega | assumption | exact b01_rng _ | exact st_5 | exact st_12 | exact st_19 | (simp only [isSt_sI, isSt_sJ, isSt_sF, isSt_sG, isSt_sA]; assumption)) only [↓B145_86, ↓B145_141, ↓B145_148, ↓B145_167, ↓B145_172, ↓o_4, cc, i_lit, i_add, i_sub, i_mul, i_neg, i_lt, i_le, i_eq, i32_gI, i64_gJ, i32_id, i32_to, i64_to, sI_i32, sJ_i64, b01_t, b01_f, i32_b01, b01_0, ↓a_s0, ↓n_s0, ↓a_s1, ↓n_s1, Int.add_zero, t_lt, f_lt, t_le, f_le, t_eq, f_eq, true_and, and_true, false_and, and_false, and_self, ↓reduceIte, z_bool_of, or_true, true_or, or_false, false_or, Int.neg_neg, not_true_eq_false, not_false_eq_true, lg_lt, lg_le, lg_gt, lg_ge, lg_eq, j_lit, j_add, j_sub, j_mul, j_neg, j_eq, i64_id, ij, ji, z_rt, Nat.reduceEqDiff, Nat.reduceAdd, Int.reduceAdd, Int.reduceSub, Int.reduceMul, Int.reduceNeg, Int.reduceLT, Int.reduceLE, Int.reduceEq]
/-- pass -/
theorem p145 (hd : 80 < d) {j x3 x4 x5 : Int} (hO : OR S T0 done latest asks) (ha : asks = 0 ∨ asks = 1) (h534 : gI S 53 4 = asks) (hdn : done < 240) : (gI T0 74 5 < 999 ∧ ∃ (S' : zS) (c : Int) (cls : List Cl), z_ev X d (145, 86, L145 j x3 x4 x5 none, [.int (Int32.ofInt 280)], mk S) = some (vI 1, mk S') ∧ FrOc S S' ∧ LawR (gI T0 74) (gI T0 74 4) cls ∧ HowM cls (gI T0 74) c ∧ OR S' (sI (remS T0 3) 74 5 (gI T0 74 5 + 1)) (done + 1) c asks) ∨ (¬ gI T0 74 5 < 999 ∧ ∃ S' : zS, z_ev X d (145, 86, L145 j x3 x4 x5 none, [.int (Int32.ofInt 280)], mk S) = some (vI 0, mk S') ∧ FrOc S S' ∧ FxC S') := by
  obtain ⟨hL, hX, ⟨F, hw, hF⟩, hdb, hlb⟩ := hO
  have hH := hL.2.1
  have g5 := hL.1.gb.2.1
  by_cases q : gI T0 74 5 < 999
  · left
    refine ⟨q, ?_⟩
    obtain ⟨S1, c, cls, w1, w2, w3, w4, w5⟩ := x144 (X := X) (d := 60) (by omega) hL.1 hX (by rw [hH.1]; exact hH.2) q
    have hcb := w5.b
    have hL1 : LH PM QL S1 T0 := hL.oq w2.oq
    obtain ⟨hL2, hC, hM⟩ := hL1.pass good2.g (v := gI T0 74 5) rfl q
    have ev1 := fun {cm cp : Nat} {L : zL} {st : List Value} => evI (X := X) (d := d) (by omega) w1 (cm := cm) (cp := cp) (L := L) (st := st)
    generalize hS2 : addS (sI S1 7 0 (gI T0 74 5 + 1)) 3 0 0 = S2 at hL2 hC ev1
    have fI : FrOq S2 (sI S2 68 2 c) := FrOq.I
    have hX2 : FxC (sI S2 68 2 c) := (w3.keep hC.2.2.1 hC.2.2.2).keep (fun _ _ => rfl) (fun _ _ => rfl)
    obtain ⟨S', u1, u2, u3⟩ := fin145 (X := X) (d := d) (by omega) (done := done) (asks := asks) (j := j) (x3 := x3) (x4 := x4) (x5 := x5) (v := c) (latest' := c) (hL2.oq fI) hX2 ha (by rw [gI_sI, if_neg (by omega), hC.2.1 53 4 (by omega) (by omega) (by omega), w2.2.1 53 4 (by omega)]; exact h534) (by rw [gI_sI, if_neg (by omega), hC.2.1 68 1 (by omega) (by omega) (by omega), w2.2.1 68 1 (by omega), hw 1 (by omega) (by omega)]; rfl) (by rw [gI_sI, if_pos ⟨rfl, rfl⟩, i32_id (by omega) (by omega)]) ⟨hdb.1, hdn⟩ (by omega) hcb
    refine ⟨S', c, cls, ?_, (w2.oc.tr hC.oc).tr (fI.oc.tr u2), w4, w5, u3⟩
    rw [← u1]
    simp (disch := first | omega | assumption | exact b01_rng _ | exact st_5 | exact st_12 | exact st_19 | (simp only [isSt_sI, isSt_sJ, isSt_sF, isSt_sG, isSt_sA]; assumption)) only [↓B145_86, ↓B145_153, ↓B145_157, ↓a_54, ↓a_68, ↓n_54, ↓n_68, ↓o_4, ↓o_53, ↓o_56, ↓o_59, ↓r_4_10, ↓r_4_12, ↓r_53_0, ↓r_53_4, ↓s_54, ↓s_68, ↓o_4, ↓s_68, ev1, i_lit, i_add, i_sub, i_mul, i_neg, i_lt, i_le, i_eq, i32_gI, i64_gJ, i32_id, i32_to, i64_to, sI_i32, sJ_i64, b01_t, b01_f, i32_b01, b01_0, ↓a_s0, ↓n_s0, ↓a_s1, ↓n_s1, Int.add_zero, t_lt, f_lt, t_le, f_le, t_eq, f_eq, true_and, and_true, false_and, and_false, and_self, ↓reduceIte, z_bool_of, or_true, true_or, or_false, false_or, Int.neg_neg, not_true_eq_false, not_false_eq_true, lg_lt, lg_le, lg_gt, lg_ge, lg_eq, j_lit, j_add, j_sub, j_mul, j_neg, j_eq, i64_id, ij, ji, z_rt, Nat.reduceEqDiff, Nat.reduceAdd, Int.reduceAdd, Int.reduceSub, Int.reduceMul, Int.reduceNeg, Int.reduceLT, Int.reduceLE, Int.reduceEq]
  · right
    refine ⟨q, sI S 68 2 (-3), ?_, (FrOq.I).oc, hX.keep (fun _ _ => rfl) (fun _ _ => rfl)⟩
    have ev1 := fun {cm cp : Nat} {L : zL} {st : List Value} => evI (X := X) (d := d) (by omega) (y144 (X := X) (d := 60) (by omega) hL.1 (by omega)) (cm := cm) (cp := cp) (L := L) (st := st)
    simp (disch := first | omega | assumption | exact b01_rng _ | exact st_5 | exact st_12 | exact st_19 | (simp only [isSt_sI, isSt_sJ, isSt_sF, isSt_sG, isSt_sA]; assumption)) only [↓B145_86, ↓B145_153, ↓B145_157, ↓B145_167, ↓B145_172, ↓a_54, ↓a_68, ↓n_54, ↓n_68, ↓o_4, ↓o_53, ↓o_56, ↓o_59, ↓r_4_10, ↓r_4_12, ↓r_53_0, ↓r_53_4, ↓s_54, ↓s_68, ↓o_4, ↓s_68, ev1, i_lit, i_add, i_sub, i_mul, i_neg, i_lt, i_le, i_eq, i32_gI, i64_gJ, i32_id, i32_to, i64_to, sI_i32, sJ_i64, b01_t, b01_f, i32_b01, b01_0, ↓a_s0, ↓n_s0, ↓a_s1, ↓n_s1, Int.add_zero, t_lt, f_lt, t_le, f_le, t_eq, f_eq, true_and, and_true, false_and, and_false, and_self, ↓reduceIte, z_bool_of, or_true, true_or, or_false, false_or, Int.neg_neg, not_true_eq_false, not_false_eq_true, lg_lt, lg_le, lg_gt, lg_ge, lg_eq, j_lit, j_add, j_sub, j_mul, j_neg, j_eq, i64_id, ij, ji, z_rt, Nat.reduceEqDiff, Nat.reduceAdd, Int.reduceAdd, Int.reduceSub, Int.reduceMul, Int.reduceNeg, Int.reduceLT, Int.reduceLE, Int.reduceEq]
/-- ahead of the act: a test, two sums -/
theorem a145 (hd : 5 < d) {cl : Cl} {j : Nat} {sz z : Int} {F : Int → Int} {g : Int → Int} (hj : j < 12) (h52 : gI S 52 1 = 1) (hsz : sz ≤ 436) (hC : CCl (IC S) sz (gI S 55) j cl) (hOK : ClOK cl z) (hW : WB (ordW g done latest F)) (hw : ∀ i, 0 ≤ i → i < 30 → gI S 68 i = ordW g done latest F i) : ((∃ e, cl.2.2.2.2 = some e ∧ e (ordW g done latest F) ≠ some 1) ∧ ∃ S' : zS, z_ev X d (z_entry 145 [.ref 4, .ref 53, .int (Int32.ofInt j)] (mk S)) = some (vI 1, mk S') ∧ FrSk 57 S S') ∨ ((∀ e, cl.2.2.2.2 = some e → e (ordW g done latest F) = some 1) ∧ ∃ (S' : zS) (x3 : Int), z_ev X d (z_entry 145 [.ref 4, .ref 53, .int (Int32.ofInt j)] (mk S)) = z_ev X d (145, 86, L145 j x3 (eV cl.2.2.1 (ordW g done latest F)) (eV cl.2.2.2.1 (ordW g done latest F)) none, [.int (Int32.ofInt cl.1)], mk S') ∧ FrSk 57 S S') := by
  obtain ⟨c1, c2, c3, c4, c5⟩ := hC
  obtain ⟨o1, o2, o3, o4, o5⟩ := hOK
  generalize hw' : ordW g done latest F = w at *
  have k14 := fun {T : zS} (hT : FrSk 57 S T) (f : Int) (hf : 0 ≤ f ∧ f < 5) {cm cp : Nat} {L : zL} {st : List Value} => c14r (X := X) (d := d) (by omega) (cm := cm) (cp := cp) (L := L) (st := st) (S := T) (j : Int) f (by omega) hf
  have e55 : ∀ {T : zS}, FrSk 57 S T → ∀ i, gI T 55 i = gI S 55 i := fun hT i => hT.2.1 55 i (by omega)
  have eIC : ∀ {T : zS}, FrSk 57 S T → IC T = IC S := fun hT => IC_fr (fun k => hT.2.1 54 k (by omega)) (hT.2.1 52 1 (by omega))
  have run : ∀ (T : zS) (x : Option Ev) (fr : Int), FrSk 57 S T → CSeg (IC S) sz x fr → ∃ T' : zS, z_ev X 4 (z_entry 41 [.ref 56, .ref 54, .int (Int32.ofInt fr), .ref 68] (mk T)) = some (vI (eV x w), mk T') ∧ FrSk 57 T T' := fun T x fr hT hx => by
    have := ev41 (X := X) (d := 4) (by omega) (S := T) (g := g) (F := F) (done := done) (latest := latest) (by rw [hT.2.1 52 1 (by omega)]; exact h52) hsz (x := x) (fr := fr) (by rw [eIC hT]; exact hx) (by rw [hw']; exact hW) (fun i q1 q2 => by rw [hT.2.1 68 i (by omega), hw']; exact hw i q1 q2)
    rw [hw'] at this; exact this
  have rng : ∀ i, r32 (gI S 55 i) := fun i => gI_rng S 55 i
  have r0 := rng (5 * (j : Int))
  have r2 := rng (5 * (j : Int) + 2)
  have r3 := rng (5 * (j : Int) + 3)
  have r4 := rng (5 * (j : Int) + 4)
  have ent : z_ev X d (z_entry 145 [.ref 4, .ref 53, .int (Int32.ofInt j)] (mk S)) = z_ev X d (145, 0, [some (.ref 4), some (.ref 53), some (.int (Int32.ofInt j)), none, none, none, none], [], mk S) := rfl
  -- the two sums
  have sums : ∀ (T : zS) (x3 : Int), FrSk 57 S T → ∃ T' : zS, z_ev X d (145, 34, [some (.ref 4), some (.ref 53), some (.int (Int32.ofInt j)), some (.int (Int32.ofInt x3)), none, none, none], [], mk T) = z_ev X d (145, 86, L145 j x3 (eV cl.2.2.1 w) (eV cl.2.2.2.1 w) none, [.int (Int32.ofInt cl.1)], mk T') ∧ FrSk 57 S T' := fun T x3 hT => by
    obtain ⟨T1, u1, u2⟩ := run T cl.2.2.1 _ hT c3
    obtain ⟨T2, v1, v2⟩ := run T1 cl.2.2.2.1 _ (hT.tr u2) c4
    have k2 := fun {cm cp : Nat} {L : zL} {st : List Value} => k14 hT 2 (by omega) (cm := cm) (cp := cp) (L := L) (st := st)
    have k3 := fun {cm cp : Nat} {L : zL} {st : List Value} => k14 (hT.tr u2) 3 (by omega) (cm := cm) (cp := cp) (L := L) (st := st)
    have k0 := fun {cm cp : Nat} {L : zL} {st : List Value} => k14 ((hT.tr u2).tr v2) 0 (by omega) (cm := cm) (cp := cp) (L := L) (st := st)
    rw [e55 hT] at k2
    rw [e55 (hT.tr u2)] at k3
    rw [e55 ((hT.tr u2).tr v2), Int.add_zero, c1] at k0
    have ev1 := fun {cm cp : Nat} {L : zL} {st : List Value} => evI (X := X) (d := d) (by omega) u1 (cm := cm) (cp := cp) (L := L) (st := st)
    have ev2 := fun {cm cp : Nat} {L : zL} {st : List Value} => evI (X := X) (d := d) (by omega) v1 (cm := cm) (cp := cp) (L := L) (st := st)
    refine ⟨T2, ?_, (hT.tr u2).tr v2⟩
    simp (disch := first | omega | assumption | exact b01_rng _ | exact st_5 | exact st_12 | exact st_19 | (simp only [isSt_sI, isSt_sJ, isSt_sF, isSt_sG, isSt_sA]; assumption)) only [↓B145_34, ↓B145_48, ↓B145_55, ↓B145_71, ↓B145_78, ↓a_54, ↓a_68, ↓n_54, ↓n_68, ↓o_4, ↓o_53, ↓o_56, ↓o_59, ↓r_4_10, ↓r_4_12, ↓r_53_0, ↓r_53_4, ↓s_54, ↓s_68, ↓o_53, ↓o_56, ↓r_53_0, k2, k3, k0, ev1, ev2, i_lit, i_add, i_sub, i_mul, i_neg, i_lt, i_le, i_eq, i32_gI, i64_gJ, i32_id, i32_to, i64_to, sI_i32, sJ_i64, b01_t, b01_f, i32_b01, b01_0, ↓a_s0, ↓n_s0, ↓a_s1, ↓n_s1, Int.add_zero, t_lt, f_lt, t_le, f_le, t_eq, f_eq, true_and, and_true, false_and, and_false, and_self, ↓reduceIte, z_bool_of, or_true, true_or, or_false, false_or, Int.neg_neg, not_true_eq_false, not_false_eq_true, lg_lt, lg_le, lg_gt, lg_ge, lg_eq, j_lit, j_add, j_sub, j_mul, j_neg, j_eq, i64_id, ij, ji, z_rt, Nat.reduceEqDiff, Nat.reduceAdd, Int.reduceAdd, Int.reduceSub, Int.reduceMul, Int.reduceNeg, Int.reduceLT, Int.reduceLE, Int.reduceEq]
  have k4 := fun {cm cp : Nat} {L : zL} {st : List Value} => k14 (FrSk.rf (sk := 57) (S := S)) 4 (by omega) (cm := cm) (cp := cp) (L := L) (st := st)
  cases hx : cl.2.2.2.2 with
  | none =>
    right
    rw [hx] at c5
    have f4 : gI S 55 (5 * (j : Int) + 4) = -1 := c5
    obtain ⟨T', u1, u2⟩ := sums S (-1) FrSk.rf
    refine ⟨fun e h => (by cases h), T', -1, ?_, u2⟩
    rw [ent, ← u1]
    simp (disch := first | omega | assumption | exact b01_rng _ | exact st_5 | exact st_12 | exact st_19 | (simp only [isSt_sI, isSt_sJ, isSt_sF, isSt_sG, isSt_sA]; assumption)) only [↓B145_0, ↓B145_6, ↓o_53, k4, f4, i_lit, i_add, i_sub, i_mul, i_neg, i_lt, i_le, i_eq, i32_gI, i64_gJ, i32_id, i32_to, i64_to, sI_i32, sJ_i64, b01_t, b01_f, i32_b01, b01_0, ↓a_s0, ↓n_s0, ↓a_s1, ↓n_s1, Int.add_zero, t_lt, f_lt, t_le, f_le, t_eq, f_eq, true_and, and_true, false_and, and_false, and_self, ↓reduceIte, z_bool_of, or_true, true_or, or_false, false_or, Int.neg_neg, not_true_eq_false, not_false_eq_true, lg_lt, lg_le, lg_gt, lg_ge, lg_eq, j_lit, j_add, j_sub, j_mul, j_neg, j_eq, i64_id, ij, ji, z_rt, Nat.reduceEqDiff, Nat.reduceAdd, Int.reduceAdd, Int.reduceSub, Int.reduceMul, Int.reduceNeg, Int.reduceLT, Int.reduceLE, Int.reduceEq]
  | some e =>
    rw [hx] at c5
    have f4 : 0 ≤ gI S 55 (5 * (j : Int) + 4) := c5.1
    have n4 : ¬ gI S 55 (5 * (j : Int) + 4) = -1 := by omega
    obtain ⟨T, u1, u2⟩ := run S (some e) _ FrSk.rf c5
    have ev1 := fun {cm cp : Nat} {L : zL} {st : List Value} => evI (X := X) (d := d) (by omega) u1 (cm := cm) (cp := cp) (L := L) (st := st)
    have he := o4 e hx w hW
    by_cases q : e w = some 1
    · right
      have q' : eV (some e) w = 1 := eV_v q
      rw [q'] at ev1
      obtain ⟨T', v1, v2⟩ := sums T (gI S 55 (5 * (j : Int) + 4)) u2
      refine ⟨fun e' h => (by cases h; exact q), T', gI S 55 (5 * (j : Int) + 4), ?_, v2⟩
      rw [ent, ← v1]
      simp (disch := first | omega | assumption | exact b01_rng _ | exact st_5 | exact st_12 | exact st_19 | (simp only [isSt_sI, isSt_sJ, isSt_sF, isSt_sG, isSt_sA]; assumption)) only [↓B145_0, ↓B145_6, ↓B145_12, ↓B145_28, ↓a_54, ↓a_68, ↓n_54, ↓n_68, ↓o_4, ↓o_53, ↓o_56, ↓o_59, ↓r_4_10, ↓r_4_12, ↓r_53_0, ↓r_53_4, ↓s_54, ↓s_68, ↓o_53, ↓o_56, ↓r_53_0, k4, ev1, n4, i_lit, i_add, i_sub, i_mul, i_neg, i_lt, i_le, i_eq, i32_gI, i64_gJ, i32_id, i32_to, i64_to, sI_i32, sJ_i64, b01_t, b01_f, i32_b01, b01_0, ↓a_s0, ↓n_s0, ↓a_s1, ↓n_s1, Int.add_zero, t_lt, f_lt, t_le, f_le, t_eq, f_eq, true_and, and_true, false_and, and_false, and_self, ↓reduceIte, z_bool_of, or_true, true_or, or_false, false_or, Int.neg_neg, not_true_eq_false, not_false_eq_true, lg_lt, lg_le, lg_gt, lg_ge, lg_eq, j_lit, j_add, j_sub, j_mul, j_neg, j_eq, i64_id, ij, ji, z_rt, Nat.reduceEqDiff, Nat.reduceAdd, Int.reduceAdd, Int.reduceSub, Int.reduceMul, Int.reduceNeg, Int.reduceLT, Int.reduceLE, Int.reduceEq]
    · left
      have q' : eV (some e) w = -2000000000 ∨ eV (some e) w = 0 := by
        cases hv : e w with
        | none => exact Or.inl (eV_n hv)
        | some v =>
          right
          rcases he v hv with rfl | rfl
          · exact eV_v hv
          · exact absurd hv q
      refine ⟨⟨e, rfl, q⟩, T, ?_, u2⟩
      rw [ent]
      rcases q' with q' | q'
      · rw [q'] at ev1
        simp (disch := first | omega | assumption | exact b01_rng _ | exact st_5 | exact st_12 | exact st_19 | (simp only [isSt_sI, isSt_sJ, isSt_sF, isSt_sG, isSt_sA]; assumption)) only [↓B145_0, ↓B145_6, ↓B145_12, ↓B145_28, ↓B145_32, ↓a_54, ↓a_68, ↓n_54, ↓n_68, ↓o_4, ↓o_53, ↓o_56, ↓o_59, ↓r_4_10, ↓r_4_12, ↓r_53_0, ↓r_53_4, ↓s_54, ↓s_68, ↓o_53, ↓o_56, ↓r_53_0, k4, ev1, n4, i_lit, i_add, i_sub, i_mul, i_neg, i_lt, i_le, i_eq, i32_gI, i64_gJ, i32_id, i32_to, i64_to, sI_i32, sJ_i64, b01_t, b01_f, i32_b01, b01_0, ↓a_s0, ↓n_s0, ↓a_s1, ↓n_s1, Int.add_zero, t_lt, f_lt, t_le, f_le, t_eq, f_eq, true_and, and_true, false_and, and_false, and_self, ↓reduceIte, z_bool_of, or_true, true_or, or_false, false_or, Int.neg_neg, not_true_eq_false, not_false_eq_true, lg_lt, lg_le, lg_gt, lg_ge, lg_eq, j_lit, j_add, j_sub, j_mul, j_neg, j_eq, i64_id, ij, ji, z_rt, Nat.reduceEqDiff, Nat.reduceAdd, Int.reduceAdd, Int.reduceSub, Int.reduceMul, Int.reduceNeg, Int.reduceLT, Int.reduceLE, Int.reduceEq]
      · rw [q'] at ev1
        simp (disch := first | omega | assumption | exact b01_rng _ | exact st_5 | exact st_12 | exact st_19 | (simp only [isSt_sI, isSt_sJ, isSt_sF, isSt_sG, isSt_sA]; assumption)) only [↓B145_0, ↓B145_6, ↓B145_12, ↓B145_28, ↓B145_32, ↓a_54, ↓a_68, ↓n_54, ↓n_68, ↓o_4, ↓o_53, ↓o_56, ↓o_59, ↓r_4_10, ↓r_4_12, ↓r_53_0, ↓r_53_4, ↓s_54, ↓s_68, ↓o_53, ↓o_56, ↓r_53_0, k4, ev1, n4, i_lit, i_add, i_sub, i_mul, i_neg, i_lt, i_le, i_eq, i32_gI, i64_gJ, i32_id, i32_to, i64_to, sI_i32, sJ_i64, b01_t, b01_f, i32_b01, b01_0, ↓a_s0, ↓n_s0, ↓a_s1, ↓n_s1, Int.add_zero, t_lt, f_lt, t_le, f_le, t_eq, f_eq, true_and, and_true, false_and, and_false, and_self, ↓reduceIte, z_bool_of, or_true, true_or, or_false, false_or, Int.neg_neg, not_true_eq_false, not_false_eq_true, lg_lt, lg_le, lg_gt, lg_ge, lg_eq, j_lit, j_add, j_sub, j_mul, j_neg, j_eq, i64_id, ij, ji, z_rt, Nat.reduceEqDiff, Nat.reduceAdd, Int.reduceAdd, Int.reduceSub, Int.reduceMul, Int.reduceNeg, Int.reduceLT, Int.reduceLE, Int.reduceEq]
end
