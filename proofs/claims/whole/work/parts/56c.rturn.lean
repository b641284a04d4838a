/-! ORDERS: one turn of the reference, ahead of the act -/
section
variable {X : zX} {d : Nat}
theorem l240k (hd : 10 < d) {cls : List Cl} : ∀ (c k : Nat) (S : zS) (r : Int32), ((k + c : Nat) : Int) = gI S 74 1 → RefQ S cls → MetsR (gI S 74) → FitR (TkE (LnH 0 cls (gI S 74)) (gI S 74)) k r → ∃ (S' : zS) (r' : Int32), z_ev X d (240, 4, [some (.ref 72), some (.int r), some (.int (Int32.ofInt (k : Int)))], [], mk S) = some (some (.int r'), mk S') ∧ FrQm S S' ∧ (∀ i, gJ S' 91 i = gJ S 91 i) ∧ FitR (TkE (LnH 0 cls (gI S 74)) (gI S 74)) (gI S 74 1).toNat r' := by
  intro c
  induction c with
  | zero =>
    intro k S r hc hQ hM hF
    have b := hQ.2.1
    have e : (gI S 74 1).toNat = k := by omega
    refine ⟨S, r, ?_, FrQm.rf, fun _ => rfl, by rw [e]; exact hF⟩
    rw [B240_4]
    simp (disch := first | omega | assumption | exact b01_rng _ | exact st_5 | exact st_12 | exact st_19 | (simp only [isSt_sI, isSt_sJ, isSt_sF, isSt_sG, isSt_sA]; assumption)) only [↓B240_40, ↓a_74, ↓n_74, ↓o_72, ↓r_72_3, ↓s_74, i_lit, i_add, i_sub, i_mul, i_neg, i_lt, i_le, i_eq, i32_gI, i64_gJ, i32_id, i32_to, i64_to, sI_i32, sJ_i64, b01_t, b01_f, i32_b01, b01_0, ↓a_s0, ↓n_s0, ↓a_s1, ↓n_s1, Int.add_zero, t_lt, f_lt, t_le, f_le, t_eq, f_eq, true_and, and_true, false_and, and_false, and_self, ↓reduceIte, z_bool_of, or_true, true_or, or_false, false_or, Int.neg_neg, not_true_eq_false, not_false_eq_true, lg_lt, lg_le, lg_gt, lg_ge, lg_eq, j_lit, j_add, j_sub, j_mul, j_neg, j_eq, i64_id, ij, ji, z_rt, Nat.reduceEqDiff, Nat.reduceAdd, Int.reduceAdd, Int.reduceSub, Int.reduceMul, Int.reduceNeg, Int.reduceLT, Int.reduceLE, Int.reduceEq]
  | succ c ih =>
    intro k S r hc hQ hM hF
    have b := hQ.2.1
    obtain ⟨x, hx⟩ := hM (k : Int) (by omega) (by omega)
    obtain ⟨S1, w1, w2, w9, w3, w4, w5⟩ := x228k (X := X) (d := 10) (cls := cls) (how := 0) (by omega) (S := S) (by omega) hQ (m := (k : Int)) (by omega) hx
    obtain ⟨p1, p2⟩ := LfR.beg w3 w5 hQ.1.1.1
    have ht := TkE.of (E := LnH 0 cls (gI S 74)) hx
    have hlt : gI S1 104 0 < 100000000 ↔ Gw (LnH 0 cls (gI S 74)) x.1 0 (LnH 0 cls (gI S 74)).1 := by rw [p2.lt, Rd_Gw]
    have ev := fun {cm cp : Nat} {L : zL} {st : List Value} => evI (X := X) (d := d) hd w1 (cm := cm) (cp := cp) (L := L) (st := st)
    have g1 := w2.g
    have next : ∀ r1 : Int32, FitR (TkE (LnH 0 cls (gI S 74)) (gI S 74)) (k + 1) r1 → z_ev X d (240, 4, [some (.ref 72), some (.int r), some (.int (Int32.ofInt (k : Int)))], [], mk S) = z_ev X d (240, 4, [some (.ref 72), some (.int r1), some (.int (Int32.ofInt ((k : Int) + 1)))], [], mk S1) → ∃ (S' : zS) (r' : Int32), z_ev X d (240, 4, [some (.ref 72), some (.int r), some (.int (Int32.ofInt (k : Int)))], [], mk S) = some (some (.int r'), mk S') ∧ FrQm S S' ∧ (∀ i, gJ S' 91 i = gJ S 91 i) ∧ FitR (TkE (LnH 0 cls (gI S 74)) (gI S 74)) (gI S 74 1).toNat r' := fun r1 h1 h2 => by
      obtain ⟨S', r', u1, u2, u4, u3⟩ := ih (k + 1) S1 r1 (by rw [g1]; omega) (hQ.fr w2) (by rw [g1]; exact hM) (by rw [g1]; exact h1)
      rw [g1] at u3
      refine ⟨S', r', ?_, w2.tr u2, fun i => (u4 i).trans (w9.2 i), u3⟩
      rw [h2, ← u1, show ((k + 1 : Nat) : Int) = (k : Int) + 1 by omega]
    by_cases q : gI S1 104 0 < 100000000
    · rw [if_pos q] at ev
      refine next (r ||| (Int32.ofInt 1 <<< (Int32.ofInt (k : Int) &&& Int32.ofInt 31))) ⟨r, hF, Or.inl ⟨ht.mpr (hlt.mp q), rfl⟩⟩ ?_
      rw [B240_4]
      simp (disch := first | omega | assumption | exact b01_rng _ | exact st_5 | exact st_12 | exact st_19 | (simp only [isSt_sI, isSt_sJ, isSt_sF, isSt_sG, isSt_sA]; assumption)) only [↓B240_14, ↓B240_21, ↓B240_25, ↓B240_32, ↓a_74, ↓n_74, ↓o_72, ↓r_72_3, ↓s_74, ↓o_72, ev, i_lit, i_add, i_sub, i_mul, i_neg, i_lt, i_le, i_eq, i32_gI, i64_gJ, i32_id, i32_to, i64_to, sI_i32, sJ_i64, b01_t, b01_f, i32_b01, b01_0, ↓a_s0, ↓n_s0, ↓a_s1, ↓n_s1, Int.add_zero, t_lt, f_lt, t_le, f_le, t_eq, f_eq, true_and, and_true, false_and, and_false, and_self, ↓reduceIte, z_bool_of, or_true, true_or, or_false, false_or, Int.neg_neg, not_true_eq_false, not_false_eq_true, lg_lt, lg_le, lg_gt, lg_ge, lg_eq, j_lit, j_add, j_sub, j_mul, j_neg, j_eq, i64_id, ij, ji, z_rt, Nat.reduceEqDiff, Nat.reduceAdd, Int.reduceAdd, Int.reduceSub, Int.reduceMul, Int.reduceNeg, Int.reduceLT, Int.reduceLE, Int.reduceEq]
    · rw [if_neg q] at ev
      refine next r ⟨r, hF, Or.inr ⟨fun z => q (hlt.mpr (ht.mp z)), rfl⟩⟩ ?_
      rw [B240_4]
      simp (disch := first | omega | assumption | exact b01_rng _ | exact st_5 | exact st_12 | exact st_19 | (simp only [isSt_sI, isSt_sJ, isSt_sF, isSt_sG, isSt_sA]; assumption)) only [↓B240_14, ↓B240_21, ↓B240_31, ↓B240_32, ↓a_74, ↓n_74, ↓o_72, ↓r_72_3, ↓s_74, ↓o_72, ev, i_lit, i_add, i_sub, i_mul, i_neg, i_lt, i_le, i_eq, i32_gI, i64_gJ, i32_id, i32_to, i64_to, sI_i32, sJ_i64, b01_t, b01_f, i32_b01, b01_0, ↓a_s0, ↓n_s0, ↓a_s1, ↓n_s1, Int.add_zero, t_lt, f_lt, t_le, f_le, t_eq, f_eq, true_and, and_true, false_and, and_false, and_self, ↓reduceIte, z_bool_of, or_true, true_or, or_false, false_or, Int.neg_neg, not_true_eq_false, not_false_eq_true, lg_lt, lg_le, lg_gt, lg_ge, lg_eq, j_lit, j_add, j_sub, j_mul, j_neg, j_eq, i64_id, ij, ji, z_rt, Nat.reduceEqDiff, Nat.reduceAdd, Int.reduceAdd, Int.reduceSub, Int.reduceMul, Int.reduceNeg, Int.reduceLT, Int.reduceLE, Int.reduceEq, or_0]
theorem x240k (hd : 10 < d) {cls : List Cl} {S : zS} (hQ : RefQ S cls) (hM : MetsR (gI S 74)) : ∃ (S' : zS) (k : Fin 64), z_ev X d (z_entry 240 [.ref 72] (mk S)) = some (some (.int (Int32.ofInt (k.val : Int))), mk S') ∧ FrQm S S' ∧ (∀ i, gJ S' 91 i = gJ S 91 i) ∧ FitR (TkE (LnH 0 cls (gI S 74)) (gI S 74)) (gI S 74 1).toNat (Int32.ofInt (k.val : Int)) := by
  have b := hQ.2.1
  obtain ⟨S', r', w1, w2, w4, w3⟩ := l240k (X := X) (d := d) hd (cls := cls) (gI S 74 1).toNat 0 S (Int32.ofInt 0) (by omega) hQ hM rfl
  obtain ⟨v, v1, v2⟩ := w3.sm (by omega)
  have : 2 ^ (gI S 74 1).toNat ≤ 2 ^ 6 := Nat.pow_le_pow_right (by decide) (by omega)
  have h64 : v < 64 := by omega
  subst v2
  refine ⟨S', ⟨v, h64⟩, ?_, w2, w4, w3⟩
  rw [← w1]
  show z_ev X d (240, 0, [some (.ref 72), none, none], [], mk S) = _
  simp (disch := first | omega | assumption | exact b01_rng _ | exact st_5 | exact st_12 | exact st_19 | (simp only [isSt_sI, isSt_sJ, isSt_sF, isSt_sG, isSt_sA]; assumption)) only [↓B240_0, i_lit, i_add, i_sub, i_mul, i_neg, i_lt, i_le, i_eq, i32_gI, i64_gJ, i32_id, i32_to, i64_to, sI_i32, sJ_i64, b01_t, b01_f, i32_b01, b01_0, ↓a_s0, ↓n_s0, ↓a_s1, ↓n_s1, Int.add_zero, t_lt, f_lt, t_le, f_le, t_eq, f_eq, true_and, and_true, false_and, and_false, and_self, ↓reduceIte, z_bool_of, or_true, true_or, or_false, false_or, Int.neg_neg, not_true_eq_false, not_false_eq_true, lg_lt, lg_le, lg_gt, lg_ge, lg_eq, j_lit, j_add, j_sub, j_mul, j_neg, j_eq, i64_id, ij, ji, z_rt, Nat.reduceEqDiff, Nat.reduceAdd, Int.reduceAdd, Int.reduceSub, Int.reduceMul, Int.reduceNeg, Int.reduceLT, Int.reduceLE, Int.reduceEq]
  rfl
end
/-- the reference's cells of a run -/
def Gh (T0 T : zS) : Prop := (∀ a i, a = 74 ∨ a = 77 ∨ a = 78 → gI T a i = gI T0 a i) ∧ gI T 72 8 = gI T0 72 8
def ORS (T0 T : zS) (done latest : Int) : Prop := Gh T0 T ∧ gI T 72 65 = done ∧ gI T 72 66 = latest ∧ gI T 72 20 = 0
def FrOm (S S' : zS) : Prop := Dyn S S' ∧ (∀ a i, ¬ (a = 77 ∧ i < 1008) → a ≠ 78 → a ≠ 97 → ¬ (99 ≤ a ∧ a ≤ 109) → ¬ (a = 72 ∧ (i = 0 ∨ i = 8 ∨ i = 20 ∨ i = 34 ∨ i = 38 ∨ i = 40 ∨ i = 51 ∨ i = 65 ∨ i = 66 ∨ i = 68)) → ¬ (a = 74 ∧ 5 ≤ i ∧ i < 68) → gI S' a i = gI S a i) ∧ (∀ a i, ¬ (90 ≤ a ∧ a ≤ 92) → ¬ (a = 72 ∧ (i = 39 ∨ i = 41)) → gJ S' a i = gJ S a i) ∧ (∀ a i, gQ S' a i = gQ S a i)
theorem FrOm.rf {S : zS} : FrOm S S := ⟨Dyn.rf, fun _ _ _ _ _ _ _ _ => rfl, fun _ _ _ _ => rfl, fun _ _ => rfl⟩
theorem FrOm.tr {A B C : zS} (h1 : FrOm A B) (h2 : FrOm B C) : FrOm A C := ⟨h1.1.tr h2.1, fun a i q r s t u v => (h2.2.1 a i q r s t u v).trans (h1.2.1 a i q r s t u v), fun a i q r => (h2.2.2.1 a i q r).trans (h1.2.2.1 a i q r), fun a i => (h2.2.2.2 a i).trans (h1.2.2.2 a i)⟩
theorem FrQm.om {S S' : zS} (h : FrQm S S') : FrOm S S' := ⟨h.1, fun a i _ _ q r s _ => h.2.1 a i q r (by omega), h.2.2.1, h.2.2.2⟩
/-- what a sum leaves -/
def FrS1 (S S' : zS) : Prop := Dyn S S' ∧ (∀ a i, ¬ (a = 72 ∧ (i = 20 ∨ i = 38 ∨ i = 40 ∨ i = 68)) → gI S' a i = gI S a i) ∧ (∀ a i, ¬ (91 ≤ a ∧ a ≤ 92) → ¬ (a = 72 ∧ i = 39) → gJ S' a i = gJ S a i) ∧ (∀ a i, gQ S' a i = gQ S a i)
theorem FrS1.om {S S' : zS} (h : FrS1 S S') : FrOm S S' := ⟨h.1, fun a i _ _ _ _ s _ => h.2.1 a i (by omega), fun a i q r => h.2.2.1 a i (by omega) (by omega), h.2.2.2⟩
def FrS0 (S S' : zS) : Prop := Dyn S S' ∧ (∀ a i, ¬ (a = 72 ∧ (i = 20 ∨ i = 38 ∨ i = 68)) → gI S' a i = gI S a i) ∧ (∀ a i, a ≠ 92 → ¬ (a = 72 ∧ i = 39) → gJ S' a i = gJ S a i) ∧ (∀ a i, gQ S' a i = gQ S a i)
theorem FrS0.rf {S : zS} : FrS0 S S := ⟨Dyn.rf, fun _ _ _ => rfl, fun _ _ _ _ => rfl, fun _ _ => rfl⟩
theorem FrS0.tr {A B C : zS} (h1 : FrS0 A B) (h2 : FrS0 B C) : FrS0 A C := ⟨h1.1.tr h2.1, fun a i q => (h2.2.1 a i q).trans (h1.2.1 a i q), fun a i q r => (h2.2.2.1 a i q r).trans (h1.2.2.1 a i q r), fun a i => (h2.2.2.2 a i).trans (h1.2.2.2 a i)⟩
theorem FrS0.I {S : zS} {i x : Int} (h : i = 20 ∨ i = 38 ∨ i = 68) : FrS0 S (sI S 72 i x) := ⟨Dyn.sI (by decide) Dyn.rf, fun b j q => by rw [gI_sI, if_neg (by omega)], fun _ _ _ _ => rfl, fun _ _ => rfl⟩
theorem FrS0.om {S S' : zS} (h : FrS0 S S') : FrOm S S' := ⟨h.1, fun a i _ _ _ _ s _ => h.2.1 a i (by omega), fun a i q r => h.2.2.1 a i (by omega) (by omega), h.2.2.2⟩
theorem FrRk.s0 {S S' : zS} (h : FrRk S S') : FrS0 S S' := ⟨h.1, fun a i q => h.2.1 a i (by omega), h.2.2.1, h.2.2.2⟩
theorem FrS0.rw {S S' : zS} {w : Int → Int} (h : FrS0 S S') (hw : RWd 1 S w) : RWd 1 S' w := by
  have hw' := hw.2 rfl
  refine ⟨fun q => by omega, fun _ => ⟨fun i q1 q2 => ?_, fun p q1 q2 => ?_, fun k q1 q2 => ?_⟩⟩
  · rw [h.2.2.1 91 _ (by omega) (by omega)]; exact hw'.1 i q1 q2
  · rw [h.2.1 74 _ (by omega), h.2.1 74 _ (by omega)]; exact hw'.2.1 p q1 q2
  · rw [h.2.1 74 _ (by omega), h.2.1 72 40 (by omega)]; exact hw'.2.2 k q1 q2
theorem FrS0.im {S S' : zS} (h : FrS0 S S') : IM 1 S' = IM 1 S := by
  funext k; unfold IM; rw [h.2.1 83 k (by omega), h.2.1 84 k (by omega)]
theorem FrS0.rs {T0 S S' : zS} {done latest : Int} (h : FrS0 S S') (h20 : gI S' 72 20 = 0) (hS : ORS T0 S done latest) : ORS T0 S' done latest := by
  obtain ⟨⟨a1, a2⟩, a3, a4, a5⟩ := hS
  exact ⟨⟨fun a i q => by rw [h.2.1 a i (by omega)]; exact a1 a i q, by rw [h.2.1 72 8 (by omega)]; exact a2⟩, by rw [h.2.1 72 65 (by omega)]; exact a3, by rw [h.2.1 72 66 (by omega)]; exact a4, h20⟩
section
variable {X : zX} {d : Nat}
/-- a sum's outcome -/
def SmR (x : Option Ev) (w : Int → Int) (T' : zS) (r : Int) : Prop := (x = none ∧ r = -1 ∧ gI T' 72 68 = 0) ∨ ∃ e, x = some e ∧ ((e w = none ∧ gI T' 72 68 = 1) ∨ (e w = some r ∧ gI T' 72 68 = 0))
theorem x261 (hd : 2 < d) {T : zS} {x : Option Ev} {at_ fr to : Int} {w : Int → Int} (h68 : gI T 72 68 = 0) (h20 : gI T 72 20 = 0) (hat : 0 ≤ at_ ∧ at_ ≤ 94) (hf : gI T 112 at_ = fr) (ht : gI T 112 (at_ + 1) = to) (hb : 0 ≤ fr ∧ to ≤ 400) (hx : RSg (IM 1 T) x fr to) (hW : WB w) (hw : RWd 1 T w) (h74 : 0 ≤ gI T 74 0 ∧ gI T 74 0 ≤ 20 ∧ 0 ≤ gI T 74 1 ∧ gI T 74 1 ≤ 6) : ∃ (T' : zS) (r : Int), z_ev X d (z_entry 261 [.ref 72, .int (Int32.ofInt at_)] (mk T)) = some (vI r, mk T') ∧ FrS0 T T' ∧ gI T' 72 20 = 0 ∧ SmR x w T' r := by
  have rf := gI_rng T 112 at_
  have rt := gI_rng T 112 (at_ + 1)
  rw [hf] at rf
  rw [ht] at rt
  have ent : z_ev X d (z_entry 261 [.ref 72, .int (Int32.ofInt at_)] (mk T)) = z_ev X d (261, 0, [some (.ref 72), some (.int (Int32.ofInt at_))], [], mk T) := rfl
  cases x with
  | none =>
    have e : fr = to := hx
    refine ⟨T, -1, ?_, FrS0.rf, h20, Or.inl ⟨rfl, rfl, h68⟩⟩
    rw [ent]
    simp (disch := first | omega | assumption | exact b01_rng _ | exact st_5 | exact st_12 | exact st_19 | (simp only [isSt_sI, isSt_sJ, isSt_sF, isSt_sG, isSt_sA]; assumption)) only [↓B261_0, ↓B261_7, ↓B261_24, ↓a_112, ↓n_112, ↓o_72, ↓r_72_38, ↓r_72_39, ↓r_72_64, ↓r_72_68, ↓s_112, ↓w_72_20, ↓w_72_68, h68, hf, ht, e, i_lit, i_add, i_sub, i_mul, i_neg, i_lt, i_le, i_eq, i32_gI, i64_gJ, i32_id, i32_to, i64_to, sI_i32, sJ_i64, b01_t, b01_f, i32_b01, b01_0, ↓a_s0, ↓n_s0, ↓a_s1, ↓n_s1, Int.add_zero, t_lt, f_lt, t_le, f_le, t_eq, f_eq, true_and, and_true, false_and, and_false, and_self, ↓reduceIte, z_bool_of, or_true, true_or, or_false, false_or, Int.neg_neg, not_true_eq_false, not_false_eq_true, lg_lt, lg_le, lg_gt, lg_ge, lg_eq, j_lit, j_add, j_sub, j_mul, j_neg, j_eq, i64_id, ij, ji, z_rt, Nat.reduceEqDiff, Nat.reduceAdd, Int.reduceAdd, Int.reduceSub, Int.reduceMul, Int.reduceNeg, Int.reduceLT, Int.reduceLE, Int.reduceEq]
  | some e =>
    obtain ⟨m, hm, hs⟩ := hx
    have hlt := hs.1
    have f1 : FrS0 T (sI T 72 20 1) := FrS0.I (by omega)
    have hs' : Seg (fun k => dM 1 (rop 1 (sI T 72 20 1) k) (rar 1 (sI T 72 20 1) k)) fr to m e := by
      have : (fun k => dM 1 (rop 1 (sI T 72 20 1) k) (rar 1 (sI T 72 20 1) k)) = IM 1 T := by
        funext k; unfold rop rar IM
        rw [if_neg (by omega), if_neg (by omega), gI_sI, if_neg (by omega), gI_sI, if_neg (by omega)]
      rw [this]; exact hs
    obtain ⟨T1, u1, u2, u3⟩ := x204 (X := X) (d := 2) (by omega) (S := sI T 72 20 1) (ord := 1) (fr := fr) (to := to) (by rw [gI_sI, if_pos ⟨rfl, rfl⟩]; rfl) (Or.inr rfl) (fun q => by omega) hb.1 hb.2 hm hs' hW (f1.rw hw) (by rw [gI_sI, if_neg (by omega), gI_sI, if_neg (by omega)]; exact h74)
    have ev1 := fun {cm cp : Nat} {L : zL} {st : List Value} => evV (X := X) (d := d) hd u1 (cm := cm) (cp := cp) (L := L) (st := st)
    have hne : ¬ fr = to := by omega
    have e1 : gI (sI T 72 20 1) 112 at_ = fr := by rw [gI_sI, if_neg (by omega)]; exact hf
    have e2 : gI (sI T 72 20 1) 112 (at_ + 1) = to := by rw [gI_sI, if_neg (by omega)]; exact ht
    have e3 : gI (sI T1 72 20 0) 72 38 = gI T1 72 38 := by rw [gI_sI, if_neg (by omega)]
    have hb01 : gI T1 72 38 = 0 ∨ gI T1 72 38 = 1 := by
      unfold Rz at u3
      cases hv : e w with
      | none => rw [hv] at u3; exact Or.inr u3
      | some v => rw [hv] at u3; exact Or.inl u3.1
    refine ⟨sI (sI T1 72 20 0) 72 68 (gI T1 72 38), gJ T1 72 39, ?_, ((f1.tr u2.s0).tr (FrS0.I (by omega))).tr (FrS0.I (by omega)), ?_, ?_⟩
    · rw [ent]
      rcases hb01 with z | z <;> rw [z] at e3 ⊢ <;> simp (disch := first | omega | assumption | exact b01_rng _ | exact st_5 | exact st_12 | exact st_19 | (simp only [isSt_sI, isSt_sJ, isSt_sF, isSt_sG, isSt_sA]; assumption)) only [↓B261_0, ↓B261_7, ↓B261_26, ↓B261_49, ↓a_112, ↓n_112, ↓o_72, ↓r_72_38, ↓r_72_39, ↓r_72_64, ↓r_72_68, ↓s_112, ↓w_72_20, ↓w_72_68, ↓o_72, h68, hf, ht, hne, e1, e2, ev1, e3, gJ_sI, i_lit, i_add, i_sub, i_mul, i_neg, i_lt, i_le, i_eq, i32_gI, i64_gJ, i32_id, i32_to, i64_to, sI_i32, sJ_i64, b01_t, b01_f, i32_b01, b01_0, ↓a_s0, ↓n_s0, ↓a_s1, ↓n_s1, Int.add_zero, t_lt, f_lt, t_le, f_le, t_eq, f_eq, true_and, and_true, false_and, and_false, and_self, ↓reduceIte, z_bool_of, or_true, true_or, or_false, false_or, Int.neg_neg, not_true_eq_false, not_false_eq_true, lg_lt, lg_le, lg_gt, lg_ge, lg_eq, j_lit, j_add, j_sub, j_mul, j_neg, j_eq, i64_id, ij, ji, z_rt, Nat.reduceEqDiff, Nat.reduceAdd, Int.reduceAdd, Int.reduceSub, Int.reduceMul, Int.reduceNeg, Int.reduceLT, Int.reduceLE, Int.reduceEq]
    · rw [gI_sI, if_neg (by omega), gI_sI, if_pos ⟨rfl, rfl⟩]; rfl
    · refine Or.inr ⟨e, rfl, ?_⟩
      rw [gI_sI, if_pos ⟨rfl, rfl⟩, i32_gI]
      unfold Rz at u3
      cases hv : e w with
      | none => rw [hv] at u3; exact Or.inl ⟨rfl, u3⟩
      | some v => rw [hv] at u3; exact Or.inr ⟨by rw [u3.2], u3.1⟩
theorem y261 {T : zS} {at_ : Int} (h68 : gI T 72 68 = 1) : z_ev X d (z_entry 261 [.ref 72, .int (Int32.ofInt at_)] (mk T)) = some (vI (-1), mk T) := by
  show z_ev X d (261, 0, [some (.ref 72), some (.int (Int32.ofInt at_))], [], mk T) = _
  simp (disch := first | omega | assumption | exact b01_rng _ | exact st_5 | exact st_12 | exact st_19 | (simp only [isSt_sI, isSt_sJ, isSt_sF, isSt_sG, isSt_sA]; assumption)) only [↓B261_0, ↓B261_24, ↓a_112, ↓n_112, ↓o_72, ↓r_72_38, ↓r_72_39, ↓r_72_64, ↓r_72_68, ↓s_112, ↓w_72_20, ↓w_72_68, h68, i_lit, i_add, i_sub, i_mul, i_neg, i_lt, i_le, i_eq, i32_gI, i64_gJ, i32_id, i32_to, i64_to, sI_i32, sJ_i64, b01_t, b01_f, i32_b01, b01_0, ↓a_s0, ↓n_s0, ↓a_s1, ↓n_s1, Int.add_zero, t_lt, f_lt, t_le, f_le, t_eq, f_eq, true_and, and_true, false_and, and_false, and_self, ↓reduceIte, z_bool_of, or_true, true_or, or_false, false_or, Int.neg_neg, not_true_eq_false, not_false_eq_true, lg_lt, lg_le, lg_gt, lg_ge, lg_eq, j_lit, j_add, j_sub, j_mul, j_neg, j_eq, i64_id, ij, ji, z_rt, Nat.reduceEqDiff, Nat.reduceAdd, Int.reduceAdd, Int.reduceSub, Int.reduceMul, Int.reduceNeg, Int.reduceLT, Int.reduceLE, Int.reduceEq]
/-- words, as the reference has them -/
abbrev bF (rr : Int) : Int → Int := fun k => bit1 rr (k % 32)
theorem bF_b (rr k : Int) : 0 ≤ bF rr k ∧ bF rr k ≤ 1 := by
  have hb := bit1_01 rr (s := (k % 32).toNat) (by omega)
  rw [show (((k % 32).toNat : Nat) : Int) = k % 32 by omega] at hb
  show 0 ≤ bit1 rr (k % 32) ∧ bit1 rr (k % 32) ≤ 1
  omega
theorem ow_eq {e : Ev} {asks : Int} (hN : asks = 0 → NS e) (ha : asks = 0 ∨ asks = 1) {g F : Int → Int} {done latest rr : Int} (h1 : asks = 1 → ∀ k, 0 ≤ k → k < 6 → F k = bit1 rr k) : e (ordW g done latest F) = e (ordW g done latest (bF rr)) := by
  rcases ha with q | q
  · refine hN q _ _ (fun i hi => ?_)
    unfold ordW
    rw [if_neg (show ¬ (24 ≤ i ∧ i < 30) by omega), if_neg (show ¬ (24 ≤ i ∧ i < 30) by omega)]
  · have : ordW g done latest F = ordW g done latest (bF rr) := by
      funext i
      by_cases z : 24 ≤ i ∧ i < 30
      · rw [ordW_s z, ordW_s z, h1 q (i - 24) (by omega) (by omega)]
        show _ = if i - 24 < g 1 then bit1 rr ((i - 24) % 32) else -1
        rw [Int.emod_eq_of_lt (show 0 ≤ i - 24 by omega) (show i - 24 < 32 by omega)]
      · unfold ordW
        rw [if_neg z, if_neg z]
    rw [this]
/-- the words are laid -/
theorem pre263 (hd : 40 < d) {T0 T : zS} {done latest c : Int} {cls : List Cl} (hS : ORS T0 T done latest) (hdn : 0 ≤ done ∧ done ≤ 240) (hl : -1 ≤ latest ∧ latest ≤ 6) (hG : GB (gI T0 74)) (h1 : 0 ≤ gI T0 74 1 ∧ gI T0 74 1 ≤ 6) (hM : MetsR (gI T0 74)) (hLw : LawR (gI T0 74) (gI T0 74 4) cls) (hc : r32 c) : ∃ (T' : zS) (rr : Int), z_ev X d (z_entry 263 [.ref 72, .int (Int32.ofInt c)] (mk T)) = z_ev X d (263, 53, [some (.ref 72), some (.int (Int32.ofInt c)), none, none, none], [.int (Int32.ofInt rr), .ref 72], mk T') ∧ FrOm T T' ∧ ORS T0 T' done latest ∧ (0 ≤ rr ∧ rr < 64) ∧ FitR (TkE (LnH 0 cls (gI T0 74)) (gI T0 74)) (gI T0 74 1).toNat (Int32.ofInt rr) ∧ ∀ i, 0 ≤ i → i < 4 → gJ T' 91 (i + 1) = ordW (gI T0 74) done latest (bF rr) i := by
  obtain ⟨⟨a1, a2⟩, a3, a4, a5⟩ := hS
  have g74 : gI T 74 = gI T0 74 := funext fun i => a1 74 i (by omega)
  generalize gI T0 74 = g at *
  have hG0 := hG.1
  have hG5 := hG.2.1
  obtain ⟨T1, hT1⟩ : ∃ T1 : zS, T1 = sJ (sJ (sJ (sJ T 91 1 (g 5)) 91 2 done) 91 3 latest) 91 4 (g 0) := ⟨_, rfl⟩
  have f1 : FrOm T T1 := by
    rw [hT1]
    exact ⟨Dyn.sJ (Dyn.sJ (Dyn.sJ (Dyn.sJ Dyn.rf))), fun _ _ _ _ _ _ _ _ => rfl, fun a i q _ => by rw [gJ_sJ, if_neg (by omega), gJ_sJ, if_neg (by omega), gJ_sJ, if_neg (by omega), gJ_sJ, if_neg (by omega)], fun _ _ => rfl⟩
  have k1 : ∀ a i, gI T1 a i = gI T a i := fun a i => by rw [hT1]; rfl
  have g1 : gI T1 74 = g := (funext fun i => k1 74 i : gI T1 74 = gI T 74).trans g74
  have hQ : RefQ T1 cls := by
    unfold RefQ
    rw [g1, k1 72 20]
    exact ⟨hG, h1, a5, hLw⟩
  obtain ⟨T', kk, u1, u2, u3, u4⟩ := x240k (X := X) (d := 30) (by omega) hQ (by rw [g1]; exact hM)
  rw [g1] at u4
  have ev1 := fun {cm cp : Nat} {L : zL} {st : List Value} => evR (X := X) (d := d) (by omega) u1 (cm := cm) (cp := cp) (L := L) (st := st)
  refine ⟨T', (kk.val : Int), ?_, f1.tr u2.om, ⟨⟨fun a i q => ?_, ?_⟩, ?_, ?_, ?_⟩, by omega, u4, fun i q1 q2 => ?_⟩
  · have e5 : gI T 74 5 = g 5 := by rw [g74]
    have e0 : gI T 74 0 = g 0 := by rw [g74]
    show z_ev X d (263, 0, [some (.ref 72), some (.int (Int32.ofInt c)), none, none, none], [], mk T) = _
    rw [hT1] at ev1
    simp (disch := first | omega | assumption | exact b01_rng _ | exact st_5 | exact st_12 | exact st_19 | (simp only [isSt_sI, isSt_sJ, isSt_sF, isSt_sG, isSt_sA]; assumption)) only [↓B263_0, ↓a_112, ↓a_74, ↓a_91, ↓n_112, ↓n_74, ↓n_91, ↓o_72, ↓r_72_3, ↓r_72_36, ↓r_72_64, ↓r_72_65, ↓r_72_66, ↓r_72_68, ↓s_112, ↓s_74, ↓s_91, ↓w_72_40, ↓w_72_65, ↓w_72_66, ↓w_72_68, ↓o_72, e5, e0, a3, a4, gI_sJ, ev1, i_lit, i_add, i_sub, i_mul, i_neg, i_lt, i_le, i_eq, i32_gI, i64_gJ, i32_id, i32_to, i64_to, sI_i32, sJ_i64, b01_t, b01_f, i32_b01, b01_0, ↓a_s0, ↓n_s0, ↓a_s1, ↓n_s1, Int.add_zero, t_lt, f_lt, t_le, f_le, t_eq, f_eq, true_and, and_true, false_and, and_false, and_self, ↓reduceIte, z_bool_of, or_true, true_or, or_false, false_or, Int.neg_neg, not_true_eq_false, not_false_eq_true, lg_lt, lg_le, lg_gt, lg_ge, lg_eq, j_lit, j_add, j_sub, j_mul, j_neg, j_eq, i64_id, ij, ji, z_rt, Nat.reduceEqDiff, Nat.reduceAdd, Int.reduceAdd, Int.reduceSub, Int.reduceMul, Int.reduceNeg, Int.reduceLT, Int.reduceLE, Int.reduceEq]
  · rw [u2.2.1 a i (by omega) (by omega) (by omega), k1]; exact a1 a i q
  · rw [u2.i (by omega), k1]; exact a2
  · rw [u2.i (by omega), k1]; exact a3
  · rw [u2.i (by omega), k1]; exact a4
  · rw [u2.i (by omega), k1]; exact a5
  · rw [u3, hT1]
    unfold ordW
    rcases (show i = 0 ∨ i = 1 ∨ i = 2 ∨ i = 3 by omega) with rfl | rfl | rfl | rfl
    · rw [gJ_sJ, if_neg (by omega), gJ_sJ, if_neg (by omega), gJ_sJ, if_neg (by omega), gJ_sJ, if_pos ⟨rfl, by omega⟩, if_pos rfl, i64_id (by omega) (by omega)]
    · rw [gJ_sJ, if_neg (by omega), gJ_sJ, if_neg (by omega), gJ_sJ, if_pos ⟨rfl, by omega⟩, if_neg (by omega), if_pos rfl, i64_id (by omega) (by omega)]
    · rw [gJ_sJ, if_neg (by omega), gJ_sJ, if_pos ⟨rfl, by omega⟩, if_neg (by omega), if_neg (by omega), if_pos rfl, i64_id (by omega) (by omega)]
    · rw [gJ_sJ, if_pos ⟨rfl, by omega⟩, if_neg (by omega), if_neg (by omega), if_neg (by omega), if_pos rfl, i64_id (by omega) (by omega)]
end
