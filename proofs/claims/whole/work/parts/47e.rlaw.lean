/-! the reference: isSo, tells, canRead, costsAs -/
def FrTl (S S' : zS) : Prop := Dyn S S' ∧ (∀ a i, ¬ (a = 72 ∧ (i = 38 ∨ i = 34)) → gI S' a i = gI S a i) ∧ (∀ a i, a ≠ 92 → a ≠ 90 → ¬ (a = 72 ∧ (i = 39 ∨ i = 41)) → gJ S' a i = gJ S a i) ∧ (∀ a i, gQ S' a i = gQ S a i)
theorem FrTl.rf {S : zS} : FrTl S S := ⟨Dyn.rf, fun _ _ _ => rfl, fun _ _ _ _ _ => rfl, fun _ _ => rfl⟩
theorem FrTl.tr {A B C : zS} (h1 : FrTl A B) (h2 : FrTl B C) : FrTl A C := ⟨h1.1.tr h2.1, fun a i q => (h2.2.1 a i q).trans (h1.2.1 a i q), fun a i q r s => (h2.2.2.1 a i q r s).trans (h1.2.2.1 a i q r s), fun a i => (h2.2.2.2 a i).trans (h1.2.2.2 a i)⟩
/-- without the law's place and the words -/
def FrSo (S S' : zS) : Prop := Dyn S S' ∧ (∀ a i, ¬ (a = 72 ∧ i = 38) → gI S' a i = gI S a i) ∧ (∀ a i, a ≠ 92 → ¬ (a = 72 ∧ (i = 39 ∨ i = 41)) → gJ S' a i = gJ S a i) ∧ (∀ a i, gQ S' a i = gQ S a i)
theorem FrSo.rf {S : zS} : FrSo S S := ⟨Dyn.rf, fun _ _ _ => rfl, fun _ _ _ _ => rfl, fun _ _ => rfl⟩
theorem FrSo.tr {A B C : zS} (h1 : FrSo A B) (h2 : FrSo B C) : FrSo A C := ⟨h1.1.tr h2.1, fun a i q => (h2.2.1 a i q).trans (h1.2.1 a i q), fun a i q r => (h2.2.2.1 a i q r).trans (h1.2.2.1 a i q r), fun a i => (h2.2.2.2 a i).trans (h1.2.2.2 a i)⟩
theorem FrSo.t {S S' : zS} (h : FrSo S S') : FrTl S S' := ⟨h.1, fun a i q => h.2.1 a i (by omega), fun a i q _ r => h.2.2.1 a i q r, h.2.2.2⟩
theorem FrRk.so {S S' : zS} (h : FrRk S S') : FrSo S S' := ⟨h.1, h.2.1, fun a i q r => h.2.2.1 a i q (by omega), h.2.2.2⟩
theorem FrSo.J {S : zS} {x : Int} : FrSo S (sJ S 72 41 x) := ⟨Dyn.sJ Dyn.rf, fun _ _ _ => rfl, fun a j _ q => by rw [gJ_sJ, if_neg (by omega)], fun _ _ => rfl⟩
/-- clauses that the reference has at b -/
def LwR (g : Int → Int) (b : Int) (cls : List Cl) : Prop := ∃ k : Int, (0 ≤ k ∧ k ≤ 400) ∧ g (b + 1) = cls.length ∧ cls.length ≤ 12 ∧ ∀ (j : Nat) (cl : Cl), cls[j]? = some cl → RCl0 (fun i => dM 0 (g (b + 98 + 2 * i)) (g (b + 98 + 2 * i + 1))) k (fun i => g (b + 2 + i)) j cl
def ClB (cls : List Cl) : Prop := (∀ cl ∈ cls, LwK cl) ∧ ∀ cl ∈ cls, (∀ e, cl.2.2.1 = some e → EB e) ∧ (∀ e, cl.2.2.2.2 = some e → EB e) ∧ ∀ e, cl.2.2.2.2 = some e → E01 e
section
variable {X : zX} {d : Nat} {b : Int} {cls : List Cl} {w : Int → Int}
theorem hlb_v {cl : Cl} {e : Ev} (he : cl.2.2.2.2 = some e) (hE : E01 e) (hW : WB w) : hlb cl w = true ↔ ∃ v, e w = some v ∧ v ≠ 0 := by
  unfold hlb
  rw [he]
  simp only [decide_eq_true_eq]
  constructor
  · intro h; exact ⟨1, h, by omega⟩
  · rintro ⟨v, h1, h2⟩
    rcases hE w hW v h1 with q | q
    · exact absurd q h2
    · rw [h1, q]
theorem x205 (hd : 3 < d) {S : zS} (hb : 0 ≤ b ∧ b ≤ 6992) (h34 : gI S 72 34 = b) (h20 : gI S 72 20 = 0) (hL : LwR (gI S 74) b cls) (hB : ClB cls) (hW : WB w) (hw : RWd 0 S w) (h74 : 0 ≤ gI S 74 0 ∧ gI S 74 0 ≤ 20 ∧ 0 ≤ gI S 74 1 ∧ gI S 74 1 ≤ 6) {j : Nat} {cl : Cl} (hj : cls[j]? = some cl) {at_ : Int} (ha : at_ = b + 2 + 8 * j) : ∃ (S' : zS) (r : Int), z_ev X d (z_entry 205 [.ref 72, .int (Int32.ofInt at_)] (mk S)) = some (vI r, mk S') ∧ FrSo S S' ∧ ((r = 1 ∧ hlb cl w = true ∧ (cl.1 = 262 → eV cl.2.2.1 w ≠ -2000000000 ∧ gJ S' 72 41 = eV cl.2.2.1 w)) ∨ (r = 0 ∧ ¬ (hlb cl w = true ∧ (cl.1 = 262 → eV cl.2.2.1 w ≠ -2000000000)))) := by
  obtain ⟨k, hk, hlen, hl12, hC⟩ := hL
  have hjl : j < cls.length := (List.getElem?_eq_some_iff.mp hj).1
  have hmem : cl ∈ cls := List.mem_of_getElem? hj
  obtain ⟨r0, ⟨r1, r2, r3, r4, r5⟩, rs, -, -, rt⟩ := hC j cl hj
  obtain ⟨b1, b2, b3⟩ := hB.2 cl hmem
  have hK := hB.1 cl hmem
  simp only [] at r0 r1 r2 r3 r4 r5 rs rt
  have i0 : gI S 74 at_ = cl.1 - 262 := by rw [ha, show b + 2 + 8 * (j : Int) = b + 2 + 8 * (j : Int) from rfl]; exact r0
  have e3 : b + 2 + (8 * (j : Int) + 3) = at_ + 3 := by omega
  have e4 : b + 2 + (8 * (j : Int) + 4) = at_ + 4 := by omega
  have e5 : b + 2 + (8 * (j : Int) + 5) = at_ + 5 := by omega
  have e6 : b + 2 + (8 * (j : Int) + 6) = at_ + 6 := by omega
  rw [e3, e4] at rs
  rw [e5, e6] at rt
  rw [e3] at r1 r2
  rw [e4] at r2 r3
  rw [e5] at r3 r4
  rw [e6] at r4 r5
  have hat : 0 ≤ at_ ∧ at_ < 7100 := by omega
  have hseg : ∀ {S1 : zS} {f t : Int} {m : Nat} {e : Ev}, FrSo S S1 → Seg (fun i => dM 0 (gI S 74 (b + 98 + 2 * i)) (gI S 74 (b + 98 + 2 * i + 1))) f t m e → Seg (fun k => dM 0 (rop 0 S1 k) (rar 0 S1 k)) f t m e := fun {S1 f t m e} hF hs => hs.cg (fun i _ _ => by
    unfold rop rar
    rw [if_pos rfl, if_pos rfl, hF.2.1 72 34 (by omega), h34, hF.2.1 74 _ (by omega), hF.2.1 74 _ (by omega)])
  -- the sum
  have sum : ∀ (S1 : zS), FrSo S S1 → ∃ (S' : zS) (r : Int), z_ev X d (205, 59, [some (.ref 72), some (.int (Int32.ofInt at_))], [], mk S1) = some (vI r, mk S') ∧ FrSo S S' ∧ ((r = 1 ∧ (cl.1 = 262 → eV cl.2.2.1 w ≠ -2000000000 ∧ gJ S' 72 41 = eV cl.2.2.1 w)) ∨ (r = 0 ∧ cl.1 = 262 ∧ eV cl.2.2.1 w = -2000000000)) := by
    intro S1 hF
    have f74 : ∀ i, gI S1 74 i = gI S 74 i := fun i => hF.2.1 74 i (by omega)
    rcases hK with ⟨k1, e, he⟩ | k1
    · rw [he] at rs
      obtain ⟨m, hm, hs⟩ := rs
      obtain ⟨S2, x1, x2, x3⟩ := x204 (X := X) (d := 3) (by omega) (S := S1) (ord := 0) (fr := gI S1 74 (at_ + 3)) (to := gI S1 74 (at_ + 4)) (by rw [hF.2.1 72 20 (by omega)]; exact h20) (Or.inl rfl) (fun _ => by rw [hF.2.1 72 34 (by omega), h34]; exact hb) (by rw [f74]; omega) (by rw [f74]; omega) hm (by rw [f74, f74]; exact hseg hF hs) hW (by
        refine ⟨fun q i q1 q2 => ?_, fun q => by omega⟩
        rw [hF.2.2.1 90 _ (by omega) (by omega)]; exact hw.1 q i q1 q2) (by rw [f74, f74]; exact h74)
      have ev := fun {cm cp : Nat} {L : zL} {st : List Value} => evV (X := X) (d := d) hd x1 (cm := cm) (cp := cp) (L := L) (st := st)
      have k0 : gI S1 74 at_ = 0 := by rw [f74, i0]; omega
      cases hv : e w with
      | none =>
        rw [hv] at x3
        have x3' : gI S2 72 38 = 1 := x3
        have hev : eV cl.2.2.1 w = -2000000000 := by rw [he]; unfold eV; simp only [hv]
        refine ⟨sJ S2 72 41 (gJ S2 72 39), 0, ?_, (hF.tr x2.so).tr FrSo.J, Or.inr ⟨rfl, k1, hev⟩⟩
        simp (disch := first | omega | assumption | exact b01_rng _ | exact st_5 | exact st_12 | exact st_19 | (simp only [isSt_sI, isSt_sJ, isSt_sF, isSt_sG, isSt_sA]; assumption)) only [↓B205_59, ↓B205_68, ↓B205_88, ↓B205_103, ↓B205_107, ↓B205_108, ↓a_74, ↓n_74, ↓o_72, ↓r_72_3, ↓r_72_38, ↓r_72_39, ↓s_74, ↓w_72_41, ↓o_72, i_lit, i_add, i_sub, i_mul, i_neg, i_lt, i_le, i_eq, i32_gI, i64_gJ, i32_id, i32_to, i64_to, sI_i32, sJ_i64, b01_t, b01_f, i32_b01, b01_0, ↓a_s0, ↓n_s0, ↓a_s1, ↓n_s1, Int.add_zero, t_lt, f_lt, t_le, f_le, t_eq, f_eq, true_and, and_true, false_and, and_false, and_self, ↓reduceIte, z_bool_of, or_true, true_or, or_false, false_or, Int.neg_neg, not_true_eq_false, not_false_eq_true, lg_lt, lg_le, lg_gt, lg_ge, lg_eq, j_lit, j_add, j_sub, j_mul, j_neg, j_eq, i64_id, ij, ji, z_rt, Nat.reduceEqDiff, Nat.reduceAdd, Int.reduceAdd, Int.reduceSub, Int.reduceMul, Int.reduceNeg, Int.reduceLT, Int.reduceLE, Int.reduceEq, gI_sI, gI_sJ, gI_sF, gI_sG, gI_sQ, gI_sA, gJ_sI, gJ_sJ, gJ_sF, gJ_sG, gJ_sQ, gJ_sA, gQ_sI, gQ_sJ, gQ_sF, gQ_sG, gQ_sQ, gQ_sA, gH_sI, gH_sJ, gH_sF, gH_sG, gH_sQ, gH_sA, gN_sI, gN_sJ, gN_sF, gN_sG, gN_sQ, gN_sA, gW_sI, gW_sJ, gW_sF, gW_sG, gW_sQ, gW_sA, k0, ev, x3']
      | some v =>
        rw [hv] at x3
        obtain ⟨x4, x5⟩ := x3
        have hev : eV cl.2.2.1 w = v := by rw [he]; unfold eV; simp only [hv]
        have hvb := b1 e he w hW v hv
        refine ⟨sJ S2 72 41 (gJ S2 72 39), 1, ?_, (hF.tr x2.so).tr FrSo.J, Or.inl ⟨rfl, fun _ => ⟨by omega, by rw [gJ_sJ, if_pos ⟨rfl, rfl⟩, i64_gJ, x5, hev]⟩⟩⟩
        simp (disch := first | omega | assumption | exact b01_rng _ | exact st_5 | exact st_12 | exact st_19 | (simp only [isSt_sI, isSt_sJ, isSt_sF, isSt_sG, isSt_sA]; assumption)) only [↓B205_59, ↓B205_68, ↓B205_88, ↓B205_103, ↓B205_107, ↓B205_108, ↓a_74, ↓n_74, ↓o_72, ↓r_72_3, ↓r_72_38, ↓r_72_39, ↓s_74, ↓w_72_41, ↓o_72, i_lit, i_add, i_sub, i_mul, i_neg, i_lt, i_le, i_eq, i32_gI, i64_gJ, i32_id, i32_to, i64_to, sI_i32, sJ_i64, b01_t, b01_f, i32_b01, b01_0, ↓a_s0, ↓n_s0, ↓a_s1, ↓n_s1, Int.add_zero, t_lt, f_lt, t_le, f_le, t_eq, f_eq, true_and, and_true, false_and, and_false, and_self, ↓reduceIte, z_bool_of, or_true, true_or, or_false, false_or, Int.neg_neg, not_true_eq_false, not_false_eq_true, lg_lt, lg_le, lg_gt, lg_ge, lg_eq, j_lit, j_add, j_sub, j_mul, j_neg, j_eq, i64_id, ij, ji, z_rt, Nat.reduceEqDiff, Nat.reduceAdd, Int.reduceAdd, Int.reduceSub, Int.reduceMul, Int.reduceNeg, Int.reduceLT, Int.reduceLE, Int.reduceEq, gI_sI, gI_sJ, gI_sF, gI_sG, gI_sQ, gI_sA, gJ_sI, gJ_sJ, gJ_sF, gJ_sG, gJ_sQ, gJ_sA, gQ_sI, gQ_sJ, gQ_sF, gQ_sG, gQ_sQ, gQ_sA, gH_sI, gH_sJ, gH_sF, gH_sG, gH_sQ, gH_sA, gN_sI, gN_sJ, gN_sF, gN_sG, gN_sQ, gN_sA, gW_sI, gW_sJ, gW_sF, gW_sG, gW_sQ, gW_sA, k0, ev, x4]
    · have k0 : ¬ gI S1 74 at_ = 0 := by rw [f74, i0]; omega
      refine ⟨S1, 1, ?_, hF, Or.inl ⟨rfl, fun q => by omega⟩⟩
      simp (disch := first | omega | assumption | exact b01_rng _ | exact st_5 | exact st_12 | exact st_19 | (simp only [isSt_sI, isSt_sJ, isSt_sF, isSt_sG, isSt_sA]; assumption)) only [↓B205_59, ↓B205_109, ↓a_74, ↓n_74, ↓o_72, ↓r_72_3, ↓r_72_38, ↓r_72_39, ↓s_74, ↓w_72_41, i_lit, i_add, i_sub, i_mul, i_neg, i_lt, i_le, i_eq, i32_gI, i64_gJ, i32_id, i32_to, i64_to, sI_i32, sJ_i64, b01_t, b01_f, i32_b01, b01_0, ↓a_s0, ↓n_s0, ↓a_s1, ↓n_s1, Int.add_zero, t_lt, f_lt, t_le, f_le, t_eq, f_eq, true_and, and_true, false_and, and_false, and_self, ↓reduceIte, z_bool_of, or_true, true_or, or_false, false_or, Int.neg_neg, not_true_eq_false, not_false_eq_true, lg_lt, lg_le, lg_gt, lg_ge, lg_eq, j_lit, j_add, j_sub, j_mul, j_neg, j_eq, i64_id, ij, ji, z_rt, Nat.reduceEqDiff, Nat.reduceAdd, Int.reduceAdd, Int.reduceSub, Int.reduceMul, Int.reduceNeg, Int.reduceLT, Int.reduceLE, Int.reduceEq, k0]
  show ∃ (S' : zS) (r : Int), z_ev X d (205, 0, [some (.ref 72), some (.int (Int32.ofInt at_))], [], mk S) = some (vI r, mk S') ∧ FrSo S S' ∧ _
  cases ht : cl.2.2.2.2 with
  | none =>
    rw [ht] at rt
    have rt' : gI S 74 (at_ + 5) = gI S 74 (at_ + 6) := rt
    have hh : hlb cl w = true := by unfold hlb; rw [ht]
    obtain ⟨S', r, s1, s2, s3⟩ := sum S FrSo.rf
    refine ⟨S', r, ?_, s2, ?_⟩
    · rw [← s1]
      simp (disch := first | omega | assumption | exact b01_rng _ | exact st_5 | exact st_12 | exact st_19 | (simp only [isSt_sI, isSt_sJ, isSt_sF, isSt_sG, isSt_sA]; assumption)) only [↓B205_0, ↓a_74, ↓n_74, ↓o_72, ↓r_72_3, ↓r_72_38, ↓r_72_39, ↓s_74, ↓w_72_41, i_lit, i_add, i_sub, i_mul, i_neg, i_lt, i_le, i_eq, i32_gI, i64_gJ, i32_id, i32_to, i64_to, sI_i32, sJ_i64, b01_t, b01_f, i32_b01, b01_0, ↓a_s0, ↓n_s0, ↓a_s1, ↓n_s1, Int.add_zero, t_lt, f_lt, t_le, f_le, t_eq, f_eq, true_and, and_true, false_and, and_false, and_self, ↓reduceIte, z_bool_of, or_true, true_or, or_false, false_or, Int.neg_neg, not_true_eq_false, not_false_eq_true, lg_lt, lg_le, lg_gt, lg_ge, lg_eq, j_lit, j_add, j_sub, j_mul, j_neg, j_eq, i64_id, ij, ji, z_rt, Nat.reduceEqDiff, Nat.reduceAdd, Int.reduceAdd, Int.reduceSub, Int.reduceMul, Int.reduceNeg, Int.reduceLT, Int.reduceLE, Int.reduceEq, rt']
    · rcases s3 with ⟨q1, q2⟩ | ⟨q1, q2, q3⟩
      · exact Or.inl ⟨q1, hh, q2⟩
      · exact Or.inr ⟨q1, fun q => q.2 q2 q3⟩
  | some e =>
    rw [ht] at rt
    obtain ⟨m, hm, hs⟩ := rt
    have hlt := hs.1
    have hE := b3 e ht
    obtain ⟨S2, x1, x2, x3⟩ := x204 (X := X) (d := 3) (by omega) (S := S) (ord := 0) (fr := gI S 74 (at_ + 5)) (to := gI S 74 (at_ + 6)) h20 (Or.inl rfl) (fun _ => by rw [h34]; exact hb) (by omega) (by omega) hm (hseg FrSo.rf hs) hW hw h74
    have ev := fun {cm cp : Nat} {L : zL} {st : List Value} => evV (X := X) (d := d) hd x1 (cm := cm) (cp := cp) (L := L) (st := st)
    have hv2 := hlb_v (w := w) ht hE hW
    cases hv : e w with
    | none =>
      rw [hv] at x3
      have x3' : gI S2 72 38 = 1 := x3
      refine ⟨S2, 0, ?_, x2.so, Or.inr ⟨rfl, fun q => ?_⟩⟩
      · simp (disch := first | omega | assumption | exact b01_rng _ | exact st_5 | exact st_12 | exact st_19 | (simp only [isSt_sI, isSt_sJ, isSt_sF, isSt_sG, isSt_sA]; assumption)) only [↓B205_0, ↓B205_20, ↓B205_41, ↓B205_57, ↓a_74, ↓n_74, ↓o_72, ↓r_72_3, ↓r_72_38, ↓r_72_39, ↓s_74, ↓w_72_41, ↓o_72, i_lit, i_add, i_sub, i_mul, i_neg, i_lt, i_le, i_eq, i32_gI, i64_gJ, i32_id, i32_to, i64_to, sI_i32, sJ_i64, b01_t, b01_f, i32_b01, b01_0, ↓a_s0, ↓n_s0, ↓a_s1, ↓n_s1, Int.add_zero, t_lt, f_lt, t_le, f_le, t_eq, f_eq, true_and, and_true, false_and, and_false, and_self, ↓reduceIte, z_bool_of, or_true, true_or, or_false, false_or, Int.neg_neg, not_true_eq_false, not_false_eq_true, lg_lt, lg_le, lg_gt, lg_ge, lg_eq, j_lit, j_add, j_sub, j_mul, j_neg, j_eq, i64_id, ij, ji, z_rt, Nat.reduceEqDiff, Nat.reduceAdd, Int.reduceAdd, Int.reduceSub, Int.reduceMul, Int.reduceNeg, Int.reduceLT, Int.reduceLE, Int.reduceEq, ev, x3']
      · obtain ⟨v, q1, -⟩ := hv2.mp q.1
        rw [hv] at q1; cases q1
    | some v =>
      rw [hv] at x3
      obtain ⟨x4, x5⟩ := x3
      rcases hE w hW v hv with q | q
      · subst q
        refine ⟨S2, 0, ?_, x2.so, Or.inr ⟨rfl, fun q => ?_⟩⟩
        · simp (disch := first | omega | assumption | exact b01_rng _ | exact st_5 | exact st_12 | exact st_19 | (simp only [isSt_sI, isSt_sJ, isSt_sF, isSt_sG, isSt_sA]; assumption)) only [↓B205_0, ↓B205_20, ↓B205_41, ↓B205_48, ↓B205_57, ↓a_74, ↓n_74, ↓o_72, ↓r_72_3, ↓r_72_38, ↓r_72_39, ↓s_74, ↓w_72_41, ↓o_72, i_lit, i_add, i_sub, i_mul, i_neg, i_lt, i_le, i_eq, i32_gI, i64_gJ, i32_id, i32_to, i64_to, sI_i32, sJ_i64, b01_t, b01_f, i32_b01, b01_0, ↓a_s0, ↓n_s0, ↓a_s1, ↓n_s1, Int.add_zero, t_lt, f_lt, t_le, f_le, t_eq, f_eq, true_and, and_true, false_and, and_false, and_self, ↓reduceIte, z_bool_of, or_true, true_or, or_false, false_or, Int.neg_neg, not_true_eq_false, not_false_eq_true, lg_lt, lg_le, lg_gt, lg_ge, lg_eq, j_lit, j_add, j_sub, j_mul, j_neg, j_eq, i64_id, ij, ji, z_rt, Nat.reduceEqDiff, Nat.reduceAdd, Int.reduceAdd, Int.reduceSub, Int.reduceMul, Int.reduceNeg, Int.reduceLT, Int.reduceLE, Int.reduceEq, ev, x4, x5]
        · obtain ⟨v, q1, q2⟩ := hv2.mp q.1
          rw [hv] at q1; exact q2 (Option.some.inj q1).symm
      · subst q
        obtain ⟨S', r, s1, s2, s3⟩ := sum S2 x2.so
        refine ⟨S', r, ?_, s2, ?_⟩
        · rw [← s1]
          simp (disch := first | omega | assumption | exact b01_rng _ | exact st_5 | exact st_12 | exact st_19 | (simp only [isSt_sI, isSt_sJ, isSt_sF, isSt_sG, isSt_sA]; assumption)) only [↓B205_0, ↓B205_20, ↓B205_41, ↓B205_48, ↓a_74, ↓n_74, ↓o_72, ↓r_72_3, ↓r_72_38, ↓r_72_39, ↓s_74, ↓w_72_41, ↓o_72, i_lit, i_add, i_sub, i_mul, i_neg, i_lt, i_le, i_eq, i32_gI, i64_gJ, i32_id, i32_to, i64_to, sI_i32, sJ_i64, b01_t, b01_f, i32_b01, b01_0, ↓a_s0, ↓n_s0, ↓a_s1, ↓n_s1, Int.add_zero, t_lt, f_lt, t_le, f_le, t_eq, f_eq, true_and, and_true, false_and, and_false, and_self, ↓reduceIte, z_bool_of, or_true, true_or, or_false, false_or, Int.neg_neg, not_true_eq_false, not_false_eq_true, lg_lt, lg_le, lg_gt, lg_ge, lg_eq, j_lit, j_add, j_sub, j_mul, j_neg, j_eq, i64_id, ij, ji, z_rt, Nat.reduceEqDiff, Nat.reduceAdd, Int.reduceAdd, Int.reduceSub, Int.reduceMul, Int.reduceNeg, Int.reduceLT, Int.reduceLE, Int.reduceEq, ev, x4, x5]
        · have hh := hv2.mpr ⟨1, hv, by omega⟩
          rcases s3 with ⟨q1, q2⟩ | ⟨q1, q2, q3⟩
          · exact Or.inl ⟨q1, hh, q2⟩
          · exact Or.inr ⟨q1, fun q => q.2 q2 q3⟩
abbrev L206 (hd s v wo to c : Int) (x9 : Option Value) : zL := [some (.ref 72), some (.int (Int32.ofInt hd)), some (.int (Int32.ofInt s)), some (.int (Int32.ofInt v)), some (.long (Int64.ofInt wo)), none, some (.long (Int64.ofInt to)), none, some (.int (Int32.ofInt c)), x9]
theorem l206 (hd : 4 < d) (hb : 0 ≤ b ∧ b ≤ 6992) (hB : ClB cls) (hW : WB w) {h s v wo : Int} (hh : 0 ≤ h ∧ h ≤ 2) : ∀ (rest : List Cl) (k : Nat) (S : zS) (to : Int) (x9 : Option Value), gI S 72 34 = b → gI S 72 20 = 0 → LwR (gI S 74) b cls → RWd 0 S w → (0 ≤ gI S 74 0 ∧ gI S 74 0 ≤ 20 ∧ 0 ≤ gI S 74 1 ∧ gI S 74 1 ≤ 6) → k + rest.length = cls.length → (∀ j, cls[k + j]? = rest[j]?) → ∃ S' : zS, z_ev X d (206, 145, L206 h s v wo to k x9, [], mk S) = some (some (.long (Int64.ofInt (rest.foldl (tf h w) to))), mk S') ∧ FrSo S S' := by
  intro rest
  induction rest with
  | nil =>
    intro k S to x9 h34 h20 hL hw h74 hk hr
    obtain ⟨k0, -, hlen, hl12, -⟩ := hL
    have hk' : k = cls.length := by simpa using hk
    refine ⟨S, ?_, FrSo.rf⟩
    rw [B206_145]
    simp (disch := first | omega | assumption | exact b01_rng _ | exact st_5 | exact st_12 | exact st_19 | (simp only [isSt_sI, isSt_sJ, isSt_sF, isSt_sG, isSt_sA]; assumption)) only [↓B206_215, ↓a_74, ↓a_90, ↓n_74, ↓n_90, ↓o_72, ↓r_72_3, ↓r_72_34, ↓r_72_35, ↓r_72_41, ↓s_74, ↓s_90, ↓w_72_34, i_lit, i_add, i_sub, i_mul, i_neg, i_lt, i_le, i_eq, i32_gI, i64_gJ, i32_id, i32_to, i64_to, sI_i32, sJ_i64, b01_t, b01_f, i32_b01, b01_0, ↓a_s0, ↓n_s0, ↓a_s1, ↓n_s1, Int.add_zero, t_lt, f_lt, t_le, f_le, t_eq, f_eq, true_and, and_true, false_and, and_false, and_self, ↓reduceIte, z_bool_of, or_true, true_or, or_false, false_or, Int.neg_neg, not_true_eq_false, not_false_eq_true, lg_lt, lg_le, lg_gt, lg_ge, lg_eq, j_lit, j_add, j_sub, j_mul, j_neg, j_eq, i64_id, ij, ji, z_rt, Nat.reduceEqDiff, Nat.reduceAdd, Int.reduceAdd, Int.reduceSub, Int.reduceMul, Int.reduceNeg, Int.reduceLT, Int.reduceLE, Int.reduceEq, h34, hlen, hk']
    rfl
  | cons cl rest ih =>
    intro k S to x9 h34 h20 hL hw h74 hk hr
    have hL0 := hL
    obtain ⟨k0, hk0, hlen, hl12, hC⟩ := hL
    rw [List.length_cons] at hk
    have hj : cls[k]? = some cl := by have := hr 0; rw [Nat.add_zero] at this; exact this
    obtain ⟨r0, -⟩ := hC k cl hj
    obtain ⟨S2, r, x1, x2, x3⟩ := x205 (X := X) (d := 4) (by omega) (S := S) hb h34 h20 hL0 hB hW hw h74 hj (at_ := b + 2 + 8 * k) rfl
    have ev := fun {cm cp : Nat} {L : zL} {st : List Value} => evI (X := X) (d := d) hd x1 (cm := cm) (cp := cp) (L := L) (st := st)
    have hr' : ∀ j, cls[k + 1 + j]? = rest[j]? := fun j => by have := hr (j + 1); rw [show k + 1 + j = k + (j + 1) by omega]; exact this
    have f74 : gI S2 74 = gI S 74 := funext fun i => x2.2.1 74 i (by omega)
    have go : ∀ (to' : Int) (x9' : Option Value), ∃ S' : zS, z_ev X d (206, 145, L206 h s v wo to' ((k : Int) + 1) x9', [], mk S2) = some (some (.long (Int64.ofInt (rest.foldl (tf h w) to'))), mk S') ∧ FrSo S S' := fun to' x9' => by
      obtain ⟨S', y1, y2⟩ := ih (k + 1) S2 to' x9' (by rw [x2.2.1 72 34 (by omega)]; exact h34) (by rw [x2.2.1 72 20 (by omega)]; exact h20) (by rw [f74]; exact hL0) ⟨fun q i q1 q2 => by rw [x2.2.2.1 90 _ (by omega) (by omega)]; exact hw.1 q i q1 q2, fun q => by omega⟩ (by rw [f74]; exact h74) (by omega) hr'
      exact ⟨S', by rw [show ((k : Int) + 1) = ((k + 1 : Nat) : Int) by omega]; exact y1, x2.tr y2⟩
    have go0 : ∀ (to' : Int) (x9' : Option Value), ∃ S' : zS, z_ev X d (206, 145, L206 h s v wo to' ((k : Int) + 1) x9', [], mk S) = some (some (.long (Int64.ofInt (rest.foldl (tf h w) to'))), mk S') ∧ FrSo S S' := fun to' x9' => by
      obtain ⟨S', y1, y2⟩ := ih (k + 1) S to' x9' h34 h20 hL0 hw h74 (by omega) hr'
      exact ⟨S', by rw [show ((k : Int) + 1) = ((k + 1 : Nat) : Int) by omega]; exact y1, y2⟩
    rw [List.foldl_cons]
    have r0' : gI S 74 (b + 2 + 8 * (k : Int)) = cl.1 - 262 := r0
    have hr0 := gI_rng S 74 (b + 2 + 8 * (k : Int))
    by_cases q : cl.1 - 262 = h
    · rcases x3 with ⟨y1, y2, y3⟩ | ⟨y1, y2⟩
      · subst y1
        by_cases h0 : h = 0
        · subst h0
          obtain ⟨z1, z2⟩ := y3 (by omega)
          have et : tf 0 w to cl = eV cl.2.2.1 w := by unfold tf; rw [if_pos ⟨q, y2, fun _ => z1⟩, if_pos rfl]
          rw [et]
          obtain ⟨S', w1, w2⟩ := go (eV cl.2.2.1 w) (vI (b + 2 + 8 * k))
          refine ⟨S', ?_, w2⟩
          rw [← w1, B206_145]
          simp (disch := first | omega | assumption | exact b01_rng _ | exact st_5 | exact st_12 | exact st_19 | (simp only [isSt_sI, isSt_sJ, isSt_sF, isSt_sG, isSt_sA]; assumption)) only [↓B206_161, ↓B206_186, ↓B206_192, ↓B206_195, ↓B206_199, ↓B206_207, ↓B206_209, ↓a_74, ↓a_90, ↓n_74, ↓n_90, ↓o_72, ↓r_72_3, ↓r_72_34, ↓r_72_35, ↓r_72_41, ↓s_74, ↓s_90, ↓w_72_34, ↓o_72, i_lit, i_add, i_sub, i_mul, i_neg, i_lt, i_le, i_eq, i32_gI, i64_gJ, i32_id, i32_to, i64_to, sI_i32, sJ_i64, b01_t, b01_f, i32_b01, b01_0, ↓a_s0, ↓n_s0, ↓a_s1, ↓n_s1, Int.add_zero, t_lt, f_lt, t_le, f_le, t_eq, f_eq, true_and, and_true, false_and, and_false, and_self, ↓reduceIte, z_bool_of, or_true, true_or, or_false, false_or, Int.neg_neg, not_true_eq_false, not_false_eq_true, lg_lt, lg_le, lg_gt, lg_ge, lg_eq, j_lit, j_add, j_sub, j_mul, j_neg, j_eq, i64_id, ij, ji, z_rt, Nat.reduceEqDiff, Nat.reduceAdd, Int.reduceAdd, Int.reduceSub, Int.reduceMul, Int.reduceNeg, Int.reduceLT, Int.reduceLE, Int.reduceEq, h34, hlen, r0', q, ev, z2]
        · have et : tf h w to cl = 1 := by unfold tf; rw [if_pos ⟨q, y2, fun e => absurd e h0⟩, if_neg h0]
          rw [et]
          obtain ⟨S', w1, w2⟩ := go 1 (vI (b + 2 + 8 * k))
          refine ⟨S', ?_, w2⟩
          rw [← w1, B206_145]
          simp (disch := first | omega | assumption | exact b01_rng _ | exact st_5 | exact st_12 | exact st_19 | (simp only [isSt_sI, isSt_sJ, isSt_sF, isSt_sG, isSt_sA]; assumption)) only [↓B206_161, ↓B206_186, ↓B206_192, ↓B206_195, ↓B206_206, ↓B206_207, ↓B206_209, ↓a_74, ↓a_90, ↓n_74, ↓n_90, ↓o_72, ↓r_72_3, ↓r_72_34, ↓r_72_35, ↓r_72_41, ↓s_74, ↓s_90, ↓w_72_34, ↓o_72, i_lit, i_add, i_sub, i_mul, i_neg, i_lt, i_le, i_eq, i32_gI, i64_gJ, i32_id, i32_to, i64_to, sI_i32, sJ_i64, b01_t, b01_f, i32_b01, b01_0, ↓a_s0, ↓n_s0, ↓a_s1, ↓n_s1, Int.add_zero, t_lt, f_lt, t_le, f_le, t_eq, f_eq, true_and, and_true, false_and, and_false, and_self, ↓reduceIte, z_bool_of, or_true, true_or, or_false, false_or, Int.neg_neg, not_true_eq_false, not_false_eq_true, lg_lt, lg_le, lg_gt, lg_ge, lg_eq, j_lit, j_add, j_sub, j_mul, j_neg, j_eq, i64_id, ij, ji, z_rt, Nat.reduceEqDiff, Nat.reduceAdd, Int.reduceAdd, Int.reduceSub, Int.reduceMul, Int.reduceNeg, Int.reduceLT, Int.reduceLE, Int.reduceEq, h34, hlen, r0', q, ev, h0]
      · subst y1
        have et : tf h w to cl = to := by
          unfold tf
          rw [if_neg]
          rintro ⟨-, w2, w3⟩
          exact y2 ⟨w2, fun e => w3 (by omega)⟩
        rw [et]
        obtain ⟨S', w1, w2⟩ := go to (vI (b + 2 + 8 * k))
        refine ⟨S', ?_, w2⟩
        rw [← w1, B206_145]
        simp (disch := first | omega | assumption | exact b01_rng _ | exact st_5 | exact st_12 | exact st_19 | (simp only [isSt_sI, isSt_sJ, isSt_sF, isSt_sG, isSt_sA]; assumption)) only [↓B206_161, ↓B206_186, ↓B206_192, ↓B206_209, ↓a_74, ↓a_90, ↓n_74, ↓n_90, ↓o_72, ↓r_72_3, ↓r_72_34, ↓r_72_35, ↓r_72_41, ↓s_74, ↓s_90, ↓w_72_34, ↓o_72, i_lit, i_add, i_sub, i_mul, i_neg, i_lt, i_le, i_eq, i32_gI, i64_gJ, i32_id, i32_to, i64_to, sI_i32, sJ_i64, b01_t, b01_f, i32_b01, b01_0, ↓a_s0, ↓n_s0, ↓a_s1, ↓n_s1, Int.add_zero, t_lt, f_lt, t_le, f_le, t_eq, f_eq, true_and, and_true, false_and, and_false, and_self, ↓reduceIte, z_bool_of, or_true, true_or, or_false, false_or, Int.neg_neg, not_true_eq_false, not_false_eq_true, lg_lt, lg_le, lg_gt, lg_ge, lg_eq, j_lit, j_add, j_sub, j_mul, j_neg, j_eq, i64_id, ij, ji, z_rt, Nat.reduceEqDiff, Nat.reduceAdd, Int.reduceAdd, Int.reduceSub, Int.reduceMul, Int.reduceNeg, Int.reduceLT, Int.reduceLE, Int.reduceEq, h34, hlen, r0', q, ev]
    · have et : tf h w to cl = to := by unfold tf; rw [if_neg (fun e => q e.1)]
      rw [et]
      obtain ⟨S', w1, w2⟩ := go0 to (vI (b + 2 + 8 * k))
      refine ⟨S', ?_, w2⟩
      rw [← w1, B206_145]
      simp (disch := first | omega | assumption | exact b01_rng _ | exact st_5 | exact st_12 | exact st_19 | (simp only [isSt_sI, isSt_sJ, isSt_sF, isSt_sG, isSt_sA]; assumption)) only [↓B206_161, ↓B206_209, ↓a_74, ↓a_90, ↓n_74, ↓n_90, ↓o_72, ↓r_72_3, ↓r_72_34, ↓r_72_35, ↓r_72_41, ↓s_74, ↓s_90, ↓w_72_34, ↓o_72, i_lit, i_add, i_sub, i_mul, i_neg, i_lt, i_le, i_eq, i32_gI, i64_gJ, i32_id, i32_to, i64_to, sI_i32, sJ_i64, b01_t, b01_f, i32_b01, b01_0, ↓a_s0, ↓n_s0, ↓a_s1, ↓n_s1, Int.add_zero, t_lt, f_lt, t_le, f_le, t_eq, f_eq, true_and, and_true, false_and, and_false, and_self, ↓reduceIte, z_bool_of, or_true, true_or, or_false, false_or, Int.neg_neg, not_true_eq_false, not_false_eq_true, lg_lt, lg_le, lg_gt, lg_ge, lg_eq, j_lit, j_add, j_sub, j_mul, j_neg, j_eq, i64_id, ij, ji, z_rt, Nat.reduceEqDiff, Nat.reduceAdd, Int.reduceAdd, Int.reduceSub, Int.reduceMul, Int.reduceNeg, Int.reduceLT, Int.reduceLE, Int.reduceEq, h34, hlen, r0', q]
end
