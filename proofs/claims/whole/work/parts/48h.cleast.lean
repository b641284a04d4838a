/-! the class: least -/
section
variable {E : Ln} {f : Int → Int → Int} {M : Int} {F : Nat → Lg} {S : zS} {a m : Nat} {he ae : Nat} {p : Int}
theorem Mn.min {D : List Int → Prop} {g : List Int → Int} {v : Int} (h : Mn 1152921504606846976 D g v) : Mn 1152921504606846976 D g (min v 1152921504606846976) := h.cut (fun q => by omega) (fun q => by omega)
/-- prices in the row -/
def PrR (S : zS) (E : Ln) (f : Int → Int → Int) : Prop := ∀ p v : Int, 0 ≤ p → p < E.1 → 0 ≤ v → v ≤ 2 → Pri E f 1152921504606846976 p v (gJ S 64 (3 * p + v))
theorem prA_p (hP : PrR S E f) {v : Int} (hp : 0 ≤ p) (hv : 0 ≤ v ∧ v ≤ 2) : Pri E f 1152921504606846976 p v (prA S E.1 p v) := by
  unfold prA
  by_cases q : p < E.1
  · rw [if_pos q]; exact hP p v hp q hv.1 hv.2
  · rw [if_neg q]; exact ⟨by omega, fun w => absurd w.1 q, fun _ => Int.le_refl _⟩
theorem lfV_mn (hB : PrB E f M 1152921504606846976) (hp : 0 ≤ p ∧ p ≤ E.1) (hP : PrR S E f) (hcut : bt (gI S 58 9) p.toNat = true ↔ E.2.1 p) (hG : Gr (gI S (a + 1)) (gI S (a + 2)) (gI S (a + 3)) m F) (hm : m ≤ 400) {j : Nat} (hj : j < m) (hJ : JB S he ae) (hA : ∀ i : Nat, i < m → p < E.1 → Mn 1152921504606846976 (Rd E (F i) (p + 1)) (ct f (p + 1)) (gJ S ae i)) (hH : ∀ i : Nat, i < j → Mn 1152921504606846976 (Rd E (F i) p) (ct f p) (gJ S he i)) : Mn 1152921504606846976 (Rd E (F j) p) (ct f p) (min (lfV S a E.1 j p he ae) 1152921504606846976) := by
  have c2 := prA_p (p := p) (v := 2) hP hp.1 (by omega)
  have c1 := prA_p (p := p) (v := 1) hP hp.1 (by omega)
  have c0 := prA_p (p := p) (v := 0) hP hp.1 (by omega)
  have bj := hJ.1 (j : Int) (by omega) (by omega)
  have n2 := c2.1
  have n1 := c1.1
  have n0 := c0.1
  have eE : lfE S E.1 j p ae = prA S E.1 p 2 + gJ S ae j ∨ (lfE S E.1 j p ae = 1152921504606846976 ∧ prA S E.1 p 2 = 1152921504606846976) := by
    unfold lfE prA
    by_cases q : p < E.1
    · rw [if_pos q, if_pos q]; exact Or.inl rfl
    · rw [if_neg q, if_neg q]; exact Or.inr ⟨rfl, rfl⟩
  have hAj := hA j hj
  unfold lfV
  rcases hG j hj with ⟨rfl, k0, e⟩ | ⟨x, x0, x3, kx, q, q1, nq, e⟩ | ⟨k5, q, r, q1, r1, nq, nr, e⟩
  · rw [k0, if_neg (by omega), if_neg (by omega), if_neg (by omega), if_neg (by omega), if_neg (by omega)]
    rw [e] at hAj ⊢
    have := Mn.end0 hB hp c2 bj.2.1 hAj
    by_cases w : p = E.1
    · rw [if_pos w] at this ⊢; exact this.min
    · rw [if_neg w] at this ⊢
      exact this.cut (fun u => by omega) (fun u => by omega)
  · rw [e] at hAj ⊢
    have hAq := hA q (by omega)
    have bq := hJ.1 (q : Int) (by omega) (by omega)
    rw [kx, nq]
    rcases (show x = 0 ∨ x = 1 ∨ x = 2 ∨ x = 3 by omega) with rfl | rfl | rfl | rfl
    · rw [if_pos (by omega)]
      have := Mn.stp0 hB hp.1 c2 c1 bj.2.1 bq.2.1 hAj hAq
      exact this.cut (fun u => by omega) (fun u => by omega)
    · rw [if_neg (by omega), if_pos (by omega)]
      have := Mn.stp1 hB hp.1 c2 c0 bj.2.1 bq.2.1 hAj hAq
      exact this.cut (fun u => by omega) (fun u => by omega)
    · rw [if_neg (by omega), if_neg (by omega), if_pos (by omega)]
      have := Mn.stp2 hB hp.1 c2 c1 c0 bj.2.1 bq.2.1 hAj hAq
      exact this.cut (fun u => by omega) (fun u => by omega)
    · rw [if_neg (by omega), if_neg (by omega), if_neg (by omega), if_pos (by omega)]
      by_cases w : bt (gI S 58 9) p.toNat = true
      · rw [if_pos w]
        have := Mn.stp3 hB hp.1 c2 bj.2.1 hAj (v := gJ S he q) (fun _ => hH q q1) (fun u => absurd (hcut.mp w) u)
        exact this.cut (fun u => by omega) (fun u => by omega)
      · rw [if_neg w]
        have := Mn.stp3 hB hp.1 c2 bj.2.1 hAj (v := 1152921504606846976) (fun u => absurd (hcut.mpr u) w) (fun _ => Int.le_refl _)
        exact this.cut (fun u => by omega) (fun u => by omega)
  · rw [k5, nq, nr, if_neg (by omega), if_neg (by omega), if_neg (by omega), if_neg (by omega), if_pos rfl, e]
    exact ((hH q q1).frk (hH r r1)).min
theorem lfV_b (hJ : JB S he ae) (hn : 0 ≤ E.1 ∧ E.1 ≤ 20) (hp : 0 ≤ p ∧ p ≤ E.1) (hG : Gr (gI S (a + 1)) (gI S (a + 2)) (gI S (a + 3)) m F) (hm : m ≤ 400) {j : Nat} (hj : j < m) : 0 ≤ lfV S a E.1 j p he ae := by
  have bj := hJ.1 (j : Int) (by omega) (by omega)
  have pb : ∀ v : Int, 0 ≤ v → v ≤ 2 → 0 ≤ prA S E.1 p v := fun v v1 v2 => by
    unfold prA; split
    · next q => exact (hJ.2 (3 * p + v) (by omega) (by omega)).1
    · omega
  have p0 := pb 0 (by omega) (by omega)
  have p1 := pb 1 (by omega) (by omega)
  have eb : 0 ≤ lfE S E.1 j p ae := by
    unfold lfE; split
    · next q => have := hJ.2 (3 * p + 2) (by omega) (by omega); omega
    · omega
  unfold lfV
  rcases hG j hj with ⟨rfl, k0, e⟩ | ⟨x, x0, x3, kx, q, q1, nq, e⟩ | ⟨k5, q, r, q1, r1, nq, nr, e⟩
  · rw [k0, if_neg (by omega), if_neg (by omega), if_neg (by omega), if_neg (by omega), if_neg (by omega)]
    split
    · omega
    · exact eb
  · have bq := hJ.1 (q : Int) (by omega) (by omega)
    rw [kx, nq]
    split
    · omega
    split
    · omega
    split
    · omega
    split
    · split
      · omega
      · omega
    split
    · omega
    · split
      · omega
      · omega
  · have bq := hJ.1 (q : Int) (by omega) (by omega)
    have br := hJ.1 (r : Int) (by omega) (by omega)
    rw [k5, nq, nr, if_neg (by omega), if_neg (by omega), if_neg (by omega), if_neg (by omega), if_pos rfl]
    omega
end
def FrLs (S S' : zS) : Prop := Dyn S S' ∧ (∀ a i, gI S' a i = gI S a i) ∧ (∀ a i, ¬ (64 ≤ a ∧ a ≤ 67) → gJ S' a i = gJ S a i) ∧ (∀ a i, a ≠ 58 → gQ S' a i = gQ S a i)
theorem FrLs.rf {S : zS} : FrLs S S := ⟨Dyn.rf, fun _ _ => rfl, fun _ _ _ => rfl, fun _ _ _ => rfl⟩
theorem FrLs.tr {A B C : zS} (h1 : FrLs A B) (h2 : FrLs B C) : FrLs A C := ⟨h1.1.tr h2.1, fun a i => (h2.2.1 a i).trans (h1.2.1 a i), fun a i q => (h2.2.2.1 a i q).trans (h1.2.2.1 a i q), fun a i q => (h2.2.2.2 a i q).trans (h1.2.2.2 a i q)⟩
theorem FrLs.J {S : zS} {r : Nat} {i x : Int} (h : 64 ≤ r ∧ r ≤ 67) : FrLs S (sJ S r i x) := ⟨Dyn.sJ Dyn.rf, fun _ _ => rfl, fun a j q => by rw [gJ_sJ, if_neg (by omega)], fun _ _ _ => rfl⟩
theorem FrLs.mt {S S' : zS} {a m : Nat} (hF : FrLs S S') (h : MtC S a m) : MtC S' a m := h.fr hF.1
theorem FrLs.fn {S S' : zS} (hF : FrLs S S') (b : Nat) : gI S' b = gI S b := funext fun i => hF.2.1 b i
section
variable {X : zX} {d : Nat} {E : Ln} {f : Int → Int → Int} {M : Int} {F : Nat → Lg} {a m : Nat} {he ae : Nat} {how : Int}
abbrev L54 (a : Nat) (how p : Int) (x4 x5 : Option Value) : zL := [some (.ref 58), some (.ref a), some (.int (Int32.ofInt how)), some (.int (Int32.ofInt p)), x4, x5]
/-- one place: all nodes -/
theorem l54a (hd : 1 < d) (hB : PrB E f M 1152921504606846976) (hn : 0 ≤ E.1 ∧ E.1 ≤ 20) {p : Int} (hp : 0 ≤ p ∧ p ≤ E.1) (rh : RJ he) (ra : RJ ae) (hne : he ≠ ae) {r4 : Nat} : ∀ (c j : Nat) (S : zS), j + c = m → MtC S a m → Gr (gI S (a + 1)) (gI S (a + 2)) (gI S (a + 3)) m F → gI S 58 8 = E.1 → (bt (gI S 58 9) p.toNat = true ↔ E.2.1 p) → PrR S E f → gQ S 58 6 = some he → gQ S 58 7 = some ae → JB S he ae → (∀ i : Nat, i < m → p < E.1 → Mn 1152921504606846976 (Rd E (F i) (p + 1)) (ct f (p + 1)) (gJ S ae i)) → (∀ i : Nat, i < j → Mn 1152921504606846976 (Rd E (F i) p) (ct f p) (gJ S he i)) → ∃ S' : zS, z_ev X d (54, 37, L54 a how p (some (.ref r4)) (vI j), [], mk S) = z_ev X d (54, 77, L54 a how p (some (.ref r4)) (vI m), [], mk S') ∧ FrLs S S' ∧ (∀ b i, b ≠ he → gJ S' b i = gJ S b i) ∧ (∀ b i, gQ S' b i = gQ S b i) ∧ JB S' he ae ∧ (∀ i : Nat, i < m → Mn 1152921504606846976 (Rd E (F i) p) (ct f p) (gJ S' he i)) := by
  intro c
  induction c with
  | zero =>
    intro j S hc hM hG h8 hcut hP h6 h7 hJ hA hH
    have hm := hM.2.2.2.2
    have : j = m := by omega
    subst this
    refine ⟨S, ?_, FrLs.rf, fun _ _ _ => rfl, fun _ _ => rfl, hJ, hH⟩
    have h4 : 4 ≤ a + 1 := by have := hM.1; omega
    rw [B54_37]
    have k0 := fun (k : Option (Option Value × zM)) => mt_o hM (k := k)
    have k1 := fun {cm cp : Nat} {L : zL} {st : List Value} => c279 (X := X) (d := d) (by omega) hM (cm := cm) (cp := cp) (L := L) (st := st)
    simp (disch := first | omega | assumption | exact b01_rng _ | exact st_5 | exact st_12 | exact st_19 | (simp only [isSt_sI, isSt_sJ, isSt_sF, isSt_sG, isSt_sA]; assumption)) only [↓B54_43, ↓k0, k1, i_lit, i_add, i_sub, i_mul, i_neg, i_lt, i_le, i_eq, i32_gI, i64_gJ, i32_id, i32_to, i64_to, sI_i32, sJ_i64, b01_t, b01_f, i32_b01, b01_0, ↓a_s0, ↓n_s0, ↓a_s1, ↓n_s1, Int.add_zero, t_lt, f_lt, t_le, f_le, t_eq, f_eq, true_and, and_true, false_and, and_false, and_self, ↓reduceIte, z_bool_of, or_true, true_or, or_false, false_or, Int.neg_neg, not_true_eq_false, not_false_eq_true, lg_lt, lg_le, lg_gt, lg_ge, lg_eq, j_lit, j_add, j_sub, j_mul, j_neg, j_eq, i64_id, ij, ji, z_rt, Nat.reduceEqDiff, Nat.reduceAdd, Int.reduceAdd, Int.reduceSub, Int.reduceMul, Int.reduceNeg, Int.reduceLT, Int.reduceLE, Int.reduceEq]
  | succ c ih =>
    intro j S hc hM hG h8 hcut hP h6 h7 hJ hA hH
    have hm := hM.2.2.2.2
    have h4 : 4 ≤ a + 1 := by have := hM.1; omega
    have h4r : 4 ≤ he := by rcases rh with q | q <;> omega
    obtain ⟨r1, r2, r3⟩ := (hG j (by omega)).rng
    have e55 := x55 (X := X) (d := 1) (S := S) (a := a) (m := m) (he := he) (ae := ae) (n := E.1) (j := j) (p := p) (by omega) hM h8 hn (by omega) hp h6 h7 rh ra hJ r1 (fun w => by have := r2 w; omega) (fun w => by have := r3 w; omega)
    have ev := fun {cm cp : Nat} {L : zL} {st : List Value} => evJ (X := X) (d := d) hd e55 (cm := cm) (cp := cp) (L := L) (st := st)
    have hv := lfV_mn (M := M) hB hp hP hcut hG hm.2 (j := j) (by omega) hJ hA hH
    have hvb := lfV_b (S := S) (a := a) (he := he) (ae := ae) (p := p) hJ hn hp hG hm.2 (j := j) (by omega)
    obtain ⟨S1, hS1⟩ : ∃ S1 : zS, S1 = sJ S he j (min (lfV S a E.1 j p he ae) 1152921504606846976) := ⟨_, rfl⟩
    have hej : gJ S1 he j = min (lfV S a E.1 j p he ae) 1152921504606846976 := by rw [hS1, gJ_sJ, if_pos ⟨rfl, rfl⟩, i64_id (by omega) (by omega)]
    have heo : ∀ b (i : Int), ¬ (b = he ∧ i = j) → gJ S1 b i = gJ S b i := fun b i q => by rw [hS1, gJ_sJ, if_neg q]
    have f1 : FrLs S S1 := by rw [hS1]; exact FrLs.J (by rcases rh with q | q <;> omega)
    obtain ⟨S', w1, w2, w3, w4, w5, w6⟩ := ih (j + 1) S1 (by omega) (f1.mt hM) (by rw [f1.fn, f1.fn, f1.fn]; exact hG) (by rw [f1.2.1]; exact h8) (by rw [f1.2.1]; exact hcut) (fun p v q1 q2 q3 q4 => by rw [heo 64 _ (by rintro ⟨w, -⟩; rcases rh with q | q <;> omega)]; exact hP p v q1 q2 q3 q4) (by rw [hS1]; exact h6) (by rw [hS1]; exact h7) ⟨fun i q1 q2 => by
      refine ⟨?_, ?_⟩
      · by_cases e : i = (j : Int)
        · subst e; rw [hej]; omega
        · rw [heo he i (by omega)]; exact (hJ.1 i q1 q2).1
      · rw [heo ae i (by intro w; exact hne w.1.symm)]; exact (hJ.1 i q1 q2).2, fun i q1 q2 => by rw [heo 64 i (by rintro ⟨w, -⟩; rcases rh with q | q <;> omega)]; exact hJ.2 i q1 q2⟩ (fun i q1 q2 => by rw [heo ae i (by intro w; exact hne w.1.symm)]; exact hA i q1 q2) (fun i q1 => by
      by_cases e : i = j
      · subst e; rw [hej]; exact hv
      · rw [heo he i (by omega)]; exact hH i (by omega))
    refine ⟨S', ?_, f1.tr w2, fun b i q => (w3 b i q).trans (heo b i (fun w => q w.1)), fun b i => by rw [w4 b i, hS1]; rfl, w5, w6⟩
    rw [← w1, hS1, show (((j + 1 : Nat)) : Int) = (j : Int) + 1 by omega, B54_37]
    have k0 := fun (k : Option (Option Value × zM)) => mt_o hM (k := k)
    have k1 := fun {cm cp : Nat} {L : zL} {st : List Value} => c279 (X := X) (d := d) (by omega) hM (cm := cm) (cp := cp) (L := L) (st := st)
    simp (disch := first | omega | assumption | exact b01_rng _ | exact st_5 | exact st_12 | exact st_19 | (simp only [isSt_sI, isSt_sJ, isSt_sF, isSt_sG, isSt_sA]; assumption)) only [↓B54_43, ↓B54_46, ↓B54_56, ↓B54_70, ↓o_58, ↓r_58_6 h6, ↓k0, k1, ↓L_len (X := X) h4r (show 1 < 6 by decide) (rj_z rh S), ↓G_jst (rj_z rh S), ev, i_lit, i_add, i_sub, i_mul, i_neg, i_lt, i_le, i_eq, i32_gI, i64_gJ, i32_id, i32_to, i64_to, sI_i32, sJ_i64, b01_t, b01_f, i32_b01, b01_0, ↓a_s0, ↓n_s0, ↓a_s1, ↓n_s1, Int.add_zero, t_lt, f_lt, t_le, f_le, t_eq, f_eq, true_and, and_true, false_and, and_false, and_self, ↓reduceIte, z_bool_of, or_true, true_or, or_false, false_or, Int.neg_neg, not_true_eq_false, not_false_eq_true, lg_lt, lg_le, lg_gt, lg_ge, lg_eq, j_lit, j_add, j_sub, j_mul, j_neg, j_eq, i64_id, ij, ji, z_rt, Nat.reduceEqDiff, Nat.reduceAdd, Int.reduceAdd, Int.reduceSub, Int.reduceMul, Int.reduceNeg, Int.reduceLT, Int.reduceLE, Int.reduceEq]
theorem l54b (hd : 1 < d) (hB : PrB E f M 1152921504606846976) (hn : 0 ≤ E.1 ∧ E.1 ≤ 20) : ∀ (c : Nat) (he ae : Nat) (S : zS) (x4 x5 : Option Value), (c : Int) ≤ E.1 + 1 → MtC S a m → Gr (gI S (a + 1)) (gI S (a + 2)) (gI S (a + 3)) m F → gI S 58 8 = E.1 → (∀ i : Nat, i < 32 → (bt (gI S 58 9) i = true ↔ E.2.1 i)) → PrR S E f → gQ S 58 6 = some he → gQ S 58 7 = some ae → RJ he → RJ ae → he ≠ ae → JB S he ae → (∀ i : Nat, i < m → (c : Int) ≤ E.1 → Mn 1152921504606846976 (Rd E (F i) c) (ct f c) (gJ S he i)) → ∃ (S' : zS) (he' ae' : Nat) (y4 y5 : Option Value), z_ev X d (54, 10, L54 a how ((c : Int) - 1) x4 x5, [], mk S) = z_ev X d (54, 83, L54 a how (-1) y4 y5, [], mk S') ∧ FrLs S S' ∧ gQ S' 58 6 = some he' ∧ gQ S' 58 7 = some ae' ∧ RJ he' ∧ RJ ae' ∧ he' ≠ ae' ∧ JB S' he' ae' ∧ (∀ i : Nat, i < m → Mn 1152921504606846976 (Rd E (F i) 0) (ct f 0) (gJ S' he' i)) := by
  intro c
  induction c with
  | zero =>
    intro he ae S x4 x5 hc hM hG h8 hcut hP h6 h7 rh ra hne hJ hH
    refine ⟨S, he, ae, x4, x5, ?_, FrLs.rf, h6, h7, rh, ra, hne, hJ, fun i hi => hH i hi (by omega)⟩
    rw [show ((0 : Nat) : Int) - 1 = -1 from rfl, B54_10]
    simp (disch := first | omega | assumption | exact b01_rng _ | exact st_5 | exact st_12 | exact st_19 | (simp only [isSt_sI, isSt_sJ, isSt_sF, isSt_sG, isSt_sA]; assumption)) only [i_lit, i_add, i_sub, i_mul, i_neg, i_lt, i_le, i_eq, i32_gI, i64_gJ, i32_id, i32_to, i64_to, sI_i32, sJ_i64, b01_t, b01_f, i32_b01, b01_0, ↓a_s0, ↓n_s0, ↓a_s1, ↓n_s1, Int.add_zero, t_lt, f_lt, t_le, f_le, t_eq, f_eq, true_and, and_true, false_and, and_false, and_self, ↓reduceIte, z_bool_of, or_true, true_or, or_false, false_or, Int.neg_neg, not_true_eq_false, not_false_eq_true, lg_lt, lg_le, lg_gt, lg_ge, lg_eq, j_lit, j_add, j_sub, j_mul, j_neg, j_eq, i64_id, ij, ji, z_rt, Nat.reduceEqDiff, Nat.reduceAdd, Int.reduceAdd, Int.reduceSub, Int.reduceMul, Int.reduceNeg, Int.reduceLT, Int.reduceLE, Int.reduceEq]
  | succ c ih =>
    intro he ae S x4 x5 hc hM hG h8 hcut hP h6 h7 rh ra hne hJ hH
    have hc' : ((c + 1 : Nat) : Int) = (c : Int) + 1 := by omega
    rw [hc'] at hc hH
    obtain ⟨S1, hS1⟩ : ∃ S1 : zS, S1 = sQ (sQ S 58 7 (some he)) 58 6 (some ae) := ⟨_, rfl⟩
    have f1 : FrLs S S1 := by
      rw [hS1]
      refine ⟨Dyn.sQ (by decide) (Dyn.sQ (by decide) Dyn.rf), fun _ _ => rfl, fun _ _ _ => rfl, fun b i q => ?_⟩
      rw [gQ_sQ, if_neg (by omega), gQ_sQ, if_neg (by omega)]
    have q6 : gQ S1 58 6 = some ae := by rw [hS1, gQ_sQ, if_pos ⟨rfl, rfl⟩]
    have q7 : gQ S1 58 7 = some he := by rw [hS1, gQ_sQ, if_neg (by omega), gQ_sQ, if_pos ⟨rfl, rfl⟩]
    have eJ : ∀ b i, gJ S1 b i = gJ S b i := fun b i => by rw [hS1]; rfl
    obtain ⟨S2, w1, w2, w3, w4, w5, w6⟩ := l54a (X := X) (d := d) (E := E) (f := f) (M := M) (F := F) (a := a) (m := m) (he := ae) (ae := he) (how := how) hd hB hn (p := (c : Int)) (by omega) ra rh (fun w => hne w.symm) (r4 := ae) m 0 S1 (by omega) (f1.mt hM) (by rw [f1.fn, f1.fn, f1.fn]; exact hG) (by rw [f1.2.1]; exact h8) (by rw [f1.2.1, show ((c : Int)).toNat = c from rfl]; exact hcut c (by omega)) (fun p v u1 u2 u3 u4 => by rw [eJ]; exact hP p v u1 u2 u3 u4) q6 q7 ⟨fun i u1 u2 => by rw [eJ, eJ]; exact ⟨(hJ.1 i u1 u2).2, (hJ.1 i u1 u2).1⟩, fun i u1 u2 => by rw [eJ]; exact hJ.2 i u1 u2⟩ (fun i hi hlt => by rw [eJ]; exact hH i hi (by omega)) (fun i hi => by omega)
    have f2 := f1.tr w2
    have h64 : ∀ i, gJ S2 64 i = gJ S 64 i := fun i => (w3 64 i (by rcases ra with q | q <;> omega)).trans (eJ 64 i)
    obtain ⟨S', he', ae', y4, y5, v1, v2, v3⟩ := ih ae he S2 (some (.ref ae)) (vI m) (by omega) (f2.mt hM) (by rw [f2.fn, f2.fn, f2.fn]; exact hG) (by rw [f2.2.1]; exact h8) (fun i hi => by rw [f2.2.1]; exact hcut i hi) (fun p v u1 u2 u3 u4 => by rw [h64]; exact hP p v u1 u2 u3 u4) (by rw [w4]; exact q6) (by rw [w4]; exact q7) ra rh (fun w => hne w.symm) w5 (fun i hi _ => w6 i hi)
    refine ⟨S', he', ae', y4, y5, ?_, f2.tr v2, v3⟩
    rw [← v1, hc', show (c : Int) + 1 - 1 = (c : Int) by omega]
    have e1 : (c : Int) + -1 = (c : Int) - 1 := by omega
    have z0 : ((0 : Nat) : Int) = 0 := rfl
    rw [z0] at w1
    have : z_ev X d (54, 10, L54 a how c x4 x5, [], mk S) = z_ev X d (54, 37, L54 a how c (some (.ref ae)) (vI 0), [], mk S1) := by
      rw [hS1, B54_10]
      simp (disch := first | omega | assumption | exact b01_rng _ | exact st_5 | exact st_12 | exact st_19 | (simp only [isSt_sI, isSt_sJ, isSt_sF, isSt_sG, isSt_sA]; assumption)) only [↓B54_14, ↓r_58_6 h6, ↓r_58_7 h7, ↓w_58_6, ↓w_58_7, i_lit, i_add, i_sub, i_mul, i_neg, i_lt, i_le, i_eq, i32_gI, i64_gJ, i32_id, i32_to, i64_to, sI_i32, sJ_i64, b01_t, b01_f, i32_b01, b01_0, ↓a_s0, ↓n_s0, ↓a_s1, ↓n_s1, Int.add_zero, t_lt, f_lt, t_le, f_le, t_eq, f_eq, true_and, and_true, false_and, and_false, and_self, ↓reduceIte, z_bool_of, or_true, true_or, or_false, false_or, Int.neg_neg, not_true_eq_false, not_false_eq_true, lg_lt, lg_le, lg_gt, lg_ge, lg_eq, j_lit, j_add, j_sub, j_mul, j_neg, j_eq, i64_id, ij, ji, z_rt, Nat.reduceEqDiff, Nat.reduceAdd, Int.reduceAdd, Int.reduceSub, Int.reduceMul, Int.reduceNeg, Int.reduceLT, Int.reduceLE, Int.reduceEq]
    rw [this, w1]
    simp (disch := first | omega | assumption | exact b01_rng _ | exact st_5 | exact st_12 | exact st_19 | (simp only [isSt_sI, isSt_sJ, isSt_sF, isSt_sG, isSt_sA]; assumption)) only [↓B54_77, i_lit, i_add, i_sub, i_mul, i_neg, i_lt, i_le, i_eq, i32_gI, i64_gJ, i32_id, i32_to, i64_to, sI_i32, sJ_i64, b01_t, b01_f, i32_b01, b01_0, ↓a_s0, ↓n_s0, ↓a_s1, ↓n_s1, Int.add_zero, t_lt, f_lt, t_le, f_le, t_eq, f_eq, true_and, and_true, false_and, and_false, and_self, ↓reduceIte, z_bool_of, or_true, true_or, or_false, false_or, Int.neg_neg, not_true_eq_false, not_false_eq_true, lg_lt, lg_le, lg_gt, lg_ge, lg_eq, j_lit, j_add, j_sub, j_mul, j_neg, j_eq, i64_id, ij, ji, z_rt, Nat.reduceEqDiff, Nat.reduceAdd, Int.reduceAdd, Int.reduceSub, Int.reduceMul, Int.reduceNeg, Int.reduceLT, Int.reduceLE, Int.reduceEq, e1]
theorem x54 (hd : 2 < d) (hB : PrB E f M 1152921504606846976) (hn : 0 ≤ E.1 ∧ E.1 ≤ 20) {S : zS} {x : T3} (hX : MetC S a x) (h8 : gI S 58 8 = E.1) (hcut : ∀ i : Nat, i < 32 → (bt (gI S 58 9) i = true ↔ E.2.1 i)) (hh : 0 ≤ how ∧ how ≤ 2) (hc : ∀ p v, 0 ≤ p → p < 20 → 0 ≤ v → v ≤ 2 → bt (gI S 62 v) p.toNat = true → 0 ≤ gI S 63 (3 * p + v) ∧ gI S 63 (3 * p + v) ≤ 99) (hP : ∀ p v : Int, 0 ≤ p → p < E.1 → 0 ≤ v → v ≤ 2 → Pri E f 1152921504606846976 p v (prI S how p v)) (hR : Rows S) (h67 : (gQ S 58 6 = some 66 ∧ gQ S 58 7 = some 67) ∨ (gQ S 58 6 = some 67 ∧ gQ S 58 7 = some 66)) : ∃ (S' : zS) (v : Int), z_ev X d (z_entry 54 [.ref 58, .ref a, .int (Int32.ofInt how)] (mk S)) = some (some (.long (Int64.ofInt v)), mk S') ∧ FrLs S S' ∧ Rows S' ∧ ((gQ S' 58 6 = some 66 ∧ gQ S' 58 7 = some 67) ∨ (gQ S' 58 6 = some 67 ∧ gQ S' 58 7 = some 66)) ∧ (0 ≤ v ∧ v ≤ 1152921504606846976) ∧ Mn 1152921504606846976 (Rd E x.1 0) (ct f 0) v := by
  obtain ⟨m, F, hM, hG, hF, -⟩ := hX.op
  have hm := hM.2.2.2.2
  have ha := hM.1
  have h4 : 4 ≤ a + 1 := by omega
  obtain ⟨S1, hS1⟩ : ∃ S1 : zS, S1 = sG S 64 0 60 (fun i => prI S how (i / 3) (i % 3)) := ⟨_, rfl⟩
  have f1 : FrLs S S1 := by
    rw [hS1]
    exact ⟨Dyn.sG Dyn.rf, fun _ _ => rfl, fun b i q => by rw [gJ_sG, if_neg (by omega)], fun _ _ _ => rfl⟩
  have prb : ∀ p v : Int, 0 ≤ p → p < 20 → 0 ≤ v → v ≤ 2 → 0 ≤ prI S how p v ∧ prI S how p v ≤ 1152921504606846976 := fun p v q1 q2 q3 q4 => by
    unfold prI
    split
    · split <;> omega
    split
    · next w =>
      split
      · have := cpr_b (hc p v q1 q2 q3 q4 w) ⟨q1, q2⟩ ⟨q3, q4⟩; omega
      split <;> omega
    · omega
  have e64 : ∀ p v : Int, 0 ≤ p → p < 20 → 0 ≤ v → v ≤ 2 → gJ S1 64 (3 * p + v) = prI S how p v := fun p v q1 q2 q3 q4 => by
    have := prb p v q1 q2 q3 q4
    rw [hS1, gJ_sG, if_pos ⟨rfl, by omega, by omega⟩, show (3 * p + v) / 3 = p by omega, show (3 * p + v) % 3 = v by omega, i64_id (by omega) (by omega)]
  have eJ : ∀ b i, b ≠ 64 → gJ S1 b i = gJ S b i := fun b i q => by rw [hS1, gJ_sG, if_neg (by omega)]
  have eQ : ∀ b i, gQ S1 b i = gQ S b i := fun b i => by rw [hS1]; rfl
  obtain ⟨he, ae, h6, h7, rh, ra, hne⟩ : ∃ he ae : Nat, gQ S 58 6 = some he ∧ gQ S 58 7 = some ae ∧ RJ he ∧ RJ ae ∧ he ≠ ae := by
    rcases h67 with ⟨q1, q2⟩ | ⟨q1, q2⟩
    · exact ⟨66, 67, q1, q2, Or.inl rfl, Or.inr rfl, by decide⟩
    · exact ⟨67, 66, q1, q2, Or.inr rfl, Or.inl rfl, by decide⟩
  have hJ : JB S1 he ae := by
    refine ⟨fun i q1 q2 => ?_, fun i q1 q2 => ?_⟩
    · have := hR i q1 q2
      rw [eJ he i (by rcases rh with q | q <;> omega), eJ ae i (by rcases ra with q | q <;> omega)]
      rcases rh with rfl | rfl <;> rcases ra with rfl | rfl
      · exact absurd rfl hne
      · exact this
      · exact ⟨this.2, this.1⟩
      · exact absurd rfl hne
    · have := e64 (i / 3) (i % 3) (by omega) (by omega) (by omega) (by omega)
      rw [show 3 * (i / 3) + i % 3 = i by omega] at this
      rw [this]
      exact prb _ _ (by omega) (by omega) (by omega) (by omega)
  obtain ⟨en, hen⟩ : ∃ n : Nat, E.1 = n := ⟨E.1.toNat, by omega⟩
  obtain ⟨S', he', ae', y4, y5, v1, v2, v3, v4, v5, v6, v7, v8, v9⟩ := l54b (X := X) (d := d) (E := E) (f := f) (M := M) (F := F) (a := a) (m := m) (how := how) (by omega) hB hn (en + 1) he ae S1 none none (by omega) (f1.mt hM) (by rw [f1.fn, f1.fn, f1.fn]; exact hG) (by rw [f1.2.1]; exact h8) (fun i hi => by rw [f1.2.1]; exact hcut i hi) (fun p v q1 q2 q3 q4 => by rw [e64 p v q1 (by omega) q3 q4]; exact hP p v q1 q2 q3 q4) (by rw [eQ]; exact h6) (by rw [eQ]; exact h7) rh ra hne hJ (fun i hi w => by omega)
  have bl := v8.1 ((m : Int) - 1) (by omega) (by omega)
  have h4r : 4 ≤ he' := by rcases v5 with q | q <;> omega
  have fA := f1.tr v2
  refine ⟨S', gJ S' he' ((m : Int) - 1), ?_, fA, fun i q1 q2 => ?_, ?_, bl.1, ?_⟩
  · have e58 : z_ev X 2 (z_entry 58 [.ref 58, .int (Int32.ofInt how)] (mk S)) = some (none, mk S1) := by
      rw [hS1, ← l58 (X := X) (d := 2) (by omega) hh 60 0 S none none (by omega) (by omega) hc]
      show z_ev X 2 (58, 0, [some (.ref 58), some (.int (Int32.ofInt how)), none, none, none], [], mk S) = _
      simp (disch := first | omega | assumption | exact b01_rng _ | exact st_5 | exact st_12 | exact st_19 | (simp only [isSt_sI, isSt_sJ, isSt_sF, isSt_sG, isSt_sA]; assumption)) only [↓B58_0, i_lit, i_add, i_sub, i_mul, i_neg, i_lt, i_le, i_eq, i32_gI, i64_gJ, i32_id, i32_to, i64_to, sI_i32, sJ_i64, b01_t, b01_f, i32_b01, b01_0, ↓a_s0, ↓n_s0, ↓a_s1, ↓n_s1, Int.add_zero, t_lt, f_lt, t_le, f_le, t_eq, f_eq, true_and, and_true, false_and, and_false, and_self, ↓reduceIte, z_bool_of, or_true, true_or, or_false, false_or, Int.neg_neg, not_true_eq_false, not_false_eq_true, lg_lt, lg_le, lg_gt, lg_ge, lg_eq, j_lit, j_add, j_sub, j_mul, j_neg, j_eq, i64_id, ij, ji, z_rt, Nat.reduceEqDiff, Nat.reduceAdd, Int.reduceAdd, Int.reduceSub, Int.reduceMul, Int.reduceNeg, Int.reduceLT, Int.reduceLE, Int.reduceEq]
    have ev := fun {cm cp : Nat} {L : zL} {st : List Value} => evV (X := X) (d := d) hd e58 (cm := cm) (cp := cp) (L := L) (st := st)
    have g8 : gI S1 58 8 = (en : Int) := by rw [f1.2.1, h8, hen]
    show z_ev X d (54, 0, [some (.ref 58), some (.ref a), some (.int (Int32.ofInt how)), none, none, none], [], mk S) = _
    rw [show ((en + 1 : Nat) : Int) - 1 = (en : Int) by omega] at v1
    have st : z_ev X d (54, 0, [some (.ref 58), some (.ref a), some (.int (Int32.ofInt how)), none, none, none], [], mk S) = z_ev X d (54, 10, L54 a how en none none, [], mk S1) := by
      simp (disch := first | omega | assumption | exact b01_rng _ | exact st_5 | exact st_12 | exact st_19 | (simp only [isSt_sI, isSt_sJ, isSt_sF, isSt_sG, isSt_sA]; assumption)) only [↓B54_0, ↓B54_5, ↓o_58, ↓r_58_6, ↓r_58_7, ↓r_58_8, ↓w_58_6, ↓w_58_7, ↓o_58, ev, i_lit, i_add, i_sub, i_mul, i_neg, i_lt, i_le, i_eq, i32_gI, i64_gJ, i32_id, i32_to, i64_to, sI_i32, sJ_i64, b01_t, b01_f, i32_b01, b01_0, ↓a_s0, ↓n_s0, ↓a_s1, ↓n_s1, Int.add_zero, t_lt, f_lt, t_le, f_le, t_eq, f_eq, true_and, and_true, false_and, and_false, and_self, ↓reduceIte, z_bool_of, or_true, true_or, or_false, false_or, Int.neg_neg, not_true_eq_false, not_false_eq_true, lg_lt, lg_le, lg_gt, lg_ge, lg_eq, j_lit, j_add, j_sub, j_mul, j_neg, j_eq, i64_id, ij, ji, z_rt, Nat.reduceEqDiff, Nat.reduceAdd, Int.reduceAdd, Int.reduceSub, Int.reduceMul, Int.reduceNeg, Int.reduceLT, Int.reduceLE, Int.reduceEq, g8]
    have hM' := fA.mt hM
    rw [st, v1]
    have k0 := fun (k : Option (Option Value × zM)) => mt_o hM' (k := k)
    have k1 := fun {cm cp : Nat} {L : zL} {st : List Value} => c279 (X := X) (d := d) (by omega) hM' (cm := cm) (cp := cp) (L := L) (st := st)
    simp (disch := first | omega | assumption | exact b01_rng _ | exact st_5 | exact st_12 | exact st_19 | (simp only [isSt_sI, isSt_sJ, isSt_sF, isSt_sG, isSt_sA]; assumption)) only [↓B54_83, ↓B54_91, ↓B54_94, ↓r_58_6 v3, ↓k0, k1, c56, i_lit, i_add, i_sub, i_mul, i_neg, i_lt, i_le, i_eq, i32_gI, i64_gJ, i32_id, i32_to, i64_to, sI_i32, sJ_i64, b01_t, b01_f, i32_b01, b01_0, ↓a_s0, ↓n_s0, ↓a_s1, ↓n_s1, Int.add_zero, t_lt, f_lt, t_le, f_le, t_eq, f_eq, true_and, and_true, false_and, and_false, and_self, ↓reduceIte, z_bool_of, or_true, true_or, or_false, false_or, Int.neg_neg, not_true_eq_false, not_false_eq_true, lg_lt, lg_le, lg_gt, lg_ge, lg_eq, j_lit, j_add, j_sub, j_mul, j_neg, j_eq, i64_id, ij, ji, z_rt, Nat.reduceEqDiff, Nat.reduceAdd, Int.reduceAdd, Int.reduceSub, Int.reduceMul, Int.reduceNeg, Int.reduceLT, Int.reduceLE, Int.reduceEq]
  · have := v8.1 i q1 q2
    rcases v5 with rfl | rfl <;> rcases v6 with rfl | rfl
    · exact absurd rfl v7
    · exact this
    · exact ⟨this.2, this.1⟩
    · exact absurd rfl v7
  · rcases v5 with rfl | rfl <;> rcases v6 with rfl | rfl
    · exact absurd rfl v7
    · exact Or.inl ⟨v3, v4⟩
    · exact Or.inr ⟨v3, v4⟩
    · exact absurd rfl v7
  · have := v9 (m - 1) (by omega)
    rw [hF, show ((m - 1 : Nat) : Int) = (m : Int) - 1 by omega] at this
    exact this
end
