/-! BOTH SIDES: the line, the prices, a metre, a law -/
abbrev LnH (how : Int) (cls : List Cl) (g : Int → Int) : Ln := (g 0, cutB g, fun p v => (0 ≤ p ∧ p < g 0) ∧ (0 ≤ v ∧ v ≤ 2) ∧ (CanR cls g p v ∨ (how = 2 ∧ v < 2)))
def fH (how : Int) (cls : List Cl) (g : Int → Int) (p v : Int) : Int := if CanR cls g p v then (if how = 0 then CstR cls g p v else if how = 1 ∧ v = 2 then 1 else 0) else 1
def fC (how : Int) (cls : List Cl) (g : Int → Int) (p v : Int) : Int := if how = 0 then cpr (CstR cls g p v) p v else fH how cls g p v
section
variable {cls : List Cl} {g : Int → Int} {how : Int}
theorem fH_b (hk : ∀ cl ∈ cls, LwK cl) {p v : Int} : 0 ≤ fH how cls g p v ∧ fH how cls g p v ≤ 99 := by
  have := CstR_b (g := g) (p := p) (v := v) hk
  unfold fH
  split
  · split
    · exact this
    split <;> omega
  · omega
theorem PrB_R (hG : GB g) (hk : ∀ cl ∈ cls, LwK cl) : PrB (LnH how cls g) (fH how cls g) 99 100000000 := ⟨hG.1, fun p v _ => fH_b hk, by omega, by omega⟩
theorem PrB_C (hG : GB g) (hk : ∀ cl ∈ cls, LwK cl) : PrB (LnH how cls g) (fC how cls g) 109401406963712 1152921504606846976 := by
  refine ⟨hG.1, fun p v hc => ?_, by omega, by omega⟩
  have hg := hG.1
  unfold fC
  split
  · have h1 : 0 ≤ p ∧ p < g 0 := hc.1
    exact cpr_b (CstR_b hk) ⟨h1.1, by omega⟩ hc.2.1
  · have := fH_b (how := how) (g := g) (p := p) (v := v) hk; omega
theorem PrS_R {S : zS} (hk : ∀ cl ∈ cls, LwK cl) (hP : PcR S cls g how (g 0)) : PrS S (LnH how cls g) (fH how cls g) := by
  intro p v q1 q2 q3 q4
  rw [hP p v q1 q2 q3 q4]
  have hc := CstR_b (g := g) (p := p) (v := v) hk
  unfold prR
  by_cases w : CanR cls g p v
  · have eF : fH how cls g p v = (if how = 0 then CstR cls g p v else if how = 1 ∧ v = 2 then 1 else 0) := by unfold fH; rw [if_pos w]
    rw [if_pos w]
    refine ⟨⟨?_, fun _ => eF, fun u => absurd ⟨q2, ⟨q1, q2⟩, ⟨q3, q4⟩, Or.inl w⟩ u⟩, ?_⟩
    · split
      · omega
      split <;> omega
    · split
      · omega
      split <;> omega
  · have eF : fH how cls g p v = 1 := by unfold fH; rw [if_neg w]
    rw [if_neg w]
    by_cases u : how = 2 ∧ v < 2
    · rw [if_pos u]
      exact ⟨⟨by omega, fun _ => eF, fun z => absurd ⟨q2, ⟨q1, q2⟩, ⟨q3, q4⟩, Or.inr u⟩ z⟩, by omega⟩
    · rw [if_neg u]
      refine ⟨⟨by omega, fun z => ?_, fun _ => Int.le_refl _⟩, Int.le_refl _⟩
      rcases z.2.2.2 with z | z
      · exact absurd z w
      · exact absurd z u
theorem CuR_R {S : zS} (hg : gI S 74 = g) : CuR S (LnH how cls g) := by
  intro s q1 q2
  show cutB g s ↔ _
  rw [hg]
  unfold cutB
  constructor
  · rintro (w | ⟨-, -, w⟩)
    · exact Or.inl w
    · exact Or.inr w
  · rintro (w | w)
    · exact Or.inl w
    · by_cases e : s = 0
      · exact Or.inl e
      · exact Or.inr ⟨by omega, q2, w⟩
/-- the class's bits -/
theorem BtL_C {S : zS} (hG : GB g) (h : LkR S cls g) (hh : how ≠ 2) : BtL S (LnH how cls g) := by
  obtain ⟨h1, h2, h3, h4⟩ := h
  refine ⟨h1, hG.1, fun i hi => ?_, fun u u1 u2 i hi => ?_, fun p v w => w.1⟩
  · rw [h2 i hi]
    show _ ↔ cutB g i
    unfold cutB
    constructor
    · rintro (w | ⟨w1, w2, w3⟩)
      · exact Or.inl (by omega)
      · exact Or.inr ⟨by omega, w2, w3⟩
    · rintro (w | ⟨w1, w2, w3⟩)
      · exact Or.inl (by omega)
      · exact Or.inr ⟨by omega, w2, w3⟩
  · rw [h3 u u1 u2 i hi]
    show _ ↔ ((0 ≤ (i : Int) ∧ (i : Int) < g 0) ∧ (0 ≤ u ∧ u ≤ 2) ∧ (CanR cls g i u ∨ (how = 2 ∧ u < 2)))
    constructor
    · rintro ⟨w1, w2⟩; exact ⟨⟨by omega, w1⟩, ⟨u1, u2⟩, Or.inl w2⟩
    · rintro ⟨w1, -, w2 | w2⟩
      · exact ⟨w1.2, w2⟩
      · exact absurd w2.1 hh
theorem bt_C {S : zS} (h : LkR S cls g) {p v : Int} (hp : 0 ≤ p ∧ p < 20) (hv : 0 ≤ v ∧ v ≤ 2) : bt (gI S 62 v) p.toNat = true ↔ p < g 0 ∧ CanR cls g p v := by
  have := h.2.2.1 v hv.1 hv.2 p.toNat (by omega)
  rw [show ((p.toNat : Nat) : Int) = p by omega] at this
  exact this
theorem Pri_C {S : zS} (hG : GB g) (hk : ∀ cl ∈ cls, LwK cl) (h : LkR S cls g) (hh : 0 ≤ how ∧ how ≤ 2) (p v : Int) (q1 : 0 ≤ p) (q2 : p < g 0) (q3 : 0 ≤ v) (q4 : v ≤ 2) : Pri (LnH how cls g) (fC how cls g) 1152921504606846976 p v (prI S how p v) := by
  have hg := hG.1
  have hb := bt_C h (p := p) (v := v) ⟨q1, by omega⟩ ⟨q3, q4⟩
  have hc := CstR_b (g := g) (p := p) (v := v) hk
  have hcp := cpr_b hc ⟨q1, show p < 20 by omega⟩ ⟨q3, q4⟩
  have h63 := h.2.2.2 p v q1 q3 q4 q2
  unfold prI
  by_cases w : CanR cls g p v
  · have wb := hb.mpr ⟨q2, w⟩
    have eF : fC how cls g p v = (if how = 0 then cpr (CstR cls g p v) p v else if how = 1 ∧ v = 2 then 1 else 0) := by
      unfold fC fH
      by_cases u : how = 0
      · rw [if_pos u, if_pos u]
      · rw [if_neg u, if_pos w, if_neg u, if_neg u]
    by_cases u : how = 2 ∧ v ≠ 2
    · rw [if_pos u, if_pos wb]
      rw [if_neg (show ¬ how = 0 by omega), if_neg (by omega)] at eF
      exact ⟨by omega, fun _ => eF, fun z => absurd ⟨q2, ⟨q1, q2⟩, ⟨q3, q4⟩, Or.inl w⟩ z⟩
    · rw [if_neg u, if_pos wb, h63]
      by_cases u2 : how = 0
      · rw [if_pos u2] at eF ⊢
        exact ⟨hcp.1, fun _ => eF, fun z => absurd ⟨q2, ⟨q1, q2⟩, ⟨q3, q4⟩, Or.inl w⟩ z⟩
      · rw [if_neg u2] at eF ⊢
        exact ⟨by split <;> omega, fun _ => eF, fun z => absurd ⟨q2, ⟨q1, q2⟩, ⟨q3, q4⟩, Or.inl w⟩ z⟩
  · have wb : ¬ bt (gI S 62 v) p.toNat = true := fun z => w (hb.mp z).2
    by_cases u : how = 2 ∧ v ≠ 2
    · have eF : fC how cls g p v = 1 := by
        unfold fC fH
        rw [if_neg (show ¬ how = 0 by omega), if_neg w]
      rw [if_pos u, if_neg wb]
      exact ⟨by omega, fun _ => eF, fun z => absurd ⟨q2, ⟨q1, q2⟩, ⟨q3, q4⟩, Or.inr ⟨u.1, by omega⟩⟩ z⟩
    · rw [if_neg u, if_neg wb]
      refine ⟨by omega, fun z => ?_, fun _ => Int.le_refl _⟩
      rcases z.2.2.2 with z | z
      · exact absurd z w
      · omega
end
/-- a metre on both sides -/
theorem PM_R {S : zS} {a : Nat} {g : Int → Int} {b : Int} (h : PM S a (blk g b 402)) : ∃ x : T3, MetC S a x ∧ MtR g b x := by
  obtain ⟨x, h1, h2, h3, h4, h5⟩ := h
  have hl : x.2.2.length + 1 = 2 * x.2.1 := h2.2.2.1
  refine ⟨x, h1, h2, h3, ?_, fun j y hj => ?_⟩
  · rw [← h4]; unfold blk; rw [if_pos (by omega), Int.add_zero]
  · have hjl := (List.getElem?_eq_some_iff.mp hj).1
    rw [← h5 j y hj]; unfold blk; rw [if_pos (by omega)]
    congr 1; omega
/-- a law on both sides -/
theorem QL_R {S : zS} {a : Nat} {g : Int → Int} {b : Int} (h : QL S a (blk g b 900)) : ∃ cls : List Cl, LawC S (some a) cls ∧ LwR g b cls ∧ ClB cls := by
  obtain ⟨cls, m, k, z, h1, h2, h3, ⟨h4, h4'⟩, h5, h6, h7, h8⟩ := h
  have eb : ∀ i, 0 ≤ i → i < 900 → blk g b 900 i = g (b + i) := fun i q1 q2 => by unfold blk; rw [if_pos ⟨q1, q2⟩]
  refine ⟨cls, ⟨h4', m, h1, h2, h3, fun cl hc => ?_, h5.2⟩, ⟨k, h6, ?_, h5.2, fun j cl hj => ?_⟩, h4', fun cl hc => ?_⟩
  · obtain ⟨o1, o2, o3, o4, o5⟩ := h4 cl hc
    exact ⟨fun e he => (o1 e he).1, fun e he => (o3 e he).1⟩
  · rw [← h7, eb 1 (by omega) (by omega)]
  · have hjl := (List.getElem?_eq_some_iff.mp hj).1
    refine (h8 j cl hj).cg' (fun i q1 q2 => ?_) (fun i q1 q2 => ?_)
    · unfold insR
      rw [eb _ (by omega) (by omega), eb _ (by omega) (by omega), show b + (98 + 2 * i) = b + 98 + 2 * i by omega, show b + (99 + 2 * i) = b + 98 + 2 * i + 1 by omega]
    · rw [eb _ (by omega) (by omega), show b + (2 + i) = b + 2 + i by omega]
  · obtain ⟨o1, o2, o3, o4, o5⟩ := h4 cl hc
    exact ⟨fun e he => (o1 e he).1, fun e he => (o3 e he).1, o4⟩
/-- frames of the reference's questions -/
def FrQm (S S' : zS) : Prop := Dyn S S' ∧ (∀ a i, a ≠ 97 → ¬ (99 ≤ a ∧ a ≤ 109) → ¬ (a = 72 ∧ (i = 0 ∨ i = 34 ∨ i = 38 ∨ i = 40 ∨ i = 51)) → gI S' a i = gI S a i) ∧ (∀ a i, ¬ (90 ≤ a ∧ a ≤ 92) → ¬ (a = 72 ∧ (i = 39 ∨ i = 41)) → gJ S' a i = gJ S a i) ∧ (∀ a i, gQ S' a i = gQ S a i)
theorem FrQm.rf {S : zS} : FrQm S S := ⟨Dyn.rf, fun _ _ _ _ _ => rfl, fun _ _ _ _ => rfl, fun _ _ => rfl⟩
theorem FrQm.tr {A B C : zS} (h1 : FrQm A B) (h2 : FrQm B C) : FrQm A C := ⟨h1.1.tr h2.1, fun a i q r s => (h2.2.1 a i q r s).trans (h1.2.1 a i q r s), fun a i q r => (h2.2.2.1 a i q r).trans (h1.2.2.1 a i q r), fun a i => (h2.2.2.2 a i).trans (h1.2.2.2 a i)⟩
theorem FrLy.q {S S' : zS} (h : FrLy S S') : FrQm S S' := ⟨h.1, fun a i q r s => h.2.1 a i q (by omega) (by omega), fun a i _ _ => h.2.2.1 a i, h.2.2.2⟩
theorem FrPc.q {S S' : zS} (h : FrPc S S') : FrQm S S' := ⟨h.1, fun a i q r s => h.2.1 a i (by omega) (by omega), fun a i q r => h.2.2.1 a i (by omega) (by omega) (by omega), h.2.2.2⟩
theorem FrLf.q {S S' : zS} (h : FrLf S S') : FrQm S S' := ⟨h.1, fun a i q r s => h.2.1 a i (by omega), fun a i _ _ => h.2.2.1 a i, h.2.2.2⟩
theorem FrTl.q {S S' : zS} (h : FrTl S S') : FrQm S S' := h.p.q
theorem FrQm.g {S S' : zS} (h : FrQm S S') : gI S' 74 = gI S 74 := funext fun i => h.2.1 74 i (by omega) (by omega) (by omega)
theorem FrQm.i {S S' : zS} (h : FrQm S S') {i : Int} (hi : ¬ (i = 0 ∨ i = 34 ∨ i = 38 ∨ i = 40 ∨ i = 51)) : gI S' 72 i = gI S 72 i := h.2.1 72 i (by omega) (by omega) (by omega)
/-- what the reference needs for a question -/
def RefQ (S : zS) (cls : List Cl) : Prop := GB (gI S 74) ∧ (0 ≤ gI S 74 1 ∧ gI S 74 1 ≤ 6) ∧ gI S 72 20 = 0 ∧ LawR (gI S 74) (gI S 74 4) cls
theorem RefQ.fr {S S' : zS} {cls : List Cl} (h : RefQ S cls) (hF : FrQm S S') : RefQ S' cls := by
  unfold RefQ
  rw [hF.g, hF.i (by omega)]; exact h
section
variable {X : zX} {d : Nat} {cls : List Cl} {how : Int}
/-- leastOf, with all that it lays -/
theorem x228 (hd : 9 < d) {S : zS} (hh : 0 ≤ how ∧ how ≤ 2) (hQ : RefQ S cls) {m : Int} (hm : 0 ≤ m ∧ m < 6) {x : T3} (hX : MtR (gI S 74) (80 + 402 * m) x) : ∃ S' : zS, z_ev X d (z_entry 228 [.ref 72, .int (Int32.ofInt m), .int (Int32.ofInt how)] (mk S)) = some (vI (if gI S' 104 0 < 100000000 then gI S' 104 0 else -1), mk S') ∧ FrQm S S' ∧ LyR S' x ∧ Laid S' (LnH how cls (gI S 74)) (fH how cls (gI S 74)) x.2.1 ∧ LfR S' (LnH how cls (gI S 74)) (fH how cls (gI S 74)) x.2.1 (-1) x.2.1 := by
  obtain ⟨S1, a1, a2, a3⟩ := x220 (X := X) (d := 9) (by omega) hm hX
  have evA := fun {cm cp : Nat} {L : zL} {st : List Value} => evV (X := X) (d := d) hd a1 (cm := cm) (cp := cp) (L := L) (st := st)
  have hQ1 := hQ.fr a2.q
  have g1 := a2.q.g
  obtain ⟨q1, q2, q3, q4⟩ := hQ1
  obtain ⟨S2, b1, b2, b3⟩ := x223 (X := X) (d := 9) (cls := cls) (by omega) (S := S1) hh q1 q2 q3 q4
  have evB := fun {cm cp : Nat} {L : zL} {st : List Value} => evV (X := X) (d := d) hd b1 (cm := cm) (cp := cp) (L := L) (st := st)
  have g2 := b2.q.g
  rw [g1] at b3
  have hk := hQ.2.2.2.1.1
  obtain ⟨y1, y2, y3, y4, y5, y6⟩ := a3
  have k : ∀ b i, 99 ≤ b → b ≤ 102 → gI S2 b i = gI S1 b i := fun b i w1 w2 => b2.2.1 b i (by omega) (by omega)
  have hlaid : Laid S2 (LnH how cls (gI S 74)) (fH how cls (gI S 74)) x.2.1 := ⟨by rw [g2, g1], by rw [b2.2.1 72 51 (by omega) (by omega)]; exact y1, fun i w1 w2 => by rw [k 101 i (by omega) (by omega), k 102 i (by omega) (by omega), k 99 i (by omega) (by omega)]; exact y3 i w1 w2, fun s o w1 w2 w3 => by rw [k 100 _ (by omega) (by omega)]; exact y4 s o w1 w2 w3, PrS_R hk b3, CuR_R (by rw [g2, g1])⟩
  obtain ⟨S3, c1, c2, c3⟩ := x227 (X := X) (d := 9) (by omega) (PrB_R (how := how) hQ.1 hk) hQ.1.1 (n := x.2.1) (by omega) hlaid
  have evC := fun {cm cp : Nat} {L : zL} {st : List Value} => evI (X := X) (d := d) hd c1 (cm := cm) (cp := cp) (L := L) (st := st)
  have k3 : ∀ b i, 99 ≤ b → b ≤ 102 → gI S3 b i = gI S1 b i := fun b i w1 w2 => (c2.2.1 b i (by omega)).trans (k b i w1 w2)
  have hu : UA S3 x.2.1 = UA S1 x.2.1 := UA_cg (fun i => k3 99 i (by omega) (by omega)) (fun i => k3 100 i (by omega) (by omega)) (fun i => k3 102 i (by omega) (by omega))
  have hb := (c3 0 0 (by omega) (by omega) hQ.1.1.1 (Or.inl (by omega))).1
  rw [show (201 : Int) * 0 + 0 = 0 from rfl] at hb
  refine ⟨S3, ?_, (a2.q.tr b2.q).tr c2.q, ⟨by rw [c2.2.1 72 51 (by omega), b2.2.1 72 51 (by omega) (by omega)]; exact y1, y2, fun i w1 w2 => by rw [k3 101 i (by omega) (by omega), k3 102 i (by omega) (by omega), k3 99 i (by omega) (by omega)]; exact y3 i w1 w2, fun s o w1 w2 w3 => by rw [k3 100 _ (by omega) (by omega)]; exact y4 s o w1 w2 w3, by rw [hu]; exact y5, by rw [hu]; exact y6⟩, hlaid.fr c2, c3⟩
  show z_ev X d (228, 0, [some (.ref 72), some (.int (Int32.ofInt m)), some (.int (Int32.ofInt how)), none], [], mk S) = _
  by_cases q : gI S3 104 0 < 100000000
  · rw [if_pos q]
    simp (disch := first | omega | assumption | exact b01_rng _ | exact st_5 | exact st_12 | exact st_19 | (simp only [isSt_sI, isSt_sJ, isSt_sF, isSt_sG, isSt_sA]; assumption)) only [↓B228_0, ↓B228_5, ↓B228_10, ↓B228_14, ↓B228_26, ↓B228_27, ↓o_72, evA, evB, evC, i_lit, i_add, i_sub, i_mul, i_neg, i_lt, i_le, i_eq, i32_gI, i64_gJ, i32_id, i32_to, i64_to, sI_i32, sJ_i64, b01_t, b01_f, i32_b01, b01_0, ↓a_s0, ↓n_s0, ↓a_s1, ↓n_s1, Int.add_zero, t_lt, f_lt, t_le, f_le, t_eq, f_eq, true_and, and_true, false_and, and_false, and_self, ↓reduceIte, z_bool_of, or_true, true_or, or_false, false_or, Int.neg_neg, not_true_eq_false, not_false_eq_true, lg_lt, lg_le, lg_gt, lg_ge, lg_eq, j_lit, j_add, j_sub, j_mul, j_neg, j_eq, i64_id, ij, ji, z_rt, Nat.reduceEqDiff, Nat.reduceAdd, Int.reduceAdd, Int.reduceSub, Int.reduceMul, Int.reduceNeg, Int.reduceLT, Int.reduceLE, Int.reduceEq]
  · rw [if_neg q]
    simp (disch := first | omega | assumption | exact b01_rng _ | exact st_5 | exact st_12 | exact st_19 | (simp only [isSt_sI, isSt_sJ, isSt_sF, isSt_sG, isSt_sA]; assumption)) only [↓B228_0, ↓B228_5, ↓B228_10, ↓B228_14, ↓B228_22, ↓B228_27, ↓o_72, evA, evB, evC, i_lit, i_add, i_sub, i_mul, i_neg, i_lt, i_le, i_eq, i32_gI, i64_gJ, i32_id, i32_to, i64_to, sI_i32, sJ_i64, b01_t, b01_f, i32_b01, b01_0, ↓a_s0, ↓n_s0, ↓a_s1, ↓n_s1, Int.add_zero, t_lt, f_lt, t_le, f_le, t_eq, f_eq, true_and, and_true, false_and, and_false, and_self, ↓reduceIte, z_bool_of, or_true, true_or, or_false, false_or, Int.neg_neg, not_true_eq_false, not_false_eq_true, lg_lt, lg_le, lg_gt, lg_ge, lg_eq, j_lit, j_add, j_sub, j_mul, j_neg, j_eq, i64_id, ij, ji, z_rt, Nat.reduceEqDiff, Nat.reduceAdd, Int.reduceAdd, Int.reduceSub, Int.reduceMul, Int.reduceNeg, Int.reduceLT, Int.reduceLE, Int.reduceEq]
end
