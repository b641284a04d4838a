/-! listen: what both sides keep, and the class's part -/
theorem FitR.bit {T : Int → Prop} : ∀ {k : Nat} {r : Int32}, k ≤ 6 → FitR T k r → ∀ i : Nat, i < 32 → (r.toBitVec.getLsbD i = true ↔ i < k ∧ T i) := by
  intro k
  induction k with
  | zero =>
    intro r _ h i hi
    have : r = Int32.ofInt 0 := h
    rw [this, zero_b]
    exact ⟨fun z => (by cases z), fun z => (by omega)⟩
  | succ k ih =>
    rintro r hk ⟨r', a1, a2⟩ i hi
    have hih := ih (by omega) a1 i hi
    rcases a2 with ⟨w1, rfl⟩ | ⟨w1, rfl⟩
    · rw [or_b, one_b (by omega), Bool.or_eq_true, hih, decide_eq_true_iff]
      constructor
      · rintro (⟨z1, z2⟩ | ⟨z1, z2⟩)
        · exact ⟨by omega, z2⟩
        · subst z1; exact ⟨by omega, w1⟩
      · rintro ⟨z1, z2⟩
        by_cases e : i = k
        · exact Or.inr ⟨e, hi⟩
        · exact Or.inl ⟨by omega, z2⟩
    · rw [hih]
      constructor
      · rintro ⟨z1, z2⟩; exact ⟨by omega, z2⟩
      · rintro ⟨z1, z2⟩
        by_cases e : i = k
        · subst e; exact absurd z2 w1
        · exact ⟨by omega, z2⟩
theorem FitR.bit1 {T : Int → Prop} {k : Nat} {rr : Int} (hk : k ≤ 6) (h : FitR T k (Int32.ofInt rr)) {i : Int} (hi : 0 ≤ i ∧ i < 32) : (bit1 rr i = 1 ∧ i < k ∧ T i) ∨ (bit1 rr i = 0 ∧ ¬ (i < k ∧ T i)) := by
  have hb := h.bit hk i.toNat (by omega)
  have e := bit1_bt rr (s := i.toNat) (by omega)
  rw [show ((i.toNat : Nat) : Int) = i by omega] at e hb
  rw [e]
  have hb' : bt rr i.toNat = true ↔ i.toNat < k ∧ T i := hb
  by_cases q : bt rr i.toNat = true
  · rw [if_pos q]
    have := hb'.mp q
    exact Or.inl ⟨rfl, by omega, this.2⟩
  · rw [if_neg q]
    exact Or.inr ⟨rfl, fun z => q (hb'.mpr ⟨by omega, z.2⟩)⟩
/-- how many of the first k -/
def cn (b : Int → Bool) : Nat → Int
  | 0 => 0
  | k + 1 => cn b k + if b k = true then 1 else 0
theorem cn_b (b : Int → Bool) : ∀ k : Nat, 0 ≤ cn b k ∧ cn b k ≤ k := by
  intro k
  induction k with
  | zero => exact ⟨Int.le_refl _, Int.le_refl _⟩
  | succ k ih =>
    unfold cn
    split <;> omega
theorem cn_cg {b b' : Int → Bool} : ∀ {k : Nat}, (∀ i : Nat, i < k → b' i = b i) → cn b' k = cn b k := by
  intro k
  induction k with
  | zero => intro _; rfl
  | succ k ih =>
    intro h
    unfold cn
    rw [ih (fun i hi => h i (by omega)), h k (by omega)]
theorem cn_no {b : Int → Bool} {n : Nat} : ∀ {k : Nat}, (∀ i : Nat, n ≤ i → i < n + k → b i = false) → cn b (n + k) = cn b n := by
  intro k
  induction k with
  | zero => intro _; rfl
  | succ k ih =>
    intro h
    show cn b (n + k) + (if b ((n + k : Nat) : Int) = true then 1 else 0) = _
    rw [ih (fun i q1 q2 => h i q1 (by omega)), h (n + k) (by omega) (by omega)]
    simp
/-- the most that are alike -/
def mx3 (c : Int → Int) : Int := max (max (max 0 (c 0)) (c 1)) (c 2)
/-- the reading of a metre, out of the class's price -/
def wyC (v s : Int) : Int := v / 4 ^ (19 - s).toNat % 4
/-- what the class keeps of a metre -/
def BsR (cls : List Cl) (g : Int → Int) (rr k v : Int) : Prop := (bit1 rr k = 1 ∧ (0 ≤ v ∧ v < 1152921504606846976) ∧ ∃ x : T3, MtR g (80 + 402 * k) x ∧ Mn 1152921504606846976 (Rd (LnH 0 cls g) x.1 0) (ct (fC 0 cls g) 0) v) ∨ (bit1 rr k = 0 ∧ v = 1152921504606846976)
section
variable {X : zX} {d : Nat} {cls : List Cl}
/-- what can be as it was heard can be -/
theorem CbE.fit {g : Int → Int} {k : Int} (h : CbE cls g k) : TkE (LnH 0 cls g) g k := by
  obtain ⟨-, x, h1, h2⟩ := h
  refine ⟨x, h1, ?_⟩
  rw [← Rd_Gw] at h2 ⊢
  obtain ⟨vs, w, h3, h4⟩ := h2
  refine ⟨vs, w, h3, ?_⟩
  -- a wider line
  have mono : ∀ (w : List Int) (p : Int) (vs : List Int), tk (LnK (g 2) cls g) w p vs → tk (LnH 0 cls g) w p vs := by
    have key : ∀ (D D' : Int → List Int → Prop), (∀ p vs, D p vs → D' p vs) → ∀ (vs : List Int) (p : Int), elc (LnK (g 2) cls g) D p vs → elc (LnH 0 cls g) D' p vs := by
      intro D D' hD vs
      induction vs with
      | nil => intro p h; exact hD p [] h
      | cons v vs ih =>
        rintro p (h | ⟨e, h1, h2, h3⟩)
        · exact Or.inl (hD p _ h)
        · exact Or.inr ⟨e, h1, ⟨h2.1, h2.2.1, Or.inl h2.2.2.1⟩, ih (p + 1) h3⟩
    intro w
    induction w with
    | nil => intro p vs h; exact key _ _ (fun p vs h => h) vs p h
    | cons x w ih =>
      intro p vs h
      refine key _ _ (fun p vs h => ?_) vs p h
      rcases h with ⟨e, h1, h2⟩ | ⟨e, v, us, e2, h1, h2, h3, h4⟩
      · exact Or.inl ⟨e, h1, ih p vs h2⟩
      · exact Or.inr ⟨e, v, us, e2, h1, ⟨h2.1, h2.2.1, Or.inl h2.2.2.1⟩, h3, ih (p + 1) us h4⟩
  exact mono w 0 vs h4
/-- the class's best reading, its row of readings as it was -/
theorem x139k {S : zS} {m c : Int} (hm : 0 ≤ m ∧ m < gI S 74 1) (hd : 20 < d) (hI : Inv PM QL S) {o : Option Nat} (l1 : LawC S o cls) (l2 : LawR (gI S 74) c cls) (l3 : ∀ {cm cp : Nat} {L : zL} {st : List Value}, z_evc X d 78 [.ref 5, .int (Int32.ofInt c)] (cm, cp, L, st, mk S) = z_ev X d (cm, cp, L, lv o :: st, mk S)) {x : T3} {a : Nat} (e1 : gQ S 10 m = some a) (e2 : MetC S a x) : ∃ (S2 : zS) (v : Int), z_ev X d (z_entry 139 [.ref 4, .int (Int32.ofInt m), .int (Int32.ofInt c)] (mk S)) = some (some (.long (Int64.ofInt v)), mk S2) ∧ FrQc S S2 ∧ FxC S2 ∧ (0 ≤ v ∧ v ≤ 1152921504606846976) ∧ Mn 1152921504606846976 (Rd (LnH 0 cls (gI S 74)) x.1 0) (ct (fC 0 cls (gI S 74)) 0) v ∧ ∀ i, gJ S2 69 i = gJ S 69 i := by
  obtain ⟨b1, b2, b3⟩ := hI.1.2.1
  have hk := l2.1.1
  obtain ⟨S1, y1, y2, y3⟩ := look5 (X := X) (d0 := 9) (by omega) hI l1
  obtain ⟨S2, v, z1, z2, z3, z4, z5⟩ := least5 (X := X) (d0 := 9) (by omega) hI.1.gb hk y3 (hI.fxc.keep y2.2.2.1 y2.2.2.2) (e2.fa y2.1) (how := 0) (by omega)
  have c77 := fun {cm cp : Nat} {L : zL} {st : List Value} => c77a (X := X) (d := d) (by omega) (cm := cm) (cp := cp) (L := L) (st := st) m (S := S) (s := 5) st_5 (by omega) (by omega) e1
  have ev1 := fun {cm cp : Nat} {L : zL} {st : List Value} => evV (X := X) (d := d) (by omega) y1 (cm := cm) (cp := cp) (L := L) (st := st)
  have ev2 := fun {cm cp : Nat} {L : zL} {st : List Value} => evJ (X := X) (d := d) (by omega) z1 (cm := cm) (cp := cp) (L := L) (st := st)
  refine ⟨S2, v, ?_, y2.q.tr z2.q, z3, z4, z5, fun i => (z2.2.2.1 69 i (by omega)).trans (y2.2.2.1 69 i)⟩
  show z_ev X d (139, 0, [some (.ref 4), some (.int (Int32.ofInt m)), some (.int (Int32.ofInt c)), none], [], mk S) = _
  cases o with
  | none => simp (disch := first | omega | assumption | exact b01_rng _ | exact st_5 | exact st_12 | exact st_19 | (simp only [isSt_sI, isSt_sJ, isSt_sF, isSt_sG, isSt_sA]; assumption)) only [↓B139_0, ↓B139_8, ↓B139_17, ↓B139_33_ns0, ↓B139_36, ↓B139_45, ↓o_19, ↓o_5, ↓o_58, ↓r_4_0, ↓r_4_11, ↓o_5, ↓o_58, c77, l3, ev1, ev2, lv, i_lit, i_add, i_sub, i_mul, i_neg, i_lt, i_le, i_eq, i32_gI, i64_gJ, i32_id, i32_to, i64_to, sI_i32, sJ_i64, b01_t, b01_f, i32_b01, b01_0, ↓a_s0, ↓n_s0, ↓a_s1, ↓n_s1, Int.add_zero, t_lt, f_lt, t_le, f_le, t_eq, f_eq, true_and, and_true, false_and, and_false, and_self, ↓reduceIte, z_bool_of, or_true, true_or, or_false, false_or, Int.neg_neg, not_true_eq_false, not_false_eq_true, lg_lt, lg_le, lg_gt, lg_ge, lg_eq, j_lit, j_add, j_sub, j_mul, j_neg, j_eq, i64_id, ij, ji, z_rt, Nat.reduceEqDiff, Nat.reduceAdd, Int.reduceAdd, Int.reduceSub, Int.reduceMul, Int.reduceNeg, Int.reduceLT, Int.reduceLE, Int.reduceEq]
  | some b => simp (disch := first | omega | assumption | exact b01_rng _ | exact st_5 | exact st_12 | exact st_19 | (simp only [isSt_sI, isSt_sJ, isSt_sF, isSt_sG, isSt_sA]; assumption)) only [↓B139_0, ↓B139_8, ↓B139_17, ↓B139_33, ↓B139_36, ↓B139_45, ↓o_19, ↓o_5, ↓o_58, ↓r_4_0, ↓r_4_11, ↓o_5, ↓o_58, c77, l3, ev1, ev2, lv, i_lit, i_add, i_sub, i_mul, i_neg, i_lt, i_le, i_eq, i32_gI, i64_gJ, i32_id, i32_to, i64_to, sI_i32, sJ_i64, b01_t, b01_f, i32_b01, b01_0, ↓a_s0, ↓n_s0, ↓a_s1, ↓n_s1, Int.add_zero, t_lt, f_lt, t_le, f_le, t_eq, f_eq, true_and, and_true, false_and, and_false, and_self, ↓reduceIte, z_bool_of, or_true, true_or, or_false, false_or, Int.neg_neg, not_true_eq_false, not_false_eq_true, lg_lt, lg_le, lg_gt, lg_ge, lg_eq, j_lit, j_add, j_sub, j_mul, j_neg, j_eq, i64_id, ij, ji, z_rt, Nat.reduceEqDiff, Nat.reduceAdd, Int.reduceAdd, Int.reduceSub, Int.reduceMul, Int.reduceNeg, Int.reduceLT, Int.reduceLE, Int.reduceEq]
theorem Inv.qc {S S1 : zS} (h : Inv PM QL S) (hC : FrQc S S1) (hX : FxC S1) : Inv PM QL S1 := (h.qu good2.g hC hX FrQm.rf).1
/-- the law in force, and where it lies -/
def LwP (S : zS) (o : Option Nat) (cls : List Cl) (k : Int) : Prop := LawC S o cls ∧ ((k = -1 ∧ o = none) ∨ (0 ≤ k ∧ ∃ a, o = some a ∧ gQ S 11 k = some a))
theorem StRel.lawp {S : zS} {g : Int → Int} (h : StRel PM QL S 5 g) {k : Int} (hk : -1 ≤ k ∧ k < g 3) : ∃ (o : Option Nat) (cls : List Cl), LwP S o cls k ∧ LawR g k cls := by
  obtain ⟨-, -, -, a4, -, -, -, -, -, a10⟩ := h
  by_cases q : k = -1
  · subst q
    exact ⟨none, [], ⟨⟨fun _ h => (List.not_mem_nil h).elim, rfl⟩, Or.inl ⟨rfl, rfl⟩⟩, ⟨⟨fun _ h => (List.not_mem_nil h).elim, fun _ h => (List.not_mem_nil h).elim⟩, Or.inl ⟨rfl, rfl⟩⟩⟩
  · obtain ⟨a, e1, e2⟩ := a10 k (by omega) hk.2
    obtain ⟨cls, e3, e4, e5⟩ := QL_R e2
    exact ⟨some a, cls, ⟨e3, Or.inr ⟨by omega, a, rfl, e1⟩⟩, ⟨e5, Or.inr ⟨by omega, e4⟩⟩⟩
theorem LwP.fr {S S' : zS} {o : Option Nat} {cls : List Cl} {k : Int} (h : LwP S o cls k) (hF : FrQc S S') : LwP S' o cls k := by
  refine ⟨h.1.fr hF.1.1, ?_⟩
  rw [hF.2.2.2 11 k (by omega)]
  exact h.2
theorem LwP.c78 {S : zS} {o : Option Nat} {cls : List Cl} {k : Int} {g : Int → Int} (h : LwP S o cls k) (hR : StRel PM QL S 5 g) (hk : -1 ≤ k ∧ k < g 3) {X : zX} {d : Nat} (hd : 0 < d) {cm cp : Nat} {L : zL} {st : List Value} : z_evc X d 78 [.ref 5, .int (Int32.ofInt k)] (cm, cp, L, st, mk S) = z_ev X d (cm, cp, L, lv o :: st, mk S) := by
  have a4 := hR.2.2.2.1
  rcases h.2 with ⟨rfl, rfl⟩ | ⟨h0, a, rfl, e1⟩
  · exact c78b hd (-1) st_5 (by omega) (by omega) (by omega)
  · exact c78a hd k st_5 (by omega) (by omega) e1
abbrev L125a (w rr k : Int) : zL := [some (.ref 4), some (.int (Int32.ofInt w)), some (.int (Int32.ofInt rr)), some (.int (Int32.ofInt k)), none, none, none]
/-- the class keeps its best readings -/
theorem l125a (hd : 100 < d) {g : Int → Int} {w rr : Int} {o : Option Nat} (hf : FitR (CbE cls g) (g 1).toNat (Int32.ofInt rr)) (hg1 : 0 ≤ g 1 ∧ g 1 ≤ 6) (hL2 : LawR g (g 4) cls) : ∀ (c : Nat) (k : Int) (S : zS), k + c = 6 → 0 ≤ k → Inv PM QL S → gI S 74 = g → LwP S o cls (g 4) → (∀ j, 0 ≤ j → j < k → BsR cls g rr j (gJ S 69 j)) → ∃ S' : zS, z_ev X d (125, 22, L125a w rr k, [], mk S) = z_ev X d (125, 70, L125a w rr 6, [], mk S') ∧ FrQc S S' ∧ FxC S' ∧ ∀ j, 0 ≤ j → j < 6 → BsR cls g rr j (gJ S' 69 j) := by
  intro c
  induction c with
  | zero =>
    intro k S hc hk hI hg hl hJ
    have : k = 6 := by omega
    subst this
    refine ⟨S, ?_, FrQc.rf, hI.fxc, hJ⟩
    rw [B125_22]
    simp (disch := first | omega | assumption | exact b01_rng _ | exact st_5 | exact st_12 | exact st_19 | (simp only [isSt_sI, isSt_sJ, isSt_sF, isSt_sG, isSt_sA]; assumption)) only [↓a_69, ↓n_69, ↓o_4, ↓r_19_10, ↓r_19_6, ↓r_4_0, ↓r_4_13, ↓r_5_10, ↓r_5_6, ↓s_69, ↓n_69, i_lit, i_add, i_sub, i_mul, i_neg, i_lt, i_le, i_eq, i32_gI, i64_gJ, i32_id, i32_to, i64_to, sI_i32, sJ_i64, b01_t, b01_f, i32_b01, b01_0, ↓a_s0, ↓n_s0, ↓a_s1, ↓n_s1, Int.add_zero, t_lt, f_lt, t_le, f_le, t_eq, f_eq, true_and, and_true, false_and, and_false, and_self, ↓reduceIte, z_bool_of, or_true, true_or, or_false, false_or, Int.neg_neg, not_true_eq_false, not_false_eq_true, lg_lt, lg_le, lg_gt, lg_ge, lg_eq, j_lit, j_add, j_sub, j_mul, j_neg, j_eq, i64_id, ij, ji, z_rt, Nat.reduceEqDiff, Nat.reduceAdd, Int.reduceAdd, Int.reduceSub, Int.reduceMul, Int.reduceNeg, Int.reduceLT, Int.reduceLE, Int.reduceEq]
  | succ c ih =>
    intro k S hc hk hI hg hl hJ
    obtain ⟨f1, f2, f3⟩ := hI.1.2.2.2.2.1
    rw [hg] at f1 f2 f3
    have next : ∀ (S1 : zS) (v : Int), FrQc S S1 → FxC S1 → (∀ i, gJ S1 69 i = gJ S 69 i) → (0 ≤ v ∧ v ≤ 1152921504606846976) → BsR cls g rr k v → z_ev X d (125, 22, L125a w rr k, [], mk S) = z_ev X d (125, 22, L125a w rr (k + 1), [], mk (sJ S1 69 k v)) → ∃ S' : zS, z_ev X d (125, 22, L125a w rr k, [], mk S) = z_ev X d (125, 70, L125a w rr 6, [], mk S') ∧ FrQc S S' ∧ FxC S' ∧ ∀ j, 0 ≤ j → j < 6 → BsR cls g rr j (gJ S' 69 j) := fun S1 v hF hX h69 hv hB he => by
      have fJ : FrQc S1 (sJ S1 69 k v) := ⟨Dyn.sJ Dyn.rf, fun a i _ => by rw [gI_sJ], fun a i q1 q2 => by rw [gJ_sJ, if_neg (fun z => q2 z.1)], fun a i _ => by rw [gQ_sJ]⟩
      have xJ : FxC (sJ S1 69 k v) := by
        refine ⟨fun i q1 q2 => ?_, hX.2⟩
        rw [gJ_sJ, if_neg (by omega), gJ_sJ, if_neg (by omega)]
        exact hX.1 i q1 q2
      have hI1 := hI.qc (hF.tr fJ) xJ
      obtain ⟨S', e1, e2, e3, e4⟩ := ih (k + 1) (sJ S1 69 k v) (by omega) (by omega) hI1 (((hF.tr fJ).g).trans hg) (hl.fr (hF.tr fJ)) (fun j q1 q2 => by
        rw [gJ_sJ]
        by_cases e : j = k
        · subst e; rw [if_pos ⟨rfl, rfl⟩, i64_id (by omega) (by omega)]; exact hB
        · rw [if_neg (fun z => e z.2), h69]; exact hJ j q1 (by omega))
      exact ⟨S', by rw [he]; exact e1, (hF.tr fJ).tr e2, e3, e4⟩
    rcases hf.bit1 (by omega) (i := k) ⟨hk, by omega⟩ with ⟨z1, z2, z3⟩ | ⟨z1, z2⟩
    · have hkm : 0 ≤ k ∧ k < gI S 74 1 := by rw [hg]; omega
      obtain ⟨a, x, e1, e2, e3⟩ := hI.1.met hkm
      rw [hg] at e3
      have c78 := fun {cm cp : Nat} {L : zL} {st : List Value} => hl.c78 hI.1 (by rw [hg]; omega) (X := X) (d := 30) (by omega) (cm := cm) (cp := cp) (L := L) (st := st)
      obtain ⟨S1, v, w1, w2, w3, w4, w5, w6⟩ := x139k (X := X) (d := 30) (cls := cls) (c := g 4) hkm (by omega) hI hl.1 (by rw [hg]; exact hL2) c78 e1 e2
      rw [hg] at w5
      have ev1 := fun {cm cp : Nat} {L : zL} {st : List Value} => evJ (X := X) (d := d) (by omega) w1 (cm := cm) (cp := cp) (L := L) (st := st)
      have hlt : v < 1152921504606846976 := by
        rw [w5.lt, Rd_Gw]
        exact (TkE.of (E := LnH 0 cls g) e3).mp z3.fit
      refine next S1 v w2 w3 w6 w4 (Or.inl ⟨z1, ⟨w4.1, hlt⟩, x, e3, w5⟩) ?_
      rw [B125_22]
      simp (disch := first | omega | assumption | exact b01_rng _ | exact st_5 | exact st_12 | exact st_19 | (simp only [isSt_sI, isSt_sJ, isSt_sF, isSt_sG, isSt_sA]; assumption)) only [↓B125_31, ↓B125_45, ↓B125_57, ↓B125_63, ↓a_69, ↓n_69, ↓o_4, ↓r_19_10, ↓r_19_6, ↓r_4_0, ↓r_4_13, ↓r_5_10, ↓r_5_6, ↓s_69, ↓n_69, ↓s_69, ↓o_4, ↓r_5_10, f1, ev1, bit1_of, z1, i_lit, i_add, i_sub, i_mul, i_neg, i_lt, i_le, i_eq, i32_gI, i64_gJ, i32_id, i32_to, i64_to, sI_i32, sJ_i64, b01_t, b01_f, i32_b01, b01_0, ↓a_s0, ↓n_s0, ↓a_s1, ↓n_s1, Int.add_zero, t_lt, f_lt, t_le, f_le, t_eq, f_eq, true_and, and_true, false_and, and_false, and_self, ↓reduceIte, z_bool_of, or_true, true_or, or_false, false_or, Int.neg_neg, not_true_eq_false, not_false_eq_true, lg_lt, lg_le, lg_gt, lg_ge, lg_eq, j_lit, j_add, j_sub, j_mul, j_neg, j_eq, i64_id, ij, ji, z_rt, Nat.reduceEqDiff, Nat.reduceAdd, Int.reduceAdd, Int.reduceSub, Int.reduceMul, Int.reduceNeg, Int.reduceLT, Int.reduceLE, Int.reduceEq]
    · refine next S 1152921504606846976 FrQc.rf hI.fxc (fun _ => rfl) ⟨by omega, Int.le_refl _⟩ (Or.inr ⟨z1, rfl⟩) ?_
      rw [B125_22]
      simp (disch := first | omega | assumption | exact b01_rng _ | exact st_5 | exact st_12 | exact st_19 | (simp only [isSt_sI, isSt_sJ, isSt_sF, isSt_sG, isSt_sA]; assumption)) only [↓B125_31, ↓B125_60, ↓B125_63, ↓a_69, ↓n_69, ↓o_4, ↓r_19_10, ↓r_19_6, ↓r_4_0, ↓r_4_13, ↓r_5_10, ↓r_5_6, ↓s_69, ↓n_69, ↓s_69, bit1_of, z1, i_lit, i_add, i_sub, i_mul, i_neg, i_lt, i_le, i_eq, i32_gI, i64_gJ, i32_id, i32_to, i64_to, sI_i32, sJ_i64, b01_t, b01_f, i32_b01, b01_0, ↓a_s0, ↓n_s0, ↓a_s1, ↓n_s1, Int.add_zero, t_lt, f_lt, t_le, f_le, t_eq, f_eq, true_and, and_true, false_and, and_false, and_self, ↓reduceIte, z_bool_of, or_true, true_or, or_false, false_or, Int.neg_neg, not_true_eq_false, not_false_eq_true, lg_lt, lg_le, lg_gt, lg_ge, lg_eq, j_lit, j_add, j_sub, j_mul, j_neg, j_eq, i64_id, ij, ji, z_rt, Nat.reduceEqDiff, Nat.reduceAdd, Int.reduceAdd, Int.reduceSub, Int.reduceMul, Int.reduceNeg, Int.reduceLT, Int.reduceLE, Int.reduceEq]
/-- how many metres read s as v, as the class counts -/
def cbC (S : zS) (s v : Int) (k : Int) : Bool := decide (gJ S 69 k < 1152921504606846976 ∧ wyC (gJ S 69 k) s = v)
abbrev L141 (s most v : Int) (x4 x5 : Option Value) : zL := [some (.ref 4), some (.int (Int32.ofInt s)), some (.int (Int32.ofInt most)), some (.int (Int32.ofInt v)), x4, x5]
theorem l141i (hd : 0 < d) {S : zS} {s most v : Int} (hs : 0 ≤ s ∧ s < 20) (hv : 0 ≤ v ∧ v ≤ 2) (hJ : ∀ j, 0 ≤ j → j < 6 → 0 ≤ gJ S 69 j ∧ gJ S 69 j ≤ 1152921504606846976) : ∀ (c k : Nat), k + c = 6 → z_ev X d (141, 15, L141 s most v (vI (cn (cbC S s v) k)) (vI k), [], mk S) = z_ev X d (141, 63, L141 s most v (vI (cn (cbC S s v) 6)) (vI 6), [], mk S) := by
  intro c
  induction c with
  | zero =>
    intro k hc
    have : k = 6 := by omega
    subst this
    rw [show (((6 : Nat) : Int)) = 6 from rfl, B141_15]
    simp (disch := first | omega | assumption | exact b01_rng _ | exact st_5 | exact st_12 | exact st_19 | (simp only [isSt_sI, isSt_sJ, isSt_sF, isSt_sG, isSt_sA]; assumption)) only [↓a_69, ↓n_69, ↓r_4_13, ↓s_69, ↓n_69, i_lit, i_add, i_sub, i_mul, i_neg, i_lt, i_le, i_eq, i32_gI, i64_gJ, i32_id, i32_to, i64_to, sI_i32, sJ_i64, b01_t, b01_f, i32_b01, b01_0, ↓a_s0, ↓n_s0, ↓a_s1, ↓n_s1, Int.add_zero, t_lt, f_lt, t_le, f_le, t_eq, f_eq, true_and, and_true, false_and, and_false, and_self, ↓reduceIte, z_bool_of, or_true, true_or, or_false, false_or, Int.neg_neg, not_true_eq_false, not_false_eq_true, lg_lt, lg_le, lg_gt, lg_ge, lg_eq, j_lit, j_add, j_sub, j_mul, j_neg, j_eq, i64_id, ij, ji, z_rt, Nat.reduceEqDiff, Nat.reduceAdd, Int.reduceAdd, Int.reduceSub, Int.reduceMul, Int.reduceNeg, Int.reduceLT, Int.reduceLE, Int.reduceEq]
  | succ c ih =>
    intro k hc
    have hcb := cn_b (cbC S s v) k
    have hj := hJ k (by omega) (by omega)
    have e := ih (k + 1) (by omega)
    have e1 : ((k + 1 : Nat) : Int) = (k : Int) + 1 := by omega
    rw [e1] at e
    by_cases q : gJ S 69 k < 1152921504606846976
    · have c61' := fun {cm cp : Nat} {L : zL} {st : List Value} => c61 (X := X) (d := d) hd (cm := cm) (cp := cp) (L := L) (st := st) (S := S) (gJ S 69 k) s ⟨hj.1, q⟩ hs
      have hw : 0 ≤ wyC (gJ S 69 k) s ∧ wyC (gJ S 69 k) s < 4 := by unfold wyC; omega
      rw [show gJ S 69 k / 4 ^ (19 - s).toNat % 4 = wyC (gJ S 69 k) s from rfl] at c61'
      by_cases q2 : wyC (gJ S 69 k) s = v
      · have h1 : cn (cbC S s v) (k + 1) = cn (cbC S s v) k + 1 := by
          show cn (cbC S s v) k + (if cbC S s v k = true then 1 else 0) = _
          rw [show cbC S s v k = true from decide_eq_true ⟨q, q2⟩, if_pos rfl]
        rw [h1] at e
        rw [← e, B141_15]
        simp (disch := first | omega | assumption | exact b01_rng _ | exact st_5 | exact st_12 | exact st_19 | (simp only [isSt_sI, isSt_sJ, isSt_sF, isSt_sG, isSt_sA]; assumption)) only [↓B141_25, ↓B141_39, ↓B141_50, ↓B141_54, ↓B141_57, ↓a_69, ↓n_69, ↓r_4_13, ↓s_69, ↓n_69, ↓a_69, c61', q2, i_lit, i_add, i_sub, i_mul, i_neg, i_lt, i_le, i_eq, i32_gI, i64_gJ, i32_id, i32_to, i64_to, sI_i32, sJ_i64, b01_t, b01_f, i32_b01, b01_0, ↓a_s0, ↓n_s0, ↓a_s1, ↓n_s1, Int.add_zero, t_lt, f_lt, t_le, f_le, t_eq, f_eq, true_and, and_true, false_and, and_false, and_self, ↓reduceIte, z_bool_of, or_true, true_or, or_false, false_or, Int.neg_neg, not_true_eq_false, not_false_eq_true, lg_lt, lg_le, lg_gt, lg_ge, lg_eq, j_lit, j_add, j_sub, j_mul, j_neg, j_eq, i64_id, ij, ji, z_rt, Nat.reduceEqDiff, Nat.reduceAdd, Int.reduceAdd, Int.reduceSub, Int.reduceMul, Int.reduceNeg, Int.reduceLT, Int.reduceLE, Int.reduceEq]
      · have h1 : cn (cbC S s v) (k + 1) = cn (cbC S s v) k := by
          show cn (cbC S s v) k + (if cbC S s v k = true then 1 else 0) = _
          rw [show cbC S s v k = false from decide_eq_false (fun z => q2 z.2)]
          simp
        rw [h1] at e
        rw [← e, B141_15]
        simp (disch := first | omega | assumption | exact b01_rng _ | exact st_5 | exact st_12 | exact st_19 | (simp only [isSt_sI, isSt_sJ, isSt_sF, isSt_sG, isSt_sA]; assumption)) only [↓B141_25, ↓B141_39, ↓B141_50, ↓B141_57, ↓a_69, ↓n_69, ↓r_4_13, ↓s_69, ↓n_69, ↓a_69, c61', q2, i_lit, i_add, i_sub, i_mul, i_neg, i_lt, i_le, i_eq, i32_gI, i64_gJ, i32_id, i32_to, i64_to, sI_i32, sJ_i64, b01_t, b01_f, i32_b01, b01_0, ↓a_s0, ↓n_s0, ↓a_s1, ↓n_s1, Int.add_zero, t_lt, f_lt, t_le, f_le, t_eq, f_eq, true_and, and_true, false_and, and_false, and_self, ↓reduceIte, z_bool_of, or_true, true_or, or_false, false_or, Int.neg_neg, not_true_eq_false, not_false_eq_true, lg_lt, lg_le, lg_gt, lg_ge, lg_eq, j_lit, j_add, j_sub, j_mul, j_neg, j_eq, i64_id, ij, ji, z_rt, Nat.reduceEqDiff, Nat.reduceAdd, Int.reduceAdd, Int.reduceSub, Int.reduceMul, Int.reduceNeg, Int.reduceLT, Int.reduceLE, Int.reduceEq]
    · have h1 : cn (cbC S s v) (k + 1) = cn (cbC S s v) k := by
        show cn (cbC S s v) k + (if cbC S s v k = true then 1 else 0) = _
        rw [show cbC S s v k = false from decide_eq_false (fun z => q z.1)]
        simp
      rw [h1] at e
      rw [← e, B141_15]
      simp (disch := first | omega | assumption | exact b01_rng _ | exact st_5 | exact st_12 | exact st_19 | (simp only [isSt_sI, isSt_sJ, isSt_sF, isSt_sG, isSt_sA]; assumption)) only [↓B141_25, ↓B141_57, ↓a_69, ↓n_69, ↓r_4_13, ↓s_69, ↓n_69, ↓a_69, i_lit, i_add, i_sub, i_mul, i_neg, i_lt, i_le, i_eq, i32_gI, i64_gJ, i32_id, i32_to, i64_to, sI_i32, sJ_i64, b01_t, b01_f, i32_b01, b01_0, ↓a_s0, ↓n_s0, ↓a_s1, ↓n_s1, Int.add_zero, t_lt, f_lt, t_le, f_le, t_eq, f_eq, true_and, and_true, false_and, and_false, and_self, ↓reduceIte, z_bool_of, or_true, true_or, or_false, false_or, Int.neg_neg, not_true_eq_false, not_false_eq_true, lg_lt, lg_le, lg_gt, lg_ge, lg_eq, j_lit, j_add, j_sub, j_mul, j_neg, j_eq, i64_id, ij, ji, z_rt, Nat.reduceEqDiff, Nat.reduceAdd, Int.reduceAdd, Int.reduceSub, Int.reduceMul, Int.reduceNeg, Int.reduceLT, Int.reduceLE, Int.reduceEq]
theorem t141 (hd : 0 < d) {S : zS} {s most v : Int} (hs : 0 ≤ s ∧ s < 20) (hv : 0 ≤ v ∧ v ≤ 2) (hm : 0 ≤ most ∧ most ≤ 6) (hJ : ∀ j, 0 ≤ j → j < 6 → 0 ≤ gJ S 69 j ∧ gJ S 69 j ≤ 1152921504606846976) {x4 x5 : Option Value} : z_ev X d (141, 4, L141 s most v x4 x5, [], mk S) = z_ev X d (141, 4, L141 s (max most (cn (cbC S s v) 6)) (v + 1) (vI (cn (cbC S s v) 6)) (vI 6), [], mk S) := by
  have hcb := cn_b (cbC S s v) 6
  have e := l141i (X := X) (d := d) (most := most) hd hs hv hJ 6 0 (by omega)
  have c272' := fun {cm cp : Nat} {L : zL} {st : List Value} => c272 (X := X) (d := d) hd (cm := cm) (cp := cp) (L := L) (st := st) (S := S) most (cn (cbC S s v) 6) (by omega) (by omega)
  have a1 : z_ev X d (141, 4, L141 s most v x4 x5, [], mk S) = z_ev X d (141, 15, L141 s most v (vI (cn (cbC S s v) 0)) (vI ((0 : Nat) : Int)), [], mk S) := by
    rw [show cn (cbC S s v) 0 = 0 from rfl, show (((0 : Nat) : Int)) = 0 from rfl, B141_4]
    simp (disch := first | omega | assumption | exact b01_rng _ | exact st_5 | exact st_12 | exact st_19 | (simp only [isSt_sI, isSt_sJ, isSt_sF, isSt_sG, isSt_sA]; assumption)) only [↓B141_9, i_lit, i_add, i_sub, i_mul, i_neg, i_lt, i_le, i_eq, i32_gI, i64_gJ, i32_id, i32_to, i64_to, sI_i32, sJ_i64, b01_t, b01_f, i32_b01, b01_0, ↓a_s0, ↓n_s0, ↓a_s1, ↓n_s1, Int.add_zero, t_lt, f_lt, t_le, f_le, t_eq, f_eq, true_and, and_true, false_and, and_false, and_self, ↓reduceIte, z_bool_of, or_true, true_or, or_false, false_or, Int.neg_neg, not_true_eq_false, not_false_eq_true, lg_lt, lg_le, lg_gt, lg_ge, lg_eq, j_lit, j_add, j_sub, j_mul, j_neg, j_eq, i64_id, ij, ji, z_rt, Nat.reduceEqDiff, Nat.reduceAdd, Int.reduceAdd, Int.reduceSub, Int.reduceMul, Int.reduceNeg, Int.reduceLT, Int.reduceLE, Int.reduceEq]
  rw [a1, e]
  simp (disch := first | omega | assumption | exact b01_rng _ | exact st_5 | exact st_12 | exact st_19 | (simp only [isSt_sI, isSt_sJ, isSt_sF, isSt_sG, isSt_sA]; assumption)) only [↓B141_63, ↓B141_69, c272', i_lit, i_add, i_sub, i_mul, i_neg, i_lt, i_le, i_eq, i32_gI, i64_gJ, i32_id, i32_to, i64_to, sI_i32, sJ_i64, b01_t, b01_f, i32_b01, b01_0, ↓a_s0, ↓n_s0, ↓a_s1, ↓n_s1, Int.add_zero, t_lt, f_lt, t_le, f_le, t_eq, f_eq, true_and, and_true, false_and, and_false, and_self, ↓reduceIte, z_bool_of, or_true, true_or, or_false, false_or, Int.neg_neg, not_true_eq_false, not_false_eq_true, lg_lt, lg_le, lg_gt, lg_ge, lg_eq, j_lit, j_add, j_sub, j_mul, j_neg, j_eq, i64_id, ij, ji, z_rt, Nat.reduceEqDiff, Nat.reduceAdd, Int.reduceAdd, Int.reduceSub, Int.reduceMul, Int.reduceNeg, Int.reduceLT, Int.reduceLE, Int.reduceEq]
theorem x141 (hd : 0 < d) {S : zS} {s : Int} (hs : 0 ≤ s ∧ s < 20) (hJ : ∀ j, 0 ≤ j → j < 6 → 0 ≤ gJ S 69 j ∧ gJ S 69 j ≤ 1152921504606846976) : z_ev X d (z_entry 141 [.ref 4, .int (Int32.ofInt s)] (mk S)) = some (vI (mx3 (fun v => cn (cbC S s v) 6)), mk S) := by
  have h0 := cn_b (cbC S s 0) 6
  have h1 := cn_b (cbC S s 1) 6
  have h2 := cn_b (cbC S s 2) 6
  have a0 : z_ev X d (z_entry 141 [.ref 4, .int (Int32.ofInt s)] (mk S)) = z_ev X d (141, 4, L141 s 0 0 none none, [], mk S) := by
    show z_ev X d (141, 0, [some (.ref 4), some (.int (Int32.ofInt s)), none, none, none, none], [], mk S) = _
    simp (disch := first | omega | assumption | exact b01_rng _ | exact st_5 | exact st_12 | exact st_19 | (simp only [isSt_sI, isSt_sJ, isSt_sF, isSt_sG, isSt_sA]; assumption)) only [↓B141_0, i_lit, i_add, i_sub, i_mul, i_neg, i_lt, i_le, i_eq, i32_gI, i64_gJ, i32_id, i32_to, i64_to, sI_i32, sJ_i64, b01_t, b01_f, i32_b01, b01_0, ↓a_s0, ↓n_s0, ↓a_s1, ↓n_s1, Int.add_zero, t_lt, f_lt, t_le, f_le, t_eq, f_eq, true_and, and_true, false_and, and_false, and_self, ↓reduceIte, z_bool_of, or_true, true_or, or_false, false_or, Int.neg_neg, not_true_eq_false, not_false_eq_true, lg_lt, lg_le, lg_gt, lg_ge, lg_eq, j_lit, j_add, j_sub, j_mul, j_neg, j_eq, i64_id, ij, ji, z_rt, Nat.reduceEqDiff, Nat.reduceAdd, Int.reduceAdd, Int.reduceSub, Int.reduceMul, Int.reduceNeg, Int.reduceLT, Int.reduceLE, Int.reduceEq]
  rw [a0, t141 hd hs (by omega) (by omega) hJ, show (0 : Int) + 1 = 1 from rfl, t141 hd hs (by omega) (by omega) hJ, show (1 : Int) + 1 = 2 from rfl, t141 hd hs (by omega) (by omega) hJ, show (2 : Int) + 1 = 3 from rfl, B141_4]
  unfold mx3
  simp (disch := first | omega | assumption | exact b01_rng _ | exact st_5 | exact st_12 | exact st_19 | (simp only [isSt_sI, isSt_sJ, isSt_sF, isSt_sG, isSt_sA]; assumption)) only [↓B141_76, i_lit, i_add, i_sub, i_mul, i_neg, i_lt, i_le, i_eq, i32_gI, i64_gJ, i32_id, i32_to, i64_to, sI_i32, sJ_i64, b01_t, b01_f, i32_b01, b01_0, ↓a_s0, ↓n_s0, ↓a_s1, ↓n_s1, Int.add_zero, t_lt, f_lt, t_le, f_le, t_eq, f_eq, true_and, and_true, false_and, and_false, and_self, ↓reduceIte, z_bool_of, or_true, true_or, or_false, false_or, Int.neg_neg, not_true_eq_false, not_false_eq_true, lg_lt, lg_le, lg_gt, lg_ge, lg_eq, j_lit, j_add, j_sub, j_mul, j_neg, j_eq, i64_id, ij, ji, z_rt, Nat.reduceEqDiff, Nat.reduceAdd, Int.reduceAdd, Int.reduceSub, Int.reduceMul, Int.reduceNeg, Int.reduceLT, Int.reduceLE, Int.reduceEq]
/-- the first of the least -/
def lsn (f : Int → Int) : Nat → Int × Int
  | 0 => (-1, -1)
  | k + 1 => if (lsn f k).1 = -1 ∨ f k < (lsn f k).2 then ((k : Int), f k) else lsn f k
theorem lsn_b (f : Int → Int) (hf : ∀ i, 0 ≤ f i ∧ f i ≤ 6) : ∀ k : Nat, (k = 0 ∧ lsn f k = (-1, -1)) ∨ (0 < k ∧ 0 ≤ (lsn f k).1 ∧ (lsn f k).1 < k ∧ 0 ≤ (lsn f k).2 ∧ (lsn f k).2 ≤ 6) := by
  intro k
  induction k with
  | zero => exact Or.inl ⟨rfl, rfl⟩
  | succ k ih =>
    have hk := hf k
    right
    unfold lsn
    split
    · refine ⟨by omega, ?_, ?_, ?_, ?_⟩ <;> show _ <;> simp only [] <;> omega
    · next h =>
      rcases ih with ⟨-, z⟩ | z
      · rw [z] at h; exact absurd (Or.inl rfl) h
      · omega
theorem mx3_b (c : Int → Int) (h : ∀ v, 0 ≤ c v ∧ c v ≤ 6) : 0 ≤ mx3 c ∧ mx3 c ≤ 6 := by
  have := h 0; have := h 1; have := h 2
  unfold mx3; omega
abbrev L125b (w rr wh lf p : Int) (x6 : Option Value) : zL := [some (.ref 4), some (.int (Int32.ofInt w)), some (.int (Int32.ofInt rr)), some (.int (Int32.ofInt wh)), some (.int (Int32.ofInt lf)), some (.int (Int32.ofInt p)), x6]
theorem l125b (hd : 1 < d) {S : zS} {n : Int} {w rr : Int} (hw : 0 ≤ w ∧ w ≤ 1) (h6 : gI S 5 6 = n) (hn : 0 ≤ n ∧ n ≤ 20) (hJ : ∀ j, 0 ≤ j → j < 6 → 0 ≤ gJ S 69 j ∧ gJ S 69 j ≤ 1152921504606846976) : ∀ (c k : Nat) (x6 : Option Value), (k : Int) + c = n → z_ev X d (125, 78, L125b w rr (lsn (fun s => mx3 (fun v => cn (cbC S s v) 6)) k).1 (lsn (fun s => mx3 (fun v => cn (cbC S s v) 6)) k).2 k x6, [], mk S) = some (vI (if w = 0 then (lsn (fun s => mx3 (fun v => cn (cbC S s v) 6)) n.toNat).1 else (lsn (fun s => mx3 (fun v => cn (cbC S s v) 6)) n.toNat).2), mk S) := by
  have hfb : ∀ i : Int, 0 ≤ (fun s => mx3 (fun v => cn (cbC S s v) 6)) i ∧ (fun s => mx3 (fun v => cn (cbC S s v) 6)) i ≤ 6 := fun i => mx3_b _ (fun v => by have := cn_b (cbC S i v) 6; exact ⟨this.1, this.2⟩)
  have hx : ∀ k : Nat, (k : Int) < n → z_ev X 1 (z_entry 141 [.ref 4, .int (Int32.ofInt (k : Int))] (mk S)) = some (vI ((fun s => mx3 (fun v => cn (cbC S s v) 6)) (k : Int)), mk S) := fun k hk => x141 (X := X) (d := 1) (by omega) (by omega) hJ
  generalize (fun s => mx3 (fun v => cn (cbC S s v) 6)) = f at hfb hx ⊢
  intro c
  induction c with
  | zero =>
    intro k x6 hc
    have e : n.toNat = k := by omega
    have hl := lsn_b f hfb k
    rw [e, B125_78]
    generalize lsn f k = pr at hl ⊢
    obtain ⟨a, b⟩ := pr
    simp only [Prod.mk.injEq] at hl
    by_cases q : w = 0
    · rw [if_pos q]
      simp (disch := first | omega | assumption | exact b01_rng _ | exact st_5 | exact st_12 | exact st_19 | (simp only [isSt_sI, isSt_sJ, isSt_sF, isSt_sG, isSt_sA]; assumption)) only [↓B125_123, ↓B125_127, ↓B125_133, ↓a_69, ↓n_69, ↓o_4, ↓r_19_10, ↓r_19_6, ↓r_4_0, ↓r_4_13, ↓r_5_10, ↓r_5_6, ↓s_69, ↓r_5_6, h6, q, i_lit, i_add, i_sub, i_mul, i_neg, i_lt, i_le, i_eq, i32_gI, i64_gJ, i32_id, i32_to, i64_to, sI_i32, sJ_i64, b01_t, b01_f, i32_b01, b01_0, ↓a_s0, ↓n_s0, ↓a_s1, ↓n_s1, Int.add_zero, t_lt, f_lt, t_le, f_le, t_eq, f_eq, true_and, and_true, false_and, and_false, and_self, ↓reduceIte, z_bool_of, or_true, true_or, or_false, false_or, Int.neg_neg, not_true_eq_false, not_false_eq_true, lg_lt, lg_le, lg_gt, lg_ge, lg_eq, j_lit, j_add, j_sub, j_mul, j_neg, j_eq, i64_id, ij, ji, z_rt, Nat.reduceEqDiff, Nat.reduceAdd, Int.reduceAdd, Int.reduceSub, Int.reduceMul, Int.reduceNeg, Int.reduceLT, Int.reduceLE, Int.reduceEq]
    · rw [if_neg q]
      simp (disch := first | omega | assumption | exact b01_rng _ | exact st_5 | exact st_12 | exact st_19 | (simp only [isSt_sI, isSt_sJ, isSt_sF, isSt_sG, isSt_sA]; assumption)) only [↓B125_123, ↓B125_131, ↓B125_133, ↓a_69, ↓n_69, ↓o_4, ↓r_19_10, ↓r_19_6, ↓r_4_0, ↓r_4_13, ↓r_5_10, ↓r_5_6, ↓s_69, ↓r_5_6, h6, q, i_lit, i_add, i_sub, i_mul, i_neg, i_lt, i_le, i_eq, i32_gI, i64_gJ, i32_id, i32_to, i64_to, sI_i32, sJ_i64, b01_t, b01_f, i32_b01, b01_0, ↓a_s0, ↓n_s0, ↓a_s1, ↓n_s1, Int.add_zero, t_lt, f_lt, t_le, f_le, t_eq, f_eq, true_and, and_true, false_and, and_false, and_self, ↓reduceIte, z_bool_of, or_true, true_or, or_false, false_or, Int.neg_neg, not_true_eq_false, not_false_eq_true, lg_lt, lg_le, lg_gt, lg_ge, lg_eq, j_lit, j_add, j_sub, j_mul, j_neg, j_eq, i64_id, ij, ji, z_rt, Nat.reduceEqDiff, Nat.reduceAdd, Int.reduceAdd, Int.reduceSub, Int.reduceMul, Int.reduceNeg, Int.reduceLT, Int.reduceLE, Int.reduceEq]
  | succ c ih =>
    intro k x6 hc
    have hl := lsn_b f hfb k
    have hk := hfb (k : Int)
    have ev := fun {cm cp : Nat} {L : zL} {st : List Value} => evI (X := X) (d := d) hd (hx k (by omega)) (cm := cm) (cp := cp) (L := L) (st := st)
    have e := ih (k + 1) (vI (f k)) (by omega)
    rw [show ((k + 1 : Nat) : Int) = (k : Int) + 1 by omega] at e
    rw [← e, B125_78]
    have eu : lsn f (k + 1) = if (lsn f k).1 = -1 ∨ f k < (lsn f k).2 then ((k : Int), f k) else lsn f k := rfl
    rw [eu]
    generalize lsn f k = pr at hl ⊢
    obtain ⟨a, b⟩ := pr
    simp only [Prod.mk.injEq] at hl
    by_cases q1 : a = -1
    · rw [if_pos (Or.inl q1)]
      simp (disch := first | omega | assumption | exact b01_rng _ | exact st_5 | exact st_12 | exact st_19 | (simp only [isSt_sI, isSt_sJ, isSt_sF, isSt_sG, isSt_sA]; assumption)) only [↓B125_90, ↓B125_96, ↓B125_110, ↓B125_117, ↓a_69, ↓n_69, ↓o_4, ↓r_19_10, ↓r_19_6, ↓r_4_0, ↓r_4_13, ↓r_5_10, ↓r_5_6, ↓s_69, ↓r_5_6, ↓o_4, h6, ev, q1, i_lit, i_add, i_sub, i_mul, i_neg, i_lt, i_le, i_eq, i32_gI, i64_gJ, i32_id, i32_to, i64_to, sI_i32, sJ_i64, b01_t, b01_f, i32_b01, b01_0, ↓a_s0, ↓n_s0, ↓a_s1, ↓n_s1, Int.add_zero, t_lt, f_lt, t_le, f_le, t_eq, f_eq, true_and, and_true, false_and, and_false, and_self, ↓reduceIte, z_bool_of, or_true, true_or, or_false, false_or, Int.neg_neg, not_true_eq_false, not_false_eq_true, lg_lt, lg_le, lg_gt, lg_ge, lg_eq, j_lit, j_add, j_sub, j_mul, j_neg, j_eq, i64_id, ij, ji, z_rt, Nat.reduceEqDiff, Nat.reduceAdd, Int.reduceAdd, Int.reduceSub, Int.reduceMul, Int.reduceNeg, Int.reduceLT, Int.reduceLE, Int.reduceEq]
    · by_cases q2 : f k < b
      · rw [if_pos (Or.inr q2)]
        simp (disch := first | omega | assumption | exact b01_rng _ | exact st_5 | exact st_12 | exact st_19 | (simp only [isSt_sI, isSt_sJ, isSt_sF, isSt_sG, isSt_sA]; assumption)) only [↓B125_90, ↓B125_96, ↓B125_103, ↓B125_110, ↓B125_117, ↓a_69, ↓n_69, ↓o_4, ↓r_19_10, ↓r_19_6, ↓r_4_0, ↓r_4_13, ↓r_5_10, ↓r_5_6, ↓s_69, ↓r_5_6, ↓o_4, h6, ev, q1, i_lit, i_add, i_sub, i_mul, i_neg, i_lt, i_le, i_eq, i32_gI, i64_gJ, i32_id, i32_to, i64_to, sI_i32, sJ_i64, b01_t, b01_f, i32_b01, b01_0, ↓a_s0, ↓n_s0, ↓a_s1, ↓n_s1, Int.add_zero, t_lt, f_lt, t_le, f_le, t_eq, f_eq, true_and, and_true, false_and, and_false, and_self, ↓reduceIte, z_bool_of, or_true, true_or, or_false, false_or, Int.neg_neg, not_true_eq_false, not_false_eq_true, lg_lt, lg_le, lg_gt, lg_ge, lg_eq, j_lit, j_add, j_sub, j_mul, j_neg, j_eq, i64_id, ij, ji, z_rt, Nat.reduceEqDiff, Nat.reduceAdd, Int.reduceAdd, Int.reduceSub, Int.reduceMul, Int.reduceNeg, Int.reduceLT, Int.reduceLE, Int.reduceEq]
      · rw [if_neg (fun z => by rcases z with z | z; exact q1 z; exact q2 z)]
        simp (disch := first | omega | assumption | exact b01_rng _ | exact st_5 | exact st_12 | exact st_19 | (simp only [isSt_sI, isSt_sJ, isSt_sF, isSt_sG, isSt_sA]; assumption)) only [↓B125_90, ↓B125_96, ↓B125_103, ↓B125_117, ↓a_69, ↓n_69, ↓o_4, ↓r_19_10, ↓r_19_6, ↓r_4_0, ↓r_4_13, ↓r_5_10, ↓r_5_6, ↓s_69, ↓r_5_6, ↓o_4, h6, ev, q1, i_lit, i_add, i_sub, i_mul, i_neg, i_lt, i_le, i_eq, i32_gI, i64_gJ, i32_id, i32_to, i64_to, sI_i32, sJ_i64, b01_t, b01_f, i32_b01, b01_0, ↓a_s0, ↓n_s0, ↓a_s1, ↓n_s1, Int.add_zero, t_lt, f_lt, t_le, f_le, t_eq, f_eq, true_and, and_true, false_and, and_false, and_self, ↓reduceIte, z_bool_of, or_true, true_or, or_false, false_or, Int.neg_neg, not_true_eq_false, not_false_eq_true, lg_lt, lg_le, lg_gt, lg_ge, lg_eq, j_lit, j_add, j_sub, j_mul, j_neg, j_eq, i64_id, ij, ji, z_rt, Nat.reduceEqDiff, Nat.reduceAdd, Int.reduceAdd, Int.reduceSub, Int.reduceMul, Int.reduceNeg, Int.reduceLT, Int.reduceLE, Int.reduceEq]
end
