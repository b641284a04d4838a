/-! ORDERS: kinds of clauses, words -/
def OrK (cl : Cl) : Prop := (cl.1 = 276 ∨ cl.1 = 278 ∨ cl.1 = 279 ∨ cl.1 = 280) ∧ (cl.1 ≠ 276 → cl.2.2.2.1 = none) ∧ (cl.1 = 280 → cl.2.2.1 = none)
theorem pClause_o {c v : Nat → Int} {Sm Ts : Rdr} {p p' : Nat × Int} {t t' : Nat} {cl : Cl} (h : pClause c v 1 Sm Ts p t = .inr (cl, p', t')) : OrK cl := by
  unfold pClause at h
  split at h
  · next hk =>
    have hk' : c t = 276 ∨ c t = 278 ∨ c t = 279 ∨ c t = 280 := by
      unfold knw at hk
      simp only [Int.reduceEq, ↓reduceIte, decide_eq_true_eq, Bool.and_eq_true, ne_eq] at hk
      omega
    split at h
    · cases h
    · next s p1 t1 hs =>
      split at h
      · cases h
      · next u p2 t2 hu =>
        split at h
        · cases h
        · split at h
          · cases h
          · cases h
            refine ⟨hk', fun q => ?_, fun q => ?_⟩
            · have q' : c t ≠ 276 := q
              unfold pSt2 at hu
              rw [if_neg q'] at hu
              cases hu; rfl
            · have q' : c t = 280 := q
              unfold pSt1 at hs
              rw [q', if_neg (show ¬ hasS 280 = true from by decide)] at hs
              cases hs; rfl
  · cases h
theorem pText_p {R : Cl → Prop} {c : Nat → Int} {Cs : Nat × Int → Nat → pC} (hC : ∀ p t cl p' t', Cs p t = .inr (cl, p', t') → R cl) : ∀ (m : Nat) (acc : List Cl) (p : Nat × Int) (t : Nat) (cls : List Cl) (p' : Nat × Int), (∀ cl ∈ acc, R cl) → pText c Cs m acc p t = .inr (cls, p') → ∀ cl ∈ cls, R cl := by
  intro m
  induction m with
  | zero => intro acc p t cls p' _ h; cases h
  | succ m ih =>
    intro acc p t cls p' ha h
    unfold pText at h
    split at h
    · cases h
    · next cl p1 t1 hc =>
      have hb : ∀ x ∈ acc ++ [cl], R x := fun x hx => by
        rcases List.mem_append.mp hx with q | q
        · exact ha x q
        · rw [List.mem_singleton.mp q]; exact hC _ _ _ _ _ hc
      split at h
      · exact ih _ _ _ _ _ hb h
      · split at h
        · cases h; exact hb
        · cases h
theorem pTx_o {b : Int → Int} {n : Int} {cls : List Cl} {p : Nat × Int} (h : pTx b n 1 = .inr (cls, p)) : ∀ cl ∈ cls, OrK cl := by
  unfold pTx at h
  exact pText_p (fun _ _ _ _ _ h => pClause_o h) _ _ _ _ _ _ (fun _ hx => by cases hx) h
/-- what words of orders tell -/
def ordW (g : Int → Int) (done latest : Int) (F : Int → Int) (i : Int) : Int := if i = 0 then g 5 else if i = 1 then done else if i = 2 then latest else if i = 3 then g 0 else if 4 ≤ i ∧ i < 24 then (if i - 4 < g 0 then g (8 + (i - 4)) else -1) else if 24 ≤ i ∧ i < 30 then (if i - 24 < g 1 then F (i - 24) else -1) else 0
theorem ordW_w {g : Int → Int} {done latest : Int} {F : Int → Int} {i : Int} (h : 4 ≤ i ∧ i < 24) : ordW g done latest F i = if i - 4 < g 0 then g (8 + (i - 4)) else -1 := by
  unfold ordW
  rw [if_neg (show ¬ i = 0 by omega), if_neg (show ¬ i = 1 by omega), if_neg (show ¬ i = 2 by omega), if_neg (show ¬ i = 3 by omega), if_pos h]
theorem ordW_s {g : Int → Int} {done latest : Int} {F : Int → Int} {i : Int} (h : 24 ≤ i ∧ i < 30) : ordW g done latest F i = if i - 24 < g 1 then F (i - 24) else -1 := by
  unfold ordW
  rw [if_neg (show ¬ i = 0 by omega), if_neg (show ¬ i = 1 by omega), if_neg (show ¬ i = 2 by omega), if_neg (show ¬ i = 3 by omega), if_neg (show ¬ (4 ≤ i ∧ i < 24) by omega), if_pos h]
theorem ordW_b {g : Int → Int} {done latest : Int} {F : Int → Int} (hG : GB g) (hd : 0 ≤ done ∧ done ≤ 240) (hl : -1 ≤ latest ∧ latest ≤ 6) (hF : ∀ k, 0 ≤ F k ∧ F k ≤ 1) : WB (ordW g done latest F) := by
  intro i
  have g0 := hG.1
  have g5 := hG.2.1
  unfold ordW
  split
  · omega
  split
  · omega
  split
  · omega
  split
  · omega
  split
  · next h =>
    have := (hG.2.2.2 (i - 4) (by omega) (by omega)).1
    split <;> omega
  split
  · have := hF (i - 24)
    split <;> omega
  · omega
/-- which metres take the line, where it is asked -/
def FOK (asks : Int) (g F : Int → Int) : Prop := (∀ k, 0 ≤ F k ∧ F k ≤ 1) ∧ (asks = 1 → ∃ (cls : List Cl) (rr : Int), LawR g (g 4) cls ∧ FitR (TkE (LnH 0 cls g) g) (g 1).toNat (Int32.ofInt rr) ∧ ∀ k, 0 ≤ k → k < 6 → F k = bit1 rr k)
def FrOq (S S' : zS) : Prop := Dyn S S' ∧ (∀ a i, a ≠ 68 → ¬ (58 ≤ a ∧ a ≤ 65) → gI S' a i = gI S a i) ∧ (∀ a i, ¬ (64 ≤ a ∧ a ≤ 67) → a ≠ 69 → gJ S' a i = gJ S a i) ∧ (∀ a i, a ≠ 58 → gQ S' a i = gQ S a i)
theorem FrOq.rf {S : zS} : FrOq S S := ⟨Dyn.rf, fun _ _ _ _ => rfl, fun _ _ _ _ => rfl, fun _ _ _ => rfl⟩
theorem FrOq.tr {A B C : zS} (h1 : FrOq A B) (h2 : FrOq B C) : FrOq A C := ⟨h1.1.tr h2.1, fun a i q r => (h2.2.1 a i q r).trans (h1.2.1 a i q r), fun a i q r => (h2.2.2.1 a i q r).trans (h1.2.2.1 a i q r), fun a i q => (h2.2.2.2 a i q).trans (h1.2.2.2 a i q)⟩
theorem FrOq.I {S : zS} {i x : Int} : FrOq S (sI S 68 i x) := ⟨Dyn.sI (by decide) Dyn.rf, fun b j q _ => by rw [gI_sI, if_neg (by omega)], fun _ _ _ _ => rfl, fun _ _ _ => rfl⟩
theorem FrOq.F {S : zS} {lo hi : Int} {f : Int → Int} : FrOq S (sF S 68 lo hi f) := ⟨Dyn.sF (by decide) Dyn.rf, fun b j q _ => by rw [gI_sF, if_neg (by omega)], fun _ _ _ _ => rfl, fun _ _ _ => rfl⟩
theorem FrQc.oq {S S' : zS} (h : FrQc S S') : FrOq S S' := ⟨h.1, fun a i _ q => h.2.1 a i q, h.2.2.1, h.2.2.2⟩
section
variable {X : zX} {d : Nat}
abbrev L146 (asks x2 : Int) (x3 : Option Value) : zL := [some (.ref 4), some (.int (Int32.ofInt asks)), some (.int (Int32.ofInt x2)), x3]
theorem l146a (hd : 0 < d) {asks n : Int} (hn : 0 ≤ n ∧ n ≤ 20) : ∀ (c : Nat) (p : Int) (S : zS) (f : Int → Int), p + c = 20 → 0 ≤ p → gI S 5 6 = n → (∀ q, 0 ≤ q → q < 20 → f (4 + q) = if q < n then gI S 6 (3 * q) else -1) → z_ev X d (146, 29, L146 asks p none, [], mk S) = z_ev X d (146, 73, L146 asks 20 none, [], mk (sF S 68 (4 + p) 24 f)) := by
  intro c
  induction c with
  | zero =>
    intro p S f hc hp h6 hf
    have : p = 20 := by omega
    subst this
    rw [sF_nil (by omega), B146_29]
    simp (disch := first | omega | assumption | exact b01_rng _ | exact st_5 | exact st_12 | exact st_19 | (simp only [isSt_sI, isSt_sJ, isSt_sF, isSt_sG, isSt_sA]; assumption)) only [i_lit, i_add, i_sub, i_mul, i_neg, i_lt, i_le, i_eq, i32_gI, i64_gJ, i32_id, i32_to, i64_to, sI_i32, sJ_i64, b01_t, b01_f, i32_b01, b01_0, ↓a_s0, ↓n_s0, ↓a_s1, ↓n_s1, Int.add_zero, t_lt, f_lt, t_le, f_le, t_eq, f_eq, true_and, and_true, false_and, and_false, and_self, ↓reduceIte, z_bool_of, or_true, true_or, or_false, false_or, Int.neg_neg, not_true_eq_false, not_false_eq_true, lg_lt, lg_le, lg_gt, lg_ge, lg_eq, j_lit, j_add, j_sub, j_mul, j_neg, j_eq, i64_id, ij, ji, z_rt, Nat.reduceEqDiff, Nat.reduceAdd, Int.reduceAdd, Int.reduceSub, Int.reduceMul, Int.reduceNeg, Int.reduceLT, Int.reduceLE, Int.reduceEq]
  | succ c ih =>
    intro p S f hc hp h6 hf
    have hfp := hf p hp (by omega)
    have e := ih (p + 1) (sI S 68 (4 + p) (f (4 + p))) f (by omega) (by omega) (by rw [gI_sI, if_neg (by omega)]; exact h6) (fun q q1 q2 => by rw [gI_sI, if_neg (show ¬ ((6 : Nat) = 68 ∧ 3 * q = 4 + p) by omega)]; exact hf q q1 q2)
    rw [show 4 + (p + 1) = 4 + p + 1 by omega, sF_step (S := S) (a := 68) (lo := 4 + p) (hi := 24) (x := f (4 + p)) (f := f) (by omega) rfl] at e
    have c66' := fun {cm cp : Nat} {L : zL} {st : List Value} => c66 (X := X) (d := d) hd (cm := cm) (cp := cp) (L := L) (st := st) (S := S) (s := 5) p st_5 (by omega) (by omega)
    rw [h6] at c66'
    have c67' := fun {cm cp : Nat} {L : zL} {st : List Value} => c67 (X := X) (d := d) hd (cm := cm) (cp := cp) (L := L) (st := st) (S := S) (s := 5) p 0 st_5 (by omega) (by omega)
    simp only [Nat.reduceAdd] at c67'
    rw [← e, B146_29]
    by_cases q : p < n
    · rw [if_pos q] at hfp
      rw [show b01 (0 ≤ p ∧ p < n) = 1 from if_pos ⟨hp, q⟩] at c66'
      rw [hfp]
      simp (disch := first | omega | assumption | exact b01_rng _ | exact st_5 | exact st_12 | exact st_19 | (simp only [isSt_sI, isSt_sJ, isSt_sF, isSt_sG, isSt_sA]; assumption)) only [↓B146_35, ↓B146_50, ↓B146_53, ↓B146_62, ↓B146_66, ↓a_68, ↓n_68, ↓o_19, ↓o_4, ↓o_5, ↓r_19_6, ↓r_19_8, ↓r_4_0, ↓r_4_12, ↓r_5_6, ↓r_5_8, ↓s_68, ↓o_5, ↓s_68, c66', c67', i_lit, i_add, i_sub, i_mul, i_neg, i_lt, i_le, i_eq, i32_gI, i64_gJ, i32_id, i32_to, i64_to, sI_i32, sJ_i64, b01_t, b01_f, i32_b01, b01_0, ↓a_s0, ↓n_s0, ↓a_s1, ↓n_s1, Int.add_zero, t_lt, f_lt, t_le, f_le, t_eq, f_eq, true_and, and_true, false_and, and_false, and_self, ↓reduceIte, z_bool_of, or_true, true_or, or_false, false_or, Int.neg_neg, not_true_eq_false, not_false_eq_true, lg_lt, lg_le, lg_gt, lg_ge, lg_eq, j_lit, j_add, j_sub, j_mul, j_neg, j_eq, i64_id, ij, ji, z_rt, Nat.reduceEqDiff, Nat.reduceAdd, Int.reduceAdd, Int.reduceSub, Int.reduceMul, Int.reduceNeg, Int.reduceLT, Int.reduceLE, Int.reduceEq]
    · rw [if_neg q] at hfp
      rw [show b01 (0 ≤ p ∧ p < n) = 0 from if_neg (fun z => q z.2)] at c66'
      rw [hfp]
      simp (disch := first | omega | assumption | exact b01_rng _ | exact st_5 | exact st_12 | exact st_19 | (simp only [isSt_sI, isSt_sJ, isSt_sF, isSt_sG, isSt_sA]; assumption)) only [↓B146_35, ↓B146_50, ↓B146_65, ↓B146_66, ↓a_68, ↓n_68, ↓o_19, ↓o_4, ↓o_5, ↓r_19_6, ↓r_19_8, ↓r_4_0, ↓r_4_12, ↓r_5_6, ↓r_5_8, ↓s_68, ↓o_5, ↓s_68, c66', i_lit, i_add, i_sub, i_mul, i_neg, i_lt, i_le, i_eq, i32_gI, i64_gJ, i32_id, i32_to, i64_to, sI_i32, sJ_i64, b01_t, b01_f, i32_b01, b01_0, ↓a_s0, ↓n_s0, ↓a_s1, ↓n_s1, Int.add_zero, t_lt, f_lt, t_le, f_le, t_eq, f_eq, true_and, and_true, false_and, and_false, and_self, ↓reduceIte, z_bool_of, or_true, true_or, or_false, false_or, Int.neg_neg, not_true_eq_false, not_false_eq_true, lg_lt, lg_le, lg_gt, lg_ge, lg_eq, j_lit, j_add, j_sub, j_mul, j_neg, j_eq, i64_id, ij, ji, z_rt, Nat.reduceEqDiff, Nat.reduceAdd, Int.reduceAdd, Int.reduceSub, Int.reduceMul, Int.reduceNeg, Int.reduceLT, Int.reduceLE, Int.reduceEq]
theorem l146b {asks rr n : Int} (hn : 0 ≤ n ∧ n ≤ 6) : ∀ (c : Nat) (k : Int) (S : zS) (f : Int → Int), k + c = 6 → 0 ≤ k → gI S 5 8 = n → (∀ q, 0 ≤ q → q < 6 → f (24 + q) = if q < n then bit1 rr q else -1) → z_ev X d (146, 92, L146 asks rr (vI k), [], mk S) = some (none, mk (sF S 68 (24 + k) 30 f)) := by
  intro c
  induction c with
  | zero =>
    intro k S f hc hk h8 hf
    have : k = 6 := by omega
    subst this
    rw [sF_nil (by omega), B146_92]
    simp (disch := first | omega | assumption | exact b01_rng _ | exact st_5 | exact st_12 | exact st_19 | (simp only [isSt_sI, isSt_sJ, isSt_sF, isSt_sG, isSt_sA]; assumption)) only [↓B146_133, i_lit, i_add, i_sub, i_mul, i_neg, i_lt, i_le, i_eq, i32_gI, i64_gJ, i32_id, i32_to, i64_to, sI_i32, sJ_i64, b01_t, b01_f, i32_b01, b01_0, ↓a_s0, ↓n_s0, ↓a_s1, ↓n_s1, Int.add_zero, t_lt, f_lt, t_le, f_le, t_eq, f_eq, true_and, and_true, false_and, and_false, and_self, ↓reduceIte, z_bool_of, or_true, true_or, or_false, false_or, Int.neg_neg, not_true_eq_false, not_false_eq_true, lg_lt, lg_le, lg_gt, lg_ge, lg_eq, j_lit, j_add, j_sub, j_mul, j_neg, j_eq, i64_id, ij, ji, z_rt, Nat.reduceEqDiff, Nat.reduceAdd, Int.reduceAdd, Int.reduceSub, Int.reduceMul, Int.reduceNeg, Int.reduceLT, Int.reduceLE, Int.reduceEq]
  | succ c ih =>
    intro k S f hc hk h8 hf
    have hfk := hf k hk (by omega)
    have hb := bit1_01 rr (s := k.toNat) (by omega)
    rw [show ((k.toNat : Nat) : Int) = k by omega] at hb
    have e := ih (k + 1) (sI S 68 (24 + k) (f (24 + k))) f (by omega) (by omega) (by rw [gI_sI, if_neg (by omega)]; exact h8) hf
    rw [show 24 + (k + 1) = 24 + k + 1 by omega, sF_step (S := S) (a := 68) (lo := 24 + k) (hi := 30) (x := f (24 + k)) (f := f) (by omega) rfl] at e
    rw [← e, B146_92]
    by_cases q : k < n
    · rw [if_pos q] at hfk
      rw [hfk]
      simp (disch := first | omega | assumption | exact b01_rng _ | exact st_5 | exact st_12 | exact st_19 | (simp only [isSt_sI, isSt_sJ, isSt_sF, isSt_sG, isSt_sA]; assumption)) only [↓B146_98, ↓B146_117, ↓B146_126, ↓a_68, ↓n_68, ↓o_19, ↓o_4, ↓o_5, ↓r_19_6, ↓r_19_8, ↓r_4_0, ↓r_4_12, ↓r_5_6, ↓r_5_8, ↓s_68, ↓r_5_8, ↓s_68, h8, bit1_of, i_lit, i_add, i_sub, i_mul, i_neg, i_lt, i_le, i_eq, i32_gI, i64_gJ, i32_id, i32_to, i64_to, sI_i32, sJ_i64, b01_t, b01_f, i32_b01, b01_0, ↓a_s0, ↓n_s0, ↓a_s1, ↓n_s1, Int.add_zero, t_lt, f_lt, t_le, f_le, t_eq, f_eq, true_and, and_true, false_and, and_false, and_self, ↓reduceIte, z_bool_of, or_true, true_or, or_false, false_or, Int.neg_neg, not_true_eq_false, not_false_eq_true, lg_lt, lg_le, lg_gt, lg_ge, lg_eq, j_lit, j_add, j_sub, j_mul, j_neg, j_eq, i64_id, ij, ji, z_rt, Nat.reduceEqDiff, Nat.reduceAdd, Int.reduceAdd, Int.reduceSub, Int.reduceMul, Int.reduceNeg, Int.reduceLT, Int.reduceLE, Int.reduceEq]
    · rw [if_neg q] at hfk
      rw [hfk]
      simp (disch := first | omega | assumption | exact b01_rng _ | exact st_5 | exact st_12 | exact st_19 | (simp only [isSt_sI, isSt_sJ, isSt_sF, isSt_sG, isSt_sA]; assumption)) only [↓B146_98, ↓B146_125, ↓B146_126, ↓a_68, ↓n_68, ↓o_19, ↓o_4, ↓o_5, ↓r_19_6, ↓r_19_8, ↓r_4_0, ↓r_4_12, ↓r_5_6, ↓r_5_8, ↓s_68, ↓r_5_8, ↓s_68, h8, i_lit, i_add, i_sub, i_mul, i_neg, i_lt, i_le, i_eq, i32_gI, i64_gJ, i32_id, i32_to, i64_to, sI_i32, sJ_i64, b01_t, b01_f, i32_b01, b01_0, ↓a_s0, ↓n_s0, ↓a_s1, ↓n_s1, Int.add_zero, t_lt, f_lt, t_le, f_le, t_eq, f_eq, true_and, and_true, false_and, and_false, and_self, ↓reduceIte, z_bool_of, or_true, true_or, or_false, false_or, Int.neg_neg, not_true_eq_false, not_false_eq_true, lg_lt, lg_le, lg_gt, lg_ge, lg_eq, j_lit, j_add, j_sub, j_mul, j_neg, j_eq, i64_id, ij, ji, z_rt, Nat.reduceEqDiff, Nat.reduceAdd, Int.reduceAdd, Int.reduceSub, Int.reduceMul, Int.reduceNeg, Int.reduceLT, Int.reduceLE, Int.reduceEq]
theorem bit1_zero {k : Int} (hk : 0 ≤ k ∧ k < 32) : bit1 0 k = 0 := by
  have e := bit1_bt 0 (s := k.toNat) (by omega)
  rw [show ((k.toNat : Nat) : Int) = k by omega] at e
  rw [e]
  have : bt 0 k.toNat = false := zero_b _
  rw [this]; rfl
/-- words are set -/
theorem x146 (hd : 30 < d) {S : zS} {g : Int → Int} {asks done latest : Int} (hR : StRel PM QL S 5 g) (hX : FxC S) (ha : asks = 0 ∨ asks = 1) (h1 : gI S 68 1 = done) (h2 : gI S 68 2 = latest) : ∃ (S' : zS) (F : Int → Int), z_ev X d (z_entry 146 [.ref 4, .int (Int32.ofInt asks)] (mk S)) = some (none, mk S') ∧ FrOq S S' ∧ FxC S' ∧ (∀ i, 0 ≤ i → i < 30 → gI S' 68 i = ordW g done latest F i) ∧ FOK asks g F := by
  obtain ⟨a1, a2, a3, a4, a5, a6, a7, a8, a9, a10⟩ := id hR
  simp only [Nat.reduceAdd] at a6 a7
  have c70' := fun {cm cp : Nat} {L : zL} {st : List Value} => c70 (X := X) (d := d) (by omega) (cm := cm) (cp := cp) (L := L) (st := st) (S := S) (s := 5) 0 st_5 (by omega)
  simp only [Nat.reduceAdd] at c70'
  rw [a6.1] at c70'
  obtain ⟨A0, hA0⟩ : ∃ A0 : zS, A0 = sI (sI S 68 0 (g 5)) 68 3 (g 0) := ⟨_, rfl⟩
  have fA0 : FrOq S A0 := by rw [hA0]; exact FrOq.I.tr FrOq.I
  have st0 : z_ev X d (z_entry 146 [.ref 4, .int (Int32.ofInt asks)] (mk S)) = z_ev X d (146, 29, L146 asks 0 none, [], mk A0) := by
    have e6 : gI (sI S 68 0 (g 5)) 5 6 = g 0 := by rw [gI_sI, if_neg (by omega)]; exact a1.1
    show z_ev X d (146, 0, [some (.ref 4), some (.int (Int32.ofInt asks)), none, none], [], mk S) = _
    rw [hA0]
    simp (disch := first | omega | assumption | exact b01_rng _ | exact st_5 | exact st_12 | exact st_19 | (simp only [isSt_sI, isSt_sJ, isSt_sF, isSt_sG, isSt_sA]; assumption)) only [↓B146_0, ↓B146_13, ↓a_68, ↓n_68, ↓o_19, ↓o_4, ↓o_5, ↓r_19_6, ↓r_19_8, ↓r_4_0, ↓r_4_12, ↓r_5_6, ↓r_5_8, ↓s_68, ↓o_5, ↓r_5_6, ↓s_68, c70', e6, i_lit, i_add, i_sub, i_mul, i_neg, i_lt, i_le, i_eq, i32_gI, i64_gJ, i32_id, i32_to, i64_to, sI_i32, sJ_i64, b01_t, b01_f, i32_b01, b01_0, ↓a_s0, ↓n_s0, ↓a_s1, ↓n_s1, Int.add_zero, t_lt, f_lt, t_le, f_le, t_eq, f_eq, true_and, and_true, false_and, and_false, and_self, ↓reduceIte, z_bool_of, or_true, true_or, or_false, false_or, Int.neg_neg, not_true_eq_false, not_false_eq_true, lg_lt, lg_le, lg_gt, lg_ge, lg_eq, j_lit, j_add, j_sub, j_mul, j_neg, j_eq, i64_id, ij, ji, z_rt, Nat.reduceEqDiff, Nat.reduceAdd, Int.reduceAdd, Int.reduceSub, Int.reduceMul, Int.reduceNeg, Int.reduceLT, Int.reduceLE, Int.reduceEq]
  obtain ⟨f1, hf1⟩ : ∃ f1 : Int → Int, f1 = fun i => if i - 4 < g 0 then g (8 + (i - 4)) else -1 := ⟨_, rfl⟩
  have e1 := l146a (X := X) (d := d) (asks := asks) (n := g 0) (by omega) a1.2 20 0 A0 f1 (by omega) (by omega) (by rw [fA0.2.1 5 6 (by omega) (by omega)]; exact a1.1) (fun q q1 q2 => by
    rw [hf1, fA0.2.1 6 _ (by omega) (by omega)]
    simp only []
    rw [show 4 + q - 4 = q by omega]
    split
    · exact (a7 q q1 q2).1.symm
    · rfl)
  obtain ⟨A1, hA1⟩ : ∃ A1 : zS, A1 = sF A0 68 (4 + 0) 24 f1 := ⟨_, rfl⟩
  rw [← hA1] at e1
  have fA1 : FrOq S A1 := by rw [hA1]; exact fA0.tr FrOq.F
  -- what lies there then, and the rest behind it
  have rest : ∀ (S2 : zS) (rr : Int), FrQc A1 S2 → FxC S2 → (FOK asks g (fun k => bit1 rr (k % 32))) → z_ev X d (146, 73, L146 asks 20 none, [], mk A1) = z_ev X d (146, 92, L146 asks rr (vI 0), [], mk S2) → ∃ (S' : zS) (F : Int → Int), z_ev X d (z_entry 146 [.ref 4, .int (Int32.ofInt asks)] (mk S)) = some (none, mk S') ∧ FrOq S S' ∧ FxC S' ∧ (∀ i, 0 ≤ i → i < 30 → gI S' 68 i = ordW g done latest F i) ∧ FOK asks g F := fun S2 rr hQ hX2 hF he => by
    have e2 := l146b (X := X) (d := d) (asks := asks) (rr := rr) (n := g 1) a2.2 6 0 S2 (fun i => if i - 24 < g 1 then bit1 rr (i - 24) else -1) (by omega) (by omega) (by rw [hQ.2.1 5 8 (by omega), fA1.2.1 5 8 (by omega) (by omega)]; exact a2.1) (fun q q1 q2 => by show (if 24 + q - 24 < g 1 then bit1 rr (24 + q - 24) else -1) = _; rw [show 24 + q - 24 = q by omega])
    refine ⟨sF S2 68 (24 + 0) 30 (fun i => if i - 24 < g 1 then bit1 rr (i - 24) else -1), fun k => bit1 rr (k % 32), ?_, (fA1.tr hQ.oq).tr FrOq.F, hX2.keep (fun _ _ => rfl) (fun _ _ => rfl), fun i q1 q2 => ?_, hF⟩
    · rw [st0, e1, he, e2]
    · by_cases z : 24 ≤ i
      · have hb := bit1_01 rr (s := (i - 24).toNat) (by omega)
        rw [show (((i - 24).toNat : Nat) : Int) = i - 24 by omega] at hb
        rw [gI_sF, if_pos ⟨rfl, by omega, q2⟩, ordW_s ⟨z, q2⟩]
        show i32 (if i - 24 < g 1 then bit1 rr (i - 24) else -1) = if i - 24 < g 1 then bit1 rr ((i - 24) % 32) else -1
        rw [Int.emod_eq_of_lt (show 0 ≤ i - 24 by omega) (show i - 24 < 32 by omega)]
        exact i32_id (by split <;> omega) (by split <;> omega)
      · rw [gI_sF, if_neg (by omega), hQ.2.1 68 i (by omega), hA1, gI_sF]
        by_cases z2 : 4 ≤ i
        · have b := a7 (i - 4) (by omega) (by omega)
          rw [if_pos ⟨rfl, by omega, by omega⟩, ordW_w ⟨z2, by omega⟩, hf1]
          show i32 (if i - 4 < g 0 then g (8 + (i - 4)) else -1) = _
          exact i32_id (by split <;> omega) (by split <;> omega)
        · rw [if_neg (by omega), hA0, gI_sI, gI_sI]
          rcases (show i = 0 ∨ i = 1 ∨ i = 2 ∨ i = 3 by omega) with rfl | rfl | rfl | rfl
          · rw [if_neg (by omega), if_pos ⟨rfl, rfl⟩, i32_id (by omega) (by omega)]; rfl
          · rw [if_neg (by omega), if_neg (by omega), h1]; rfl
          · rw [if_neg (by omega), if_neg (by omega), h2]; rfl
          · rw [if_pos ⟨rfl, rfl⟩, i32_id (by omega) (by omega)]; rfl
  have hb01 : ∀ rr k : Int, 0 ≤ bit1 rr (k % 32) ∧ bit1 rr (k % 32) ≤ 1 := fun rr k => by
    have hb := bit1_01 rr (s := (k % 32).toNat) (by omega)
    rw [show (((k % 32).toNat : Nat) : Int) = k % 32 by omega] at hb
    omega
  have XA1 : FxC A1 := hX.keep (fun a i => by rw [hA1, hA0]; rfl) (fun a i => by rw [hA1, hA0]; rfl)
  rcases ha with rfl | rfl
  · refine rest A1 0 FrQc.rf XA1 ⟨hb01 0, fun z => by omega⟩ ?_
    simp (disch := first | omega | assumption | exact b01_rng _ | exact st_5 | exact st_12 | exact st_19 | (simp only [isSt_sI, isSt_sJ, isSt_sF, isSt_sG, isSt_sA]; assumption)) only [↓B146_73, ↓B146_88, ↓B146_89, i_lit, i_add, i_sub, i_mul, i_neg, i_lt, i_le, i_eq, i32_gI, i64_gJ, i32_id, i32_to, i64_to, sI_i32, sJ_i64, b01_t, b01_f, i32_b01, b01_0, ↓a_s0, ↓n_s0, ↓a_s1, ↓n_s1, Int.add_zero, t_lt, f_lt, t_le, f_le, t_eq, f_eq, true_and, and_true, false_and, and_false, and_self, ↓reduceIte, z_bool_of, or_true, true_or, or_false, false_or, Int.neg_neg, not_true_eq_false, not_false_eq_true, lg_lt, lg_le, lg_gt, lg_ge, lg_eq, j_lit, j_add, j_sub, j_mul, j_neg, j_eq, i64_id, ij, ji, z_rt, Nat.reduceEqDiff, Nat.reduceAdd, Int.reduceAdd, Int.reduceSub, Int.reduceMul, Int.reduceNeg, Int.reduceLT, Int.reduceLE, Int.reduceEq]
  · have R1 : StRel PM QL A1 5 g := by
      refine hR.fr good2.g fA1.1 (fun i => fA1.2.1 _ _ (by omega) (by omega)) (fun i => fA1.2.1 _ _ (by omega) (by omega)) (fun i => fA1.2.1 _ _ (by omega) (by omega)) (fun i => fA1.2.1 _ _ (by omega) (by omega)) (fun i => fA1.2.1 _ _ (by omega) (by omega)) (fun i => fA1.2.2.2 _ _ (by omega)) (fun i => fA1.2.2.2 _ _ (by omega)) (fun _ => rfl)
    obtain ⟨S2, r, cls, w1, w2, w3, w4, w5⟩ := x138 (X := X) (d := 30) (by omega) st_5 R1 XA1
    have hr : Int32.ofInt r.toInt = r := i_toInt r
    have ev1 := fun {cm cp : Nat} {L : zL} {st : List Value} => evR (X := X) (d := d) (by omega) w1 (cm := cm) (cp := cp) (L := L) (st := st)
    refine rest S2 r.toInt w2 w3 ⟨hb01 r.toInt, fun _ => ⟨cls, r.toInt, w4, by rw [hr]; exact w5, fun k q1 q2 => by show bit1 r.toInt (k % 32) = _; rw [Int.emod_eq_of_lt q1 (by omega)]⟩⟩ ?_
    rw [← hr] at ev1
    simp (disch := first | omega | assumption | exact b01_rng _ | exact st_5 | exact st_12 | exact st_19 | (simp only [isSt_sI, isSt_sJ, isSt_sF, isSt_sG, isSt_sA]; assumption)) only [↓B146_73, ↓B146_77, ↓B146_85, ↓B146_89, ↓a_68, ↓n_68, ↓o_19, ↓o_4, ↓o_5, ↓r_19_6, ↓r_19_8, ↓r_4_0, ↓r_4_12, ↓r_5_6, ↓r_5_8, ↓s_68, ↓o_4, ev1, i_lit, i_add, i_sub, i_mul, i_neg, i_lt, i_le, i_eq, i32_gI, i64_gJ, i32_id, i32_to, i64_to, sI_i32, sJ_i64, b01_t, b01_f, i32_b01, b01_0, ↓a_s0, ↓n_s0, ↓a_s1, ↓n_s1, Int.add_zero, t_lt, f_lt, t_le, f_le, t_eq, f_eq, true_and, and_true, false_and, and_false, and_self, ↓reduceIte, z_bool_of, or_true, true_or, or_false, false_or, Int.neg_neg, not_true_eq_false, not_false_eq_true, lg_lt, lg_le, lg_gt, lg_ge, lg_eq, j_lit, j_add, j_sub, j_mul, j_neg, j_eq, i64_id, ij, ji, z_rt, Nat.reduceEqDiff, Nat.reduceAdd, Int.reduceAdd, Int.reduceSub, Int.reduceMul, Int.reduceNeg, Int.reduceLT, Int.reduceLE, Int.reduceEq]
end
