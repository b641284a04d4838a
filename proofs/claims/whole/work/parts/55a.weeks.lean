/-! weeks: days by draws, pure; the class's part -/
def ndd (s : Int) : Int := (s * 1103 + 12345) % 1000003
theorem ndd_b (s : Int) : 0 ≤ ndd s ∧ ndd s < 1000003 := by unfold ndd; omega
theorem nd_e {s : Int} (hs : 0 ≤ s ∧ s ≤ 1000003) : s * 1103 + 12345 - (s * 1103 + 12345).tdiv 1000003 * 1000003 = ndd s := by
  rw [Int.tdiv_eq_ediv_of_nonneg (by omega)]
  unfold ndd; omega
theorem md_e {a n : Int} (ha : 0 ≤ a) : a - a.tdiv n * n = a % n := by
  rw [Int.tdiv_eq_ediv_of_nonneg ha, Int.emod_def, Int.mul_comm]
theorem e147 {X : zX} {d : Nat} (hd : 0 ≤ d) {S : zS} (s : Int) (hs : 0 ≤ s ∧ s ≤ 1000003) : z_ev X d (z_entry 147 [.int (Int32.ofInt s)] (mk S)) = some (some (.int (Int32.ofInt (ndd s))), mk S) := by
  show z_ev X d (147, 0, [some (.int (Int32.ofInt s))], [], mk S) = _
  have e := nd_e hs
  simp (disch := first | omega | assumption | exact b01_rng _ | exact st_5 | exact st_12 | exact st_19 | (simp only [isSt_sI, isSt_sJ, isSt_sF, isSt_sG, isSt_sA]; assumption)) only [↓B147_0, i_div, e, i_lit, i_add, i_sub, i_mul, i_neg, i_lt, i_le, i_eq, i32_gI, i64_gJ, i32_id, i32_to, i64_to, sI_i32, sJ_i64, b01_t, b01_f, i32_b01, b01_0, ↓a_s0, ↓n_s0, ↓a_s1, ↓n_s1, Int.add_zero, t_lt, f_lt, t_le, f_le, t_eq, f_eq, true_and, and_true, false_and, and_false, and_self, ↓reduceIte, z_bool_of, or_true, true_or, or_false, false_or, Int.neg_neg, not_true_eq_false, not_false_eq_true, lg_lt, lg_le, lg_gt, lg_ge, lg_eq, j_lit, j_add, j_sub, j_mul, j_neg, j_eq, i64_id, ij, ji, z_rt, Nat.reduceEqDiff, Nat.reduceAdd, Int.reduceAdd, Int.reduceSub, Int.reduceMul, Int.reduceNeg, Int.reduceLT, Int.reduceLE, Int.reduceEq]
theorem c147 {X : zX} {d : Nat} (hd : 0 < d) {S : zS} (s : Int) (hs : 0 ≤ s ∧ s ≤ 1000003) {cm cp : Nat} {L : zL} {st : List Value} : z_evc X d 147 [.int (Int32.ofInt s)] (cm, cp, L, st, mk S) = z_ev X d (cm, cp, L, .int (Int32.ofInt (ndd s)) :: st, mk S) := z_evc_of (r := (some (.int (Int32.ofInt (ndd s))), mk S)) (ck := (cm, cp, L, st, mk S)) hd (e147 (X := X) (Nat.le_refl _) s hs)
/-! what a week changes -/
def wkP (g : Int → Int) (s : Int) : Int := ndd s % g 0
def wkW (s : Int) : Int := ndd (ndd s) % 3
def wkH (s : Int) : Int := ndd (ndd (ndd s)) % 4
def wkF (s : Int) : Int := if wkH s < 2 then 0 else wkH s - 1
def wkV (g : Int → Int) (s : Int) : Int := if wkH s < 2 then wkW s else 1 - g (8 + 20 * wkF s + wkP g s)
def wk1 (g : Int → Int) (s i : Int) : Int := if i = 8 + 20 * wkF s + wkP g s then wkV g s else g i
def wk2 (g : Int → Int) (s i : Int) : Int := if i = 5 then g 5 + 1 else wk1 g s i
/-- so many weeks: the row behind them, how many metres took the line -/
def Wk : Nat → (Int → Int) → Int → (Int → Int) → Int → Prop
  | 0, g, _, g', tot => g' = g ∧ tot = 0
  | n + 1, g, s, g', tot => (g 5 = 999 ∧ g' = g ∧ tot = 0) ∨ (g 5 < 999 ∧ ∃ (cls : List Cl) (c tot' : Int), (GB (wk1 g s) ∧ (0 ≤ wk1 g s 1 ∧ wk1 g s 1 ≤ 6) ∧ MetsR (wk1 g s) ∧ LawR (wk1 g s) (wk1 g s 4) cls) ∧ HowM cls (wk1 g s) c ∧ tot = c + tot' ∧ Wk n (wk2 g s) (ndd (ndd (ndd s))) g' tot')
section
variable {P Q : zP} {S : zS} {g : Int → Int}
/-- a syllable of the paper is changed -/
theorem StRel.chg (hG : Good P Q) (h : StRel P Q S 19 g) {g' : Int → Int} {p f v : Int} (hp : 0 ≤ p ∧ p < 20) (hf : 0 ≤ f ∧ f ≤ 2) (hv : 0 ≤ v ∧ v ≤ 2) (hv1 : f ≠ 0 → v ≤ 1) (hg' : ∀ i, g' i = if i = 8 + 20 * f + p then v else g i) : StRel P Q (sI S 20 (3 * p + f) v) 19 g' := by
  obtain ⟨a1, a2, a3, a4, a5, a6, a7, a8, a9, a10⟩ := id h
  simp only [Nat.reduceAdd] at a6 a7
  have key : ∀ j e : Int, 0 ≤ j → j < 20 → 0 ≤ e → e ≤ 2 → gI (sI S 20 (3 * p + f) v) 20 (3 * j + e) = g' (8 + 20 * e + j) ∧ 0 ≤ g' (8 + 20 * e + j) ∧ g' (8 + 20 * e + j) ≤ 2 ∧ (e ≠ 0 → g' (8 + 20 * e + j) ≤ 1) := fun j e j1 j2 e1 e2 => by
    have b := a7 j j1 j2
    have old : gI S 20 (3 * j + e) = g (8 + 20 * e + j) ∧ 0 ≤ g (8 + 20 * e + j) ∧ g (8 + 20 * e + j) ≤ 2 ∧ (e ≠ 0 → g (8 + 20 * e + j) ≤ 1) := by
      rcases (show e = 0 ∨ e = 1 ∨ e = 2 by omega) with rfl | rfl | rfl
      · rw [show 8 + 20 * 0 + j = 8 + j by omega, show 3 * j + 0 = 3 * j by omega]; omega
      · rw [show 8 + 20 * 1 + j = 28 + j by omega]; omega
      · rw [show 8 + 20 * 2 + j = 48 + j by omega]; omega
    rw [gI_sI, hg']
    by_cases z : e = f ∧ j = p
    · rw [if_pos ⟨rfl, by omega⟩, if_pos (by omega), i32_id (by omega) (by omega)]
      exact ⟨rfl, hv.1, hv.2, fun y => hv1 (by omega)⟩
    · rw [if_neg (by omega), if_neg (by omega)]
      exact old
  have lo : ∀ i, i < 8 → g' i = g i := fun i q => by rw [hg', if_neg (by omega)]
  refine h.ln hG (Dyn.sI (by decide) Dyn.rf) (fun i q => by (repeat (first | rw [gI_sI, if_neg (by omega)] | rw [gI_sF, if_neg (by omega)] | rw [gI_sJ] | rw [gI_sG] | rw [gI_sQ]))) (fun i => by (repeat (first | rw [gI_sI, if_neg (by omega)] | rw [gI_sF, if_neg (by omega)] | rw [gI_sJ] | rw [gI_sG] | rw [gI_sQ]))) (fun i => by (repeat (first | rw [gI_sI, if_neg (by omega)] | rw [gI_sF, if_neg (by omega)] | rw [gI_sJ] | rw [gI_sG] | rw [gI_sQ]))) (fun i => rfl) (fun i => rfl) (fun i q => ?_) ?_ ?_ (fun j q1 q2 => ?_)
  · rw [hg', if_neg (by omega)]
  · rw [gI_sI, if_neg (by omega), lo 0 (by omega)]; exact a1
  · simp only [Nat.reduceAdd]
    rw [gI_sI, if_neg (by omega), gI_sI, if_neg (by omega), gI_sI, if_neg (by omega), lo 5 (by omega), lo 6 (by omega), lo 7 (by omega)]; exact a6
  · simp only [Nat.reduceAdd]
    have k0 := key j 0 q1 q2 (by omega) (by omega)
    have k1 := key j 1 q1 q2 (by omega) (by omega)
    have k2 := key j 2 q1 q2 (by omega) (by omega)
    rw [show 8 + 20 * 0 + j = 8 + j by omega, show 3 * j + 0 = 3 * j by omega] at k0
    rw [show 8 + 20 * 1 + j = 28 + j by omega] at k1
    rw [show 8 + 20 * 2 + j = 48 + j by omega] at k2
    have := k1.2.2.2 (by omega)
    have := k2.2.2.2 (by omega)
    exact ⟨k0.1, k1.1, k2.1, k0.2.1, k0.2.2.1, k1.2.1, by omega, k2.2.1, by omega⟩
/-- its day passes -/
theorem StRel.day (hG : Good P Q) (h : StRel P Q S 19 g) {g' : Int → Int} (h9 : g 5 < 999) (hg' : ∀ i, g' i = if i = 5 then g 5 + 1 else g i) : StRel P Q (sI S 21 0 (g 5 + 1)) 19 g' := by
  obtain ⟨a1, a2, a3, a4, a5, a6, a7, a8, a9, a10⟩ := id h
  simp only [Nat.reduceAdd] at a6 a7
  refine h.ln hG (Dyn.sI (by decide) Dyn.rf) (fun i q => by (repeat (first | rw [gI_sI, if_neg (by omega)] | rw [gI_sF, if_neg (by omega)] | rw [gI_sJ] | rw [gI_sG] | rw [gI_sQ]))) (fun i => by (repeat (first | rw [gI_sI, if_neg (by omega)] | rw [gI_sF, if_neg (by omega)] | rw [gI_sJ] | rw [gI_sG] | rw [gI_sQ]))) (fun i => by (repeat (first | rw [gI_sI, if_neg (by omega)] | rw [gI_sF, if_neg (by omega)] | rw [gI_sJ] | rw [gI_sG] | rw [gI_sQ]))) (fun i => rfl) (fun i => rfl) (fun i q => ?_) ?_ ?_ (fun j q1 q2 => ?_)
  · rw [hg', if_neg (by omega)]
  · rw [gI_sI, if_neg (by omega), hg', if_neg (by omega)]; exact a1
  · simp only [Nat.reduceAdd]
    rw [gI_sI, if_pos ⟨rfl, rfl⟩, gI_sI, if_neg (by omega), gI_sI, if_neg (by omega), hg', if_pos rfl, hg', if_neg (by omega), hg', if_neg (by omega), i32_id (by omega) (by omega)]
    omega
  · simp only [Nat.reduceAdd]
    rw [gI_sI, if_neg (by omega), gI_sI, if_neg (by omega), gI_sI, if_neg (by omega), hg', if_neg (by omega), hg', if_neg (by omega), hg', if_neg (by omega)]
    exact a7 j q1 q2
end
def FrWc (S S' : zS) : Prop := Dyn S S' ∧ (∀ a i, a ≠ 20 → a ≠ 21 → ¬ (58 ≤ a ∧ a ≤ 65) → gI S' a i = gI S a i) ∧ (∀ a i, ¬ (64 ≤ a ∧ a ≤ 67) → a ≠ 69 → gJ S' a i = gJ S a i) ∧ (∀ a i, a ≠ 58 → gQ S' a i = gQ S a i)
theorem FrWc.rf {S : zS} : FrWc S S := ⟨Dyn.rf, fun _ _ _ _ _ => rfl, fun _ _ _ _ => rfl, fun _ _ _ => rfl⟩
theorem FrWc.tr {A B C : zS} (h1 : FrWc A B) (h2 : FrWc B C) : FrWc A C := ⟨h1.1.tr h2.1, fun a i q r s => (h2.2.1 a i q r s).trans (h1.2.1 a i q r s), fun a i q r => (h2.2.2.1 a i q r).trans (h1.2.2.1 a i q r), fun a i q => (h2.2.2.2 a i q).trans (h1.2.2.2 a i q)⟩
theorem FrWc.I {S : zS} {a : Nat} {i x : Int} (h : a = 20 ∨ a = 21) : FrWc S (sI S a i x) := ⟨Dyn.sI (by omega) Dyn.rf, fun b j q r s => by rw [gI_sI, if_neg (by omega)], fun _ _ _ _ => rfl, fun _ _ _ => rfl⟩
theorem FrQc.w {S S' : zS} (h : FrQc S S') : FrWc S S' := ⟨h.1, fun a i _ _ q => h.2.1 a i q, h.2.2.1, h.2.2.2⟩
theorem e148 {X : zX} {d : Nat} (hd : 2 ≤ d) {S : zS} (p w h v f : Int) (hp : 0 ≤ p ∧ p < 20) (hw : 0 ≤ w ∧ w ≤ 2) (hh : 0 ≤ h ∧ h ≤ 3) (hf : f = if h < 2 then 0 else h - 1) (hv : v = if h < 2 then w else 1 - gI S 20 (3 * p + f)) (hb : 0 ≤ gI S 20 (3 * p + f) ∧ gI S 20 (3 * p + f) ≤ 2) : z_ev X d (z_entry 148 [.ref 19, .int (Int32.ofInt p), .int (Int32.ofInt w), .int (Int32.ofInt h)] (mk S)) = some (none, mk (sI S 20 (3 * p + f) v)) := by
  show z_ev X d (148, 0, [some (.ref 19), some (.int (Int32.ofInt p)), some (.int (Int32.ofInt w)), some (.int (Int32.ofInt h))], [], mk S) = _
  have c68' := fun {cm cp : Nat} {L : zL} {st : List Value} => c68 (X := X) (d := d) (by omega) (cm := cm) (cp := cp) (L := L) (st := st) (S := S) (s := 19) p 0 w st_19 hp (by omega) (by omega)
  have c69' := fun {cm cp : Nat} {L : zL} {st : List Value} (k : Int) (hk : 0 ≤ k ∧ k < 3) (hkb : 0 ≤ gI S 20 (3 * p + k) ∧ gI S 20 (3 * p + k) ≤ 2) => c69 (X := X) (d := d) (by omega) (cm := cm) (cp := cp) (L := L) (st := st) (S := S) (s := 19) p k st_19 hp hk hkb
  simp only [Nat.reduceAdd] at c68' c69'
  by_cases q : h < 2
  · rw [if_pos q] at hf hv
    subst hf; subst hv
    simp (disch := first | omega | assumption | exact b01_rng _ | exact st_5 | exact st_12 | exact st_19 | (simp only [isSt_sI, isSt_sJ, isSt_sF, isSt_sG, isSt_sA]; assumption)) only [↓B148_0, ↓B148_5, ↓B148_12, ↓B148_31, ↓o_19, c68', i_lit, i_add, i_sub, i_mul, i_neg, i_lt, i_le, i_eq, i32_gI, i64_gJ, i32_id, i32_to, i64_to, sI_i32, sJ_i64, b01_t, b01_f, i32_b01, b01_0, ↓a_s0, ↓n_s0, ↓a_s1, ↓n_s1, Int.add_zero, t_lt, f_lt, t_le, f_le, t_eq, f_eq, true_and, and_true, false_and, and_false, and_self, ↓reduceIte, z_bool_of, or_true, true_or, or_false, false_or, Int.neg_neg, not_true_eq_false, not_false_eq_true, lg_lt, lg_le, lg_gt, lg_ge, lg_eq, j_lit, j_add, j_sub, j_mul, j_neg, j_eq, i64_id, ij, ji, z_rt, Nat.reduceEqDiff, Nat.reduceAdd, Int.reduceAdd, Int.reduceSub, Int.reduceMul, Int.reduceNeg, Int.reduceLT, Int.reduceLE, Int.reduceEq]
  · rw [if_neg q] at hf hv
    subst hv
    rcases (show h = 2 ∨ h = 3 by omega) with rfl | rfl
    · have : f = 1 := by omega
      subst this
      have cc := fun {cm cp : Nat} {L : zL} {st : List Value} => c69' 1 (by omega) hb (cm := cm) (cp := cp) (L := L) (st := st)
      simp (disch := first | omega | assumption | exact b01_rng _ | exact st_5 | exact st_12 | exact st_19 | (simp only [isSt_sI, isSt_sJ, isSt_sF, isSt_sG, isSt_sA]; assumption)) only [↓B148_0, ↓B148_15, ↓B148_22, ↓B148_27, ↓B148_30, ↓B148_31, ↓o_19, cc, i_lit, i_add, i_sub, i_mul, i_neg, i_lt, i_le, i_eq, i32_gI, i64_gJ, i32_id, i32_to, i64_to, sI_i32, sJ_i64, b01_t, b01_f, i32_b01, b01_0, ↓a_s0, ↓n_s0, ↓a_s1, ↓n_s1, Int.add_zero, t_lt, f_lt, t_le, f_le, t_eq, f_eq, true_and, and_true, false_and, and_false, and_self, ↓reduceIte, z_bool_of, or_true, true_or, or_false, false_or, Int.neg_neg, not_true_eq_false, not_false_eq_true, lg_lt, lg_le, lg_gt, lg_ge, lg_eq, j_lit, j_add, j_sub, j_mul, j_neg, j_eq, i64_id, ij, ji, z_rt, Nat.reduceEqDiff, Nat.reduceAdd, Int.reduceAdd, Int.reduceSub, Int.reduceMul, Int.reduceNeg, Int.reduceLT, Int.reduceLE, Int.reduceEq]
    · have : f = 2 := by omega
      subst this
      have cc := fun {cm cp : Nat} {L : zL} {st : List Value} => c69' 2 (by omega) hb (cm := cm) (cp := cp) (L := L) (st := st)
      simp (disch := first | omega | assumption | exact b01_rng _ | exact st_5 | exact st_12 | exact st_19 | (simp only [isSt_sI, isSt_sJ, isSt_sF, isSt_sG, isSt_sA]; assumption)) only [↓B148_0, ↓B148_15, ↓B148_26, ↓B148_27, ↓B148_30, ↓B148_31, ↓o_19, cc, i_lit, i_add, i_sub, i_mul, i_neg, i_lt, i_le, i_eq, i32_gI, i64_gJ, i32_id, i32_to, i64_to, sI_i32, sJ_i64, b01_t, b01_f, i32_b01, b01_0, ↓a_s0, ↓n_s0, ↓a_s1, ↓n_s1, Int.add_zero, t_lt, f_lt, t_le, f_le, t_eq, f_eq, true_and, and_true, false_and, and_false, and_self, ↓reduceIte, z_bool_of, or_true, true_or, or_false, false_or, Int.neg_neg, not_true_eq_false, not_false_eq_true, lg_lt, lg_le, lg_gt, lg_ge, lg_eq, j_lit, j_add, j_sub, j_mul, j_neg, j_eq, i64_id, ij, ji, z_rt, Nat.reduceEqDiff, Nat.reduceAdd, Int.reduceAdd, Int.reduceSub, Int.reduceMul, Int.reduceNeg, Int.reduceLT, Int.reduceLE, Int.reduceEq]
theorem c148 {X : zX} {d : Nat} (hd : 2 < d) {S : zS} (p w h v f : Int) (hp : 0 ≤ p ∧ p < 20) (hw : 0 ≤ w ∧ w ≤ 2) (hh : 0 ≤ h ∧ h ≤ 3) (hf : f = if h < 2 then 0 else h - 1) (hv : v = if h < 2 then w else 1 - gI S 20 (3 * p + f)) (hb : 0 ≤ gI S 20 (3 * p + f) ∧ gI S 20 (3 * p + f) ≤ 2) {cm cp : Nat} {L : zL} {st : List Value} : z_evc X d 148 [.ref 19, .int (Int32.ofInt p), .int (Int32.ofInt w), .int (Int32.ofInt h)] (cm, cp, L, st, mk S) = z_ev X d (cm, cp, L, st, mk (sI S 20 (3 * p + f) v)) := z_evc_of (r := (none, mk (sI S 20 (3 * p + f) v))) (ck := (cm, cp, L, st, mk S)) hd (e148 (X := X) (Nat.le_refl _) p w h v f hp hw hh hf hv hb)
section
variable {X : zX} {d : Nat}
abbrev L128 (sd n dr tk k : Int) (x7 x8 : Option Value) : zL := [some (.ref 4), some (.int (Int32.ofInt sd)), some (.int (Int32.ofInt n)), some (.ref 19), some (.int (Int32.ofInt dr)), some (.int (Int32.ofInt tk)), some (.int (Int32.ofInt k)), x7, x8]
/-- one week of the class -/
theorem t128 (hd : 30 < d) {S : zS} {g : Int → Int} {sd n s tk k : Int} (hR : StRel PM QL S 19 g) (hX : FxC S) (h5 : gI S 5 6 = g 0) (h0 : 1 ≤ g 0) (hs : 0 ≤ s ∧ s ≤ 1000003) (hk : 0 ≤ k ∧ k < n ∧ n ≤ 60) (ht : 0 ≤ tk ∧ tk ≤ 6 * k) (h9 : g 5 < 999) {x7 x8 : Option Value} : ∃ (S' : zS) (c : Int) (cls : List Cl) (y7 y8 : Option Value), z_ev X d (128, 68, L128 sd n s tk k x7 x8, [], mk S) = z_ev X d (128, 68, L128 sd n (ndd (ndd (ndd s))) (tk + c) (k + 1) y7 y8, [], mk S') ∧ FrWc S S' ∧ FxC S' ∧ StRel PM QL S' 19 (wk2 g s) ∧ (GB (wk1 g s) ∧ (0 ≤ wk1 g s 1 ∧ wk1 g s 1 ≤ 6) ∧ MetsR (wk1 g s) ∧ LawR (wk1 g s) (wk1 g s 4) cls) ∧ HowM cls (wk1 g s) c := by
  obtain ⟨a1, a2, a3, a4, a5, a6, a7, a8, a9, a10⟩ := id hR
  simp only [Nat.reduceAdd] at a6 a7
  have n1 := ndd_b s
  have n2 := ndd_b (ndd s)
  have n3 := ndd_b (ndd (ndd s))
  have hp : 0 ≤ wkP g s ∧ wkP g s < 20 := by
    unfold wkP
    have := Int.emod_nonneg (ndd s) (show g 0 ≠ 0 by omega)
    have := Int.emod_lt_of_pos (ndd s) (show 0 < g 0 by omega)
    omega
  have hW : 0 ≤ wkW s ∧ wkW s ≤ 2 := by unfold wkW; omega
  have hH : 0 ≤ wkH s ∧ wkH s ≤ 3 := by unfold wkH; omega
  have hF : 0 ≤ wkF s ∧ wkF s ≤ 2 := by unfold wkF; split <;> omega
  have b7 := a7 (wkP g s) hp.1 hp.2
  have hcell : gI S 20 (3 * wkP g s + wkF s) = g (8 + 20 * wkF s + wkP g s) ∧ 0 ≤ g (8 + 20 * wkF s + wkP g s) ∧ g (8 + 20 * wkF s + wkP g s) ≤ 2 ∧ (wkF s ≠ 0 → g (8 + 20 * wkF s + wkP g s) ≤ 1) := by
    generalize wkF s = f at hF ⊢
    generalize wkP g s = p at b7 hp ⊢
    rcases (show f = 0 ∨ f = 1 ∨ f = 2 by omega) with rfl | rfl | rfl
    · rw [show 8 + 20 * 0 + p = 8 + p by omega, show 3 * p + 0 = 3 * p by omega]; omega
    · rw [show 8 + 20 * 1 + p = 28 + p by omega]; omega
    · rw [show 8 + 20 * 2 + p = 48 + p by omega]; omega
  have hV : 0 ≤ wkV g s ∧ wkV g s ≤ 2 ∧ (wkF s ≠ 0 → wkV g s ≤ 1) := by
    unfold wkV
    by_cases q : wkH s < 2
    · rw [if_pos q]
      refine ⟨hW.1, hW.2, fun z => ?_⟩
      exact absurd (show wkF s = 0 from if_pos q) z
    · rw [if_neg q]
      have hf0 : wkF s ≠ 0 := by unfold wkF; rw [if_neg q]; omega
      have := hcell.2.2.2 hf0
      omega
  have R1 : StRel PM QL (sI S 20 (3 * wkP g s + wkF s) (wkV g s)) 19 (wk1 g s) := hR.chg good2.g hp hF ⟨hV.1, hV.2.1⟩ hV.2.2 (fun i => rfl)
  have X1 : FxC (sI S 20 (3 * wkP g s + wkF s) (wkV g s)) := hX.keep (fun _ _ => rfl) (fun _ _ => rfl)
  obtain ⟨S2, kk, cls, w1, w2, w3, w4, w5⟩ := how_c (X := X) (d := 30) (by omega) st_19 R1 X1
  have hcb := w5.b
  have g15 : wk1 g s 5 = g 5 := if_neg (by omega)
  have R2 : StRel PM QL S2 19 (wk1 g s) := R1.kp2 st_19 w2
  have e21 : gI S2 21 0 = g 5 := by
    have := R2.2.2.2.2.2.1.1
    simp only [Nat.reduceAdd] at this
    rw [this, g15]
  have R3 : StRel PM QL (sI S2 21 0 (g 5 + 1)) 19 (wk2 g s) := by
    have := R2.day (g' := wk2 g s) good2.g (by rw [g15]; exact h9) (fun i => by unfold wk2; rw [g15])
    rw [g15] at this; exact this
  have ev1 := fun {cm cp : Nat} {L : zL} {st : List Value} => evR (X := X) (d := d) (by omega) w1 (cm := cm) (cp := cp) (L := L) (st := st)
  have c275' := fun {cm cp : Nat} {L : zL} {st : List Value} => c275 (X := X) (d := d) (by omega) (cm := cm) (cp := cp) (L := L) (st := st) (S := S2) kk
  have c70' := fun {cm cp : Nat} {L : zL} {st : List Value} => c70 (X := X) (d := d) (by omega) (cm := cm) (cp := cp) (L := L) (st := st) (S := S) (s := 19) 0 st_19 (by omega)
  simp only [Nat.reduceAdd] at c70'
  rw [a6.1] at c70'
  have c70'' := fun {cm cp : Nat} {L : zL} {st : List Value} => c70 (X := X) (d := d) (by omega) (cm := cm) (cp := cp) (L := L) (st := st) (S := S2) (s := 19) 0 st_19 (by omega)
  simp only [Nat.reduceAdd] at c70''
  rw [e21] at c70''
  have c71' := fun {cm cp : Nat} {L : zL} {st : List Value} => c71 (X := X) (d := d) (by omega) (cm := cm) (cp := cp) (L := L) (st := st) (S := S2) (s := 19) 0 (g 5 + 1) st_19 (by omega) (by omega)
  simp only [Nat.reduceAdd] at c71'
  have d1 := fun {cm cp : Nat} {L : zL} {st : List Value} => c147 (X := X) (d := d) (by omega) (cm := cm) (cp := cp) (L := L) (st := st) (S := S) s hs
  have d2 := fun {cm cp : Nat} {L : zL} {st : List Value} => c147 (X := X) (d := d) (by omega) (cm := cm) (cp := cp) (L := L) (st := st) (S := S) (ndd s) (by omega)
  have d3 := fun {cm cp : Nat} {L : zL} {st : List Value} => c147 (X := X) (d := d) (by omega) (cm := cm) (cp := cp) (L := L) (st := st) (S := S) (ndd (ndd s)) (by omega)
  have c148' := fun {cm cp : Nat} {L : zL} {st : List Value} => c148 (X := X) (d := d) (by omega) (cm := cm) (cp := cp) (L := L) (st := st) (S := S) (wkP g s) (wkW s) (wkH s) (wkV g s) (wkF s) hp hW hH rfl (by rw [hcell.1]; rfl) (by rw [hcell.1]; exact ⟨hcell.2.1, hcell.2.2.1⟩)
  refine ⟨sI S2 21 0 (g 5 + 1), pcN (kk.val : Int) 6, cls, vI (ndd s), vI (ndd (ndd s)), ?_, ((FrWc.I (Or.inl rfl)).tr w2.w).tr (FrWc.I (Or.inr rfl)), w3.keep (fun _ _ => rfl) (fun _ _ => rfl), R3, ⟨R1.gb, R1.2.1.2, R1.mets, w4⟩, w5⟩
  have e1 : ndd s - (ndd s).tdiv (g 0) * g 0 = wkP g s := md_e n1.1
  have e2 : ndd (ndd s) - (ndd (ndd s)).tdiv 3 * 3 = wkW s := md_e n2.1
  have e3 : ndd (ndd (ndd s)) - (ndd (ndd (ndd s))).tdiv 4 * 4 = wkH s := md_e n3.1
  have hg0 : ¬ g 0 = 0 := by omega
  rw [B128_68]
  simp (disch := first | omega | assumption | exact b01_rng _ | exact st_5 | exact st_12 | exact st_19 | (simp only [isSt_sI, isSt_sJ, isSt_sF, isSt_sG, isSt_sA]; assumption)) only [↓B128_74, ↓B128_79, ↓B128_85, ↓B128_90, ↓B128_97, ↓B128_104, ↓B128_128, ↓B128_135, ↓B128_138, ↓B128_148, ↓B128_153, ↓o_19, ↓o_4, ↓o_5, ↓r_19_6, ↓r_4_0, ↓r_4_2, ↓r_5_6, ↓o_19, ↓o_4, ↓r_5_6, h5, c70', c70'', c71', d1, d2, d3, c148', ev1, c275', i_div, e1, e2, e3, hg0, i_lit, i_add, i_sub, i_mul, i_neg, i_lt, i_le, i_eq, i32_gI, i64_gJ, i32_id, i32_to, i64_to, sI_i32, sJ_i64, b01_t, b01_f, i32_b01, b01_0, ↓a_s0, ↓n_s0, ↓a_s1, ↓n_s1, Int.add_zero, t_lt, f_lt, t_le, f_le, t_eq, f_eq, true_and, and_true, false_and, and_false, and_self, ↓reduceIte, z_bool_of, or_true, true_or, or_false, false_or, Int.neg_neg, not_true_eq_false, not_false_eq_true, lg_lt, lg_le, lg_gt, lg_ge, lg_eq, j_lit, j_add, j_sub, j_mul, j_neg, j_eq, i64_id, ij, ji, z_rt, Nat.reduceEqDiff, Nat.reduceAdd, Int.reduceAdd, Int.reduceSub, Int.reduceMul, Int.reduceNeg, Int.reduceLT, Int.reduceLE, Int.reduceEq]
/-- the class's weeks -/
theorem l128 (hd : 30 < d) {sd n : Int} : ∀ (c : Nat) (k s tk : Int) (S : zS) (g : Int → Int) (x7 x8 : Option Value), k + c = n → 0 ≤ k → n ≤ 60 → StRel PM QL S 19 g → FxC S → gI S 5 6 = g 0 → 1 ≤ g 0 → (0 ≤ s ∧ s ≤ 1000003) → (0 ≤ tk ∧ tk ≤ 6 * k) → ∃ (S' : zS) (g' : Int → Int) (tot y4 y6 : Int) (y7 y8 : Option Value), z_ev X d (128, 68, L128 sd n s tk k x7 x8, [], mk S) = z_ev X d (128, 159, L128 sd n y4 (tk + tot) y6 y7 y8, [], mk S') ∧ FrWc S S' ∧ FxC S' ∧ StRel PM QL S' 19 g' ∧ Wk c g s g' tot ∧ 0 ≤ tk + tot ∧ tk + tot ≤ 6 * n := by
  intro c
  induction c with
  | zero =>
    intro k s tk S g x7 x8 hc hk hn hR hX h5 h0 hs ht
    have : k = n := by omega
    subst this
    refine ⟨S, g, 0, s, k, x7, x8, ?_, FrWc.rf, hX, hR, ⟨rfl, rfl⟩, by omega⟩
    rw [Int.add_zero, B128_68]
    simp (disch := first | omega | assumption | exact b01_rng _ | exact st_5 | exact st_12 | exact st_19 | (simp only [isSt_sI, isSt_sJ, isSt_sF, isSt_sG, isSt_sA]; assumption)) only [i_lit, i_add, i_sub, i_mul, i_neg, i_lt, i_le, i_eq, i32_gI, i64_gJ, i32_id, i32_to, i64_to, sI_i32, sJ_i64, b01_t, b01_f, i32_b01, b01_0, ↓a_s0, ↓n_s0, ↓a_s1, ↓n_s1, Int.add_zero, t_lt, f_lt, t_le, f_le, t_eq, f_eq, true_and, and_true, false_and, and_false, and_self, ↓reduceIte, z_bool_of, or_true, true_or, or_false, false_or, Int.neg_neg, not_true_eq_false, not_false_eq_true, lg_lt, lg_le, lg_gt, lg_ge, lg_eq, j_lit, j_add, j_sub, j_mul, j_neg, j_eq, i64_id, ij, ji, z_rt, Nat.reduceEqDiff, Nat.reduceAdd, Int.reduceAdd, Int.reduceSub, Int.reduceMul, Int.reduceNeg, Int.reduceLT, Int.reduceLE, Int.reduceEq]
  | succ c ih =>
    intro k s tk S g x7 x8 hc hk hn hR hX h5 h0 hs ht
    have b6 := hR.2.2.2.2.2.1
    simp only [Nat.reduceAdd] at b6
    by_cases h9 : g 5 = 999
    · have c70' := fun {cm cp : Nat} {L : zL} {st : List Value} => c70 (X := X) (d := d) (by omega) (cm := cm) (cp := cp) (L := L) (st := st) (S := S) (s := 19) 0 st_19 (by omega)
      simp only [Nat.reduceAdd] at c70'
      rw [b6.1, h9] at c70'
      refine ⟨S, g, 0, s, k, x7, x8, ?_, FrWc.rf, hX, hR, Or.inl ⟨h9, rfl, rfl⟩, by omega⟩
      rw [Int.add_zero, B128_68]
      simp (disch := first | omega | assumption | exact b01_rng _ | exact st_5 | exact st_12 | exact st_19 | (simp only [isSt_sI, isSt_sJ, isSt_sF, isSt_sG, isSt_sA]; assumption)) only [↓B128_74, ↓B128_79, ↓o_19, c70', i_lit, i_add, i_sub, i_mul, i_neg, i_lt, i_le, i_eq, i32_gI, i64_gJ, i32_id, i32_to, i64_to, sI_i32, sJ_i64, b01_t, b01_f, i32_b01, b01_0, ↓a_s0, ↓n_s0, ↓a_s1, ↓n_s1, Int.add_zero, t_lt, f_lt, t_le, f_le, t_eq, f_eq, true_and, and_true, false_and, and_false, and_self, ↓reduceIte, z_bool_of, or_true, true_or, or_false, false_or, Int.neg_neg, not_true_eq_false, not_false_eq_true, lg_lt, lg_le, lg_gt, lg_ge, lg_eq, j_lit, j_add, j_sub, j_mul, j_neg, j_eq, i64_id, ij, ji, z_rt, Nat.reduceEqDiff, Nat.reduceAdd, Int.reduceAdd, Int.reduceSub, Int.reduceMul, Int.reduceNeg, Int.reduceLT, Int.reduceLE, Int.reduceEq]
    · obtain ⟨S1, c1, cls, y7, y8, e1, e2, e3, e4, e5, e6⟩ := t128 (X := X) (d := d) (sd := sd) hd hR hX h5 h0 hs ⟨hk, by omega, hn⟩ ht (by omega) (x7 := x7) (x8 := x8)
      have hcb := e6.b
      have hn3 := ndd_b (ndd (ndd s))
      have hg20 : wk2 g s 0 = g 0 := by
        have hp : 0 ≤ wkP g s := by unfold wkP; exact Int.emod_nonneg (ndd s) (show g 0 ≠ 0 by omega)
        have hF : 0 ≤ wkF s := by unfold wkF wkH; split <;> omega
        unfold wk2 wk1
        rw [if_neg (by omega), if_neg (by omega)]
      obtain ⟨S', g', tot, y4, y6, y7', y8', u1, u2, u3, u4, u5, u6⟩ := ih (k + 1) (ndd (ndd (ndd s))) (tk + c1) S1 (wk2 g s) y7 y8 (by omega) (by omega) hn e4 e3 (by rw [hg20, e2.2.1 5 6 (by omega) (by omega) (by omega)]; exact h5) (by rw [hg20]; exact h0) (by omega) (by omega)
      refine ⟨S', g', c1 + tot, y4, y6, y7', y8', ?_, e2.tr u2, u3, u4, Or.inr ⟨by omega, cls, c1, tot, e5, e6, rfl, u5⟩, by omega⟩
      rw [e1, u1, show tk + c1 + tot = tk + (c1 + tot) by omega]
end
