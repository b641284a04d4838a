/-! the class looks at a line: lookAt -/
abbrev lv (o : Option Nat) : Value := match o with
  | none => .null
  | some a => .ref a
/-- a law, as the class has it (none: no clause) -/
def LawC (S : zS) (o : Option Nat) (cls : List Cl) : Prop := (∀ cl ∈ cls, LwK cl) ∧ match o with
  | none => cls = []
  | some a => ∃ m : Nat, ClsC S a m cls.length (gI S (a + 1)) (gI S (a + 2)) ∧ m ≤ 436 ∧ CTx (insC (gI S (a + 1))) m (gI S (a + 2)) cls ∧ (∀ cl ∈ cls, (∀ e, cl.2.2.1 = some e → EB e) ∧ ∀ e, cl.2.2.2.2 = some e → EB e) ∧ cls.length ≤ 12
theorem LawC.fr {S T : zS} {o : Option Nat} {cls : List Cl} (h : LawC S o cls) (hD : ∀ a : Nat, 114 ≤ a → (∀ i, gI T a i = gI S a i) ∧ (∀ i, gQ T a i = gQ S a i) ∧ gH T a = gH S a) : LawC T o cls := by
  refine ⟨h.1, ?_⟩
  cases o with
  | none => exact h.2
  | some a =>
    obtain ⟨m, h1, h2, h3, h4, h5⟩ := h.2
    have ha := h1.1
    have e1 : gI T (a + 1) = gI S (a + 1) := funext (hD (a + 1) (by omega)).1
    have e2 : gI T (a + 2) = gI S (a + 2) := funext (hD (a + 2) (by omega)).1
    have := h1.fr (T := T) (fun j _ => hD (a + j) (by omega))
    refine ⟨m, ?_, h2, by rw [e1, e2]; exact h3, h4, h5⟩
    rw [e1, e2]; exact this
def canI (cls : List Cl) (g : Int → Int) (p v : Int) (x : Int32) : Int32 := x ||| (if (jud cls g p v).1 ≠ 0 ∧ (jud cls g p v).2.1 = 0 then Int32.ofInt 1 <<< (Int32.ofInt p &&& Int32.ofInt 31) else Int32.ofInt 0)
def judS (T : zS) (cls : List Cl) (g : Int → Int) (p v : Int) : zS := sI (sI T 63 (3 * p + v) (CstR cls g p v)) 62 v (canI cls g p v (Int32.ofInt (gI T 62 v))).toInt
theorem jud_ab {cls : List Cl} {g : Int → Int} {p v : Int} : (jud cls g p v).1 = 0 ∨ (jud cls g p v).1 = 1 := by
  unfold jud
  have : ∀ (l : List Cl) (x : Int × Int × Int), (x.1 = 0 ∨ x.1 = 1) → ((l.foldl (jf v (lww g p v)) x).1 = 0 ∨ (l.foldl (jf v (lww g p v)) x).1 = 1) := by
    intro l
    induction l with
    | nil => intro x h; exact h
    | cons c l ih => intro x h; exact ih _ (jf_ab h)
  exact this cls _ (b01_rng _)
theorem jud_br {cls : List Cl} {g : Int → Int} {p v : Int} (hk : ∀ cl ∈ cls, LwK cl) : (jud cls g p v).2.1 = 0 ∨ (jud cls g p v).2.1 = 1 := by
  rw [jud_tf hk]; exact tf_01 2 (by omega) cls 0 (Or.inl rfl)
theorem x45 {X : zX} {d : Nat} (hd : 1 < d) {S : zS} {o : Option Nat} {cls : List Cl} {g : Int → Int} {p v : Int} (hL : LawC S o cls) (hw : LWd S g p v) (hG : GB g) (hp : 0 ≤ p ∧ p < 20) (hv : 0 ≤ v ∧ v ≤ 2) : ∃ T : zS, z_ev X d (z_entry 45 [.ref 58, lv o, .int (Int32.ofInt p), .int (Int32.ofInt v)] (mk S)) = some (none, mk (judS T cls g p v)) ∧ FrSk 60 S T := by
  have hc := CstR_b (g := g) (p := p) (v := v) hL.1
  have ha := jud_ab (cls := cls) (g := g) (p := p) (v := v)
  have hb := jud_br (g := g) (p := p) (v := v) hL.1
  cases o with
  | none =>
    have he : cls = [] := hL.2
    subst he
    refine ⟨S, ?_, FrSk.rf⟩
    have e1 := b45n (X := X) (d := d) hw hG hp hv
    have hn := b01_rng (ntr g p v)
    rw [show lv none = Value.null from rfl, e1, z45n hp hv (by omega) (b01_rng _)]
    rfl
  | some a =>
    obtain ⟨m, h1, h2, h3, h4, h5⟩ := hL.2
    have e1 := b45 (X := X) (d := d) h1 hw hG hp hv
    obtain ⟨T, y10, y11, y12, e2, e3⟩ := l45 (X := X) (d := d) (p := p) (v := v) (n := b01 (ntr g p v)) hd (lww_b hG hp hv) h5 h2 hv cls 0 S (b01 (abl g p v), 0, 1 - b01 (ntr g p v)) none none none h1 hw.1 (by omega) (fun j cl hj => by rw [Nat.zero_add]; exact h3 j cl hj) h4 (b01_rng _)
    refine ⟨T, ?_, e3⟩
    have e4 : ((0 : Nat) : Int) = 0 := rfl
    rw [e4] at e2
    rw [show lv (some a) = Value.ref a from rfl, e1, e2]
    show z_ev X d (45, 101, L45 a p v (b01 (ntr g p v)) (jud cls g p v).1 (jud cls g p v).2.1 (CstR cls g p v) cls.length cls.length y10 y11 y12, [], mk T) = _
    rw [z45 hp hv (by omega) ha (by omega) (by omega)]
    rfl
/-- a row is filled -/
theorem l277 {X : zX} {d : Nat} {c n : Nat} (h4 : 4 ≤ c) (hc : ∀ S : zS, zdes S c = some (.inr (0, n))) (hn : n < 100000) {v : Int} (hv : r32 v) : ∀ (k : Nat) (j : Int) (S : zS), 0 ≤ j → j + k = n → z_ev X d (277, 5, [some (.ref c), some (.int (Int32.ofInt v)), some (.int (Int32.ofInt j)), some (.int (Int32.ofInt n))], [], mk S) = some (none, mk (sF S c j n (fun _ => v))) := by
  intro k
  induction k with
  | zero =>
    intro j S h0 h1
    rw [sF_nil (by omega)]
    simp (disch := first | omega | assumption | exact b01_rng _ | exact st_5 | exact st_12 | exact st_19 | (simp only [isSt_sI, isSt_sJ, isSt_sF, isSt_sG, isSt_sA]; assumption)) only [↓B277_5, ↓B277_20, i_lit, i_add, i_sub, i_mul, i_neg, i_lt, i_le, i_eq, i32_gI, i64_gJ, i32_id, i32_to, i64_to, sI_i32, sJ_i64, b01_t, b01_f, i32_b01, b01_0, ↓a_s0, ↓n_s0, ↓a_s1, ↓n_s1, Int.add_zero, t_lt, f_lt, t_le, f_le, t_eq, f_eq, true_and, and_true, false_and, and_false, and_self, ↓reduceIte, z_bool_of, or_true, true_or, or_false, false_or, Int.neg_neg, not_true_eq_false, not_false_eq_true, lg_lt, lg_le, lg_gt, lg_ge, lg_eq, j_lit, j_add, j_sub, j_mul, j_neg, j_eq, i64_id, ij, ji, z_rt, Nat.reduceEqDiff, Nat.reduceAdd, Int.reduceAdd, Int.reduceSub, Int.reduceMul, Int.reduceNeg, Int.reduceLT, Int.reduceLE, Int.reduceEq]
  | succ k ih =>
    intro j S h0 h1
    rw [← sF_step (S := S) (a := c) (lo := j) (hi := n) (x := v) (f := fun _ => v) (by omega) rfl, ← ih (j + 1) (sI S c j v) (by omega) (by omega)]
    rw [B277_5]
    simp (disch := first | omega | assumption | exact b01_rng _ | exact st_5 | exact st_12 | exact st_19 | (simp only [isSt_sI, isSt_sJ, isSt_sF, isSt_sG, isSt_sA]; assumption)) only [↓B277_10, ↓G_ast (hc S), i_lit, i_add, i_sub, i_mul, i_neg, i_lt, i_le, i_eq, i32_gI, i64_gJ, i32_id, i32_to, i64_to, sI_i32, sJ_i64, b01_t, b01_f, i32_b01, b01_0, ↓a_s0, ↓n_s0, ↓a_s1, ↓n_s1, Int.add_zero, t_lt, f_lt, t_le, f_le, t_eq, f_eq, true_and, and_true, false_and, and_false, and_self, ↓reduceIte, z_bool_of, or_true, true_or, or_false, false_or, Int.neg_neg, not_true_eq_false, not_false_eq_true, lg_lt, lg_le, lg_gt, lg_ge, lg_eq, j_lit, j_add, j_sub, j_mul, j_neg, j_eq, i64_id, ij, ji, z_rt, Nat.reduceEqDiff, Nat.reduceAdd, Int.reduceAdd, Int.reduceSub, Int.reduceMul, Int.reduceNeg, Int.reduceLT, Int.reduceLE, Int.reduceEq]
theorem c277 {X : zX} {d : Nat} (hd : 0 < d) {c n : Nat} (h4 : 4 ≤ c) (hc : ∀ S : zS, zdes S c = some (.inr (0, n))) (hn : n < 100000) {v : Int} (hv : r32 v) {S : zS} {cm cp : Nat} {L : zL} {st : List Value} : z_evc X d 277 [.ref c, .int (Int32.ofInt v)] (cm, cp, L, st, mk S) = z_ev X d (cm, cp, L, st, mk (sF S c 0 n (fun _ => v))) := by
  refine evV (k := 0) hd ?_
  show z_ev X 0 (277, 0, [some (.ref c), some (.int (Int32.ofInt v)), none, none], [], mk S) = _
  rw [← l277 (X := X) (d := 0) h4 hc hn hv n 0 S (by omega) (by omega)]
  simp (disch := first | omega | assumption | exact b01_rng _ | exact st_5 | exact st_12 | exact st_19 | (simp only [isSt_sI, isSt_sJ, isSt_sF, isSt_sG, isSt_sA]; assumption)) only [↓B277_0, ↓L_len (X := X) h4 (show 0 < 6 by decide) (hc S), i_lit, i_add, i_sub, i_mul, i_neg, i_lt, i_le, i_eq, i32_gI, i64_gJ, i32_id, i32_to, i64_to, sI_i32, sJ_i64, b01_t, b01_f, i32_b01, b01_0, ↓a_s0, ↓n_s0, ↓a_s1, ↓n_s1, Int.add_zero, t_lt, f_lt, t_le, f_le, t_eq, f_eq, true_and, and_true, false_and, and_false, and_self, ↓reduceIte, z_bool_of, or_true, true_or, or_false, false_or, Int.neg_neg, not_true_eq_false, not_false_eq_true, lg_lt, lg_le, lg_gt, lg_ge, lg_eq, j_lit, j_add, j_sub, j_mul, j_neg, j_eq, i64_id, ij, ji, z_rt, Nat.reduceEqDiff, Nat.reduceAdd, Int.reduceAdd, Int.reduceSub, Int.reduceMul, Int.reduceNeg, Int.reduceLT, Int.reduceLE, Int.reduceEq]
/-- a line, wherever it lies -/
def SLn (S : zS) (s : Nat) (g : Int → Int) : Prop := gI S s 6 = g 0 ∧ gI S (s + 2) 0 = g 5 ∧ gI S (s + 2) 2 = g 7 ∧ ∀ p : Int, 0 ≤ p → p < 20 → gI S (s + 1) (3 * p) = g (8 + p) ∧ gI S (s + 1) (3 * p + 1) = g (28 + p) ∧ gI S (s + 1) (3 * p + 2) = g (48 + p)
def FrA (S S' : zS) : Prop := Dyn S S' ∧ (∀ a i, ¬ (58 ≤ a ∧ a ≤ 63) → gI S' a i = gI S a i) ∧ (∀ a i, gJ S' a i = gJ S a i) ∧ (∀ a i, gQ S' a i = gQ S a i)
theorem FrA.rf {S : zS} : FrA S S := ⟨Dyn.rf, fun _ _ _ => rfl, fun _ _ => rfl, fun _ _ => rfl⟩
theorem FrA.tr {A B C : zS} (h1 : FrA A B) (h2 : FrA B C) : FrA A C := ⟨h1.1.tr h2.1, fun a i q => (h2.2.1 a i q).trans (h1.2.1 a i q), fun a i => (h2.2.2.1 a i).trans (h1.2.2.1 a i), fun a i => (h2.2.2.2 a i).trans (h1.2.2.2 a i)⟩
theorem FrA.I {S : zS} {a : Nat} {i x : Int} (h : 58 ≤ a ∧ a ≤ 63) : FrA S (sI S a i x) := ⟨Dyn.sI (by omega) Dyn.rf, fun b j q => by rw [gI_sI, if_neg (by omega)], fun _ _ => rfl, fun _ _ => rfl⟩
theorem FrA.F {S : zS} {a : Nat} {lo hi : Int} {f : Int → Int} (h : 58 ≤ a ∧ a ≤ 63) : FrA S (sF S a lo hi f) := ⟨Dyn.sF (by omega) Dyn.rf, fun b j q => by rw [gI_sF, if_neg (by omega)], fun _ _ => rfl, fun _ _ => rfl⟩
theorem FrSk.a {S S' : zS} (h : FrSk 60 S S') : FrA S S' := ⟨h.1, fun a i q => h.2.1 a i (by omega), h.2.2.1, h.2.2.2⟩
theorem isSt.off {S : zS} {s : Nat} (h : isSt S s) (j : Nat) (hj : j ≤ 6) : ¬ (58 ≤ s + j ∧ s + j ≤ 67) := by
  rcases h with (rfl | rfl | rfl) | ⟨h1, -⟩ <;> omega
theorem SLn.fr {S S' : zS} {s : Nat} {g : Int → Int} (h : SLn S s g) (h0 : ∀ i, gI S' s i = gI S s i) (h1 : ∀ i, gI S' (s + 1) i = gI S (s + 1) i) (h2 : ∀ i, gI S' (s + 2) i = gI S (s + 2) i) : SLn S' s g := by
  unfold SLn; simp only [h0, h1, h2]; exact h
theorem SLn.a {S S' : zS} {s : Nat} {g : Int → Int} (h : SLn S s g) (hs : isSt S s) (hF : FrA S S') : SLn S' s g := h.fr (fun i => hF.2.1 _ _ (by have := hs.off 0 (by omega); omega)) (fun i => hF.2.1 _ _ (by have := hs.off 1 (by omega); omega)) (fun i => hF.2.1 _ _ (by have := hs.off 2 (by omega); omega))
theorem isSt.a {S S' : zS} {s : Nat} (h : isSt S s) (hD : Dyn S S') : isSt S' s := by
  rcases h with q | q
  · exact Or.inl q
  · exact isSt.fr hD q.1 (Or.inr q)
/-- how far it has come: p, v -/
def LkV (S : zS) (cls : List Cl) (g : Int → Int) (p v : Int) : Prop := gI S 58 8 = g 0 ∧ (∀ u : Int, 0 ≤ u → u ≤ 2 → ∀ i : Nat, i < 32 → (bt (gI S 62 u) i = true ↔ ((i : Int) < p ∨ ((i : Int) = p ∧ u < v)) ∧ CanR cls g i u)) ∧ (∀ q u : Int, 0 ≤ q → 0 ≤ u → u ≤ 2 → (q < p ∨ (q = p ∧ u < v)) → gI S 63 (3 * q + u) = CstR cls g q u)
/-- where words end -/
def CutR (S : zS) (g : Int → Int) (p : Int) : Prop := ∀ i : Nat, i < 32 → (bt (gI S 58 9) i = true ↔ i = 0 ∨ (1 ≤ i ∧ (i : Int) ≤ p ∧ g (28 + ((i : Int) - 1)) = 1))
/-- words but the way of reading -/
def LkW (S : zS) (g : Int → Int) (p : Int) : Prop := gI S 61 0 = p ∧ gI S 61 1 = g (8 + p) ∧ gI S 61 3 = g (28 + p) ∧ gI S 61 4 = g (48 + p) ∧ gI S 61 5 = g 0 ∧ gI S 61 6 = g 5 ∧ gI S 61 7 = g 7
theorem LkW.d {S : zS} {g : Int → Int} {p v : Int} (h : LkW S g p) (hv : 0 ≤ v ∧ v ≤ 2) (h8 : gI S 58 8 = g 0) : LWd (sI S 61 2 v) g p v := by
  obtain ⟨a0, a1, a3, a4, a5, a6, a7⟩ := h
  refine ⟨fun i q1 q2 => ?_, by rw [gI_sI, if_neg (by omega)]; exact h8⟩
  unfold lww
  rw [gI_sI]
  rcases (show i = 0 ∨ i = 1 ∨ i = 2 ∨ i = 3 ∨ i = 4 ∨ i = 5 ∨ i = 6 ∨ i = 7 by omega) with rfl | rfl | rfl | rfl | rfl | rfl | rfl | rfl
  · exact a0
  · exact a1
  · exact i32_id (by omega) (by omega)
  · exact a3
  · exact a4
  · exact a5
  · exact a6
  · exact a7
theorem canI_b {cls : List Cl} {g : Int → Int} {p : Nat} {v : Int} {x : Int32} (hp : p < 32) (i : Nat) (hi : i < 32) : (canI cls g p v x).toBitVec.getLsbD i = true ↔ x.toBitVec.getLsbD i = true ∨ (i = p ∧ CanR cls g p v) := by
  unfold canI
  rw [or_b, Bool.or_eq_true]
  by_cases q : (jud cls g p v).1 ≠ 0 ∧ (jud cls g p v).2.1 = 0
  · rw [if_pos q, one_b hp, decide_eq_true_eq]
    constructor
    · rintro (h | h)
      · exact Or.inl h
      · exact Or.inr ⟨h.1, q⟩
    · rintro (h | h)
      · exact Or.inl h
      · exact Or.inr ⟨h.1, hi⟩
  · rw [if_neg q, zero_b]
    constructor
    · rintro (h | h)
      · exact Or.inl h
      · cases h
    · rintro (h | h)
      · exact Or.inl h
      · exact absurd h.2 q
theorem LkV.jud {S T : zS} {cls : List Cl} {g : Int → Int} {p v : Int} (h : LkV S cls g p v) (hF : FrSk 60 (sI S 61 2 v) T) (hp : 0 ≤ p ∧ p < 20) (hv : 0 ≤ v ∧ v ≤ 2) (hk : ∀ cl ∈ cls, LwK cl) : LkV (judS T cls g p v) cls g p (v + 1) := by
  obtain ⟨h1, h3, h4⟩ := h
  have hc := CstR_b (g := g) (p := p) (v := v) hk
  have e : ∀ a i, a ≠ 60 → a ≠ 61 → gI T a i = gI S a i := fun a i q1 q2 => by rw [hF.2.1 a i q1, gI_sI, if_neg (by omega)]
  obtain ⟨pn, rfl⟩ : ∃ pn : Nat, p = pn := ⟨p.toNat, by omega⟩
  unfold judS
  refine ⟨by rw [gI_sI, if_neg (by omega), gI_sI, if_neg (by omega), e _ _ (by omega) (by omega)]; exact h1, fun u u1 u2 i hi => ?_, fun q u q1 u1 u2 hq => ?_⟩
  · rw [gI_sI]
    by_cases q : u = v
    · subst q
      rw [if_pos ⟨rfl, rfl⟩, bt_i32, bt_to, canI_b (by omega) i hi, e _ _ (by omega) (by omega)]
      have := h3 u u1 u2 i hi
      unfold bt at this
      rw [this]
      constructor
      · rintro (⟨w1 | w1, w2⟩ | ⟨w1, w2⟩)
        · exact ⟨Or.inl w1, w2⟩
        · omega
        · subst w1; exact ⟨Or.inr ⟨rfl, by omega⟩, w2⟩
      · rintro ⟨w1 | w1, w2⟩
        · exact Or.inl ⟨Or.inl w1, w2⟩
        · refine Or.inr ⟨by omega, ?_⟩
          rw [← w1.1]; exact w2
    · rw [if_neg (by omega), gI_sI, if_neg (by omega), e _ _ (by omega) (by omega), h3 u u1 u2 i hi]
      constructor
      · rintro ⟨w1 | w1, w2⟩
        · exact ⟨Or.inl w1, w2⟩
        · exact ⟨Or.inr ⟨w1.1, by omega⟩, w2⟩
      · rintro ⟨w1 | w1, w2⟩
        · exact ⟨Or.inl w1, w2⟩
        · exact ⟨Or.inr ⟨w1.1, by omega⟩, w2⟩
  · rw [gI_sI, if_neg (by omega), gI_sI]
    by_cases w : q = pn ∧ u = v
    · obtain ⟨rfl, rfl⟩ := w
      rw [if_pos ⟨rfl, rfl⟩]; exact i32_id (by omega) (by omega)
    · rw [if_neg (by omega), e _ _ (by omega) (by omega)]
      exact h4 q u q1 u1 u2 (by omega)
