/-! layMetre: all of it -/
section
variable {X : zX} {d : Nat}
theorem dst3_len {op : Int} {st : List T3} (h : 4 ≤ op ∧ op ≤ 5) (hl : 2 ≤ st.length) : ∃ x y r, st = y :: x :: r ∧ dst3 st op = (if op = 4 then cat3 x y else or3 x y) :: r := by
  match st, hl with
  | y :: x :: r, _ =>
    refine ⟨x, y, r, rfl, ?_⟩
    unfold dst3
    rw [if_neg (by omega)]
    simp only []
    by_cases q : op = 4
    · rw [if_pos q, if_pos q]
    · rw [if_neg q, if_pos (by omega), if_neg q]
theorem l220 (hd : 0 < d) {m at_ : Int} (hat : 80 ≤ at_ ∧ at_ ≤ 2090) : ∀ (r : List Int) (k n : Int) (S : zS) (st : List T3) (x5 x6 : Option Value), 0 ≤ k → gI S 74 at_ = k + r.length → gI S 74 at_ ≤ 400 → (∀ (j : Nat) (y : Int), r[j]? = some y → gI S 74 (at_ + 1 + (k + j)) = y) → vld r st.length → (∀ y ∈ r, 0 ≤ y ∧ y ≤ 5) → gI S 72 51 = n → 0 ≤ n → n + nst r ≤ 200 → Frs (UA S n) (fsA S) (gI S 97) st n → B01 S n → FolB S n → ∃ (S' : zS) (y3 : Int) (y5 y6 : Option Value), z_ev X d (220, 19, L220 m at_ st.length k x5 x6, [], mk S) = z_ev X d (220, 178, L220 m at_ y3 (k + r.length) y5 y6, [], mk S') ∧ FrLy S S' ∧ gI S' 72 51 = n + nst r ∧ Frs (UA S' (n + nst r)) (fsA S') (gI S' 97) (r.foldl dst3 st) (n + nst r) ∧ B01 S' (n + nst r) ∧ FolB S' (n + nst r) := by
  intro r
  induction r with
  | nil =>
    intro k n S st x5 x6 hk hlen h400 hops hv hr hn h0 h200 hF hb hf
    have e0 : (([] : List Int).length : Int) = 0 := rfl
    have e1 : (nst [] : Int) = 0 := rfl
    rw [e0, Int.add_zero] at hlen
    rw [e0, e1, Int.add_zero, Int.add_zero]
    have hle := hF.le
    refine ⟨S, st.length, x5, x6, ?_, FrLy.rf, hn, hF, hb, hf⟩
    rw [B220_19]
    simp (disch := first | omega | assumption | exact b01_rng _ | exact st_5 | exact st_12 | exact st_19 | (simp only [isSt_sI, isSt_sJ, isSt_sF, isSt_sG, isSt_sA]; assumption)) only [↓a_100, ↓a_101, ↓a_102, ↓a_74, ↓a_97, ↓a_99, ↓n_100, ↓n_101, ↓n_102, ↓n_74, ↓n_97, ↓n_99, ↓o_72, ↓r_72_3, ↓r_72_48, ↓r_72_50, ↓r_72_51, ↓r_72_52, ↓r_72_53, ↓r_72_54, ↓s_100, ↓s_101, ↓s_102, ↓s_74, ↓s_97, ↓s_99, ↓w_72_51, i_lit, i_add, i_sub, i_mul, i_neg, i_lt, i_le, i_eq, i32_gI, i64_gJ, i32_id, i32_to, i64_to, sI_i32, sJ_i64, b01_t, b01_f, i32_b01, b01_0, ↓a_s0, ↓n_s0, ↓a_s1, ↓n_s1, Int.add_zero, t_lt, f_lt, t_le, f_le, t_eq, f_eq, true_and, and_true, false_and, and_false, and_self, ↓reduceIte, z_bool_of, or_true, true_or, or_false, false_or, Int.neg_neg, not_true_eq_false, not_false_eq_true, lg_lt, lg_le, lg_gt, lg_ge, lg_eq, j_lit, j_add, j_sub, j_mul, j_neg, j_eq, i64_id, ij, ji, z_rt, Nat.reduceEqDiff, Nat.reduceAdd, Int.reduceAdd, Int.reduceSub, Int.reduceMul, Int.reduceNeg, Int.reduceLT, Int.reduceLE, Int.reduceEq, hlen]
  | cons op r ih =>
    intro k n S st x5 x6 hk hlen h400 hops hv hr hn h0 h200 hF hb hf
    have hle := hF.le
    have hop : gI S 74 (at_ + 1 + k) = op := by
      have := hops 0 op rfl
      rw [show at_ + 1 + (k + ((0 : Nat) : Int)) = at_ + 1 + k by omega] at this; exact this
    have hlc : (((op :: r).length : Nat) : Int) = r.length + 1 := by rw [List.length_cons]; omega
    rw [hlc] at hlen
    have hro := hr op (List.mem_cons_self ..)
    have hr' := fun y hy => hr y (List.mem_cons_of_mem _ hy)
    have hops' : ∀ (S' : zS), FrLy S S' → ∀ (j : Nat) (y : Int), r[j]? = some y → gI S' 74 (at_ + 1 + (k + 1 + j)) = y := fun S' hfr j y hy => by
      have := hops (j + 1) y hy
      rw [hfr.2.1 74 _ (by omega) (by omega) (by omega), show at_ + 1 + (k + 1 + (j : Int)) = at_ + 1 + (k + ((j + 1 : Nat) : Int)) by omega]; exact this
    have hfold : (op :: r).foldl dst3 st = r.foldl dst3 (dst3 st op) := rfl
    rw [hfold, hlc]
    by_cases q : op < 4
    · have hns : nst (op :: r) = nst r + 1 := by
        unfold nst; rw [List.filter_cons, if_pos (by rw [decide_eq_true_eq]; exact q), List.length_cons]
      rw [hns] at h200 ⊢
      have hv' : vld r (st.length + 1) := by
        have : (if op < 4 then 0 ≤ op ∧ vld r (st.length + 1) else _) := hv
        rw [if_pos q] at this; exact this.2
      obtain ⟨S1, y5, y6, e1, e2, e3, e4, e5, e6⟩ := t220a (X := X) (d := d) (m := m) (at_ := at_) (top := st.length) (k := k) (n := n) (op := op) (x5 := x5) (x6 := x6) (S := S) hat (by omega) h400 hop ⟨hro.1, q⟩ hn (by omega) (by omega) hF rfl hb hf
      have hdl : (dst3 st op).length = st.length + 1 := by unfold dst3; rw [if_pos q]; rfl
      obtain ⟨S', y3, z5, z6, w1, w2, w3, w4, w5, w6⟩ := ih (k + 1) (n + 1) S1 (dst3 st op) y5 y6 (by omega) (by rw [e2.2.1 74 at_ (by omega) (by omega) (by omega)]; omega) (by rw [e2.2.1 74 at_ (by omega) (by omega) (by omega)]; exact h400) (hops' S1 e2) (by rw [hdl]; exact hv') hr' e3 (by omega) (by omega) e4 e5 e6
      have en : n + 1 + (nst r : Int) = n + ((nst r + 1 : Nat) : Int) := by omega
      rw [en] at w3 w4 w5 w6
      refine ⟨S', y3, z5, z6, ?_, e2.tr w2, w3, w4, w5, w6⟩
      rw [e1, show k + ((r.length : Int) + 1) = k + 1 + r.length by omega, ← w1, hdl]
      rfl
    · have hns : nst (op :: r) = nst r := by
        unfold nst; rw [List.filter_cons, if_neg (by rw [decide_eq_true_eq]; exact q)]
      rw [hns] at h200 ⊢
      have hv' : 2 ≤ st.length ∧ vld r (st.length - 1) := by
        have : (if op < 4 then 0 ≤ op ∧ vld r (st.length + 1) else if op < 6 then 2 ≤ st.length ∧ vld r (st.length - 1) else _) := hv
        rw [if_neg q, if_pos (by omega)] at this; exact this
      obtain ⟨x, y, rs, hst, hd3⟩ := dst3_len (op := op) (st := st) (by omega) hv'.1
      subst hst
      have hl2 : ((y :: x :: rs).length : Int) = rs.length + 2 := by rw [List.length_cons, List.length_cons]; omega
      have hl3 : (y :: x :: rs).length - 1 = rs.length + 1 := by rw [List.length_cons, List.length_cons]; omega
      have hdl : (dst3 (y :: x :: rs) op).length = rs.length + 1 := by rw [hd3]; rfl
      rw [hl3] at hv'
      by_cases q4 : op = 4
      · subst q4
        obtain ⟨S1, y5, y6, e1, e2, e3, e4, e5, e6⟩ := t220c (X := X) (d := d) hd (m := m) (at_ := at_) (top := rs.length + 2) (k := k) (n := n) (x5 := x5) (x6 := x6) (S := S) hat (by omega) h400 hop hn (by omega) (by omega) rfl hF hb hf
        rw [if_pos rfl] at hd3
        obtain ⟨S', y3, z5, z6, w1, w2, w3, w4, w5, w6⟩ := ih (k + 1) n S1 (dst3 (y :: x :: rs) 4) y5 y6 (by omega) (by rw [e2.2.1 74 at_ (by omega) (by omega) (by omega)]; omega) (by rw [e2.2.1 74 at_ (by omega) (by omega) (by omega)]; exact h400) (hops' S1 e2) (by rw [hdl]; exact hv'.2) hr' e3 h0 h200 (by rw [hd3]; exact e4) e5 e6
        refine ⟨S', y3, z5, z6, ?_, e2.tr w2, w3, w4, w5, w6⟩
        rw [hl2, e1, show k + ((r.length : Int) + 1) = k + 1 + r.length by omega, ← w1, hdl, show (rs.length : Int) + 2 - 1 = ((rs.length + 1 : Nat) : Int) by omega]
      · have q5 : op = 5 := by omega
        subst q5
        obtain ⟨y5, y6, e1, e4⟩ := t220b (X := X) (d := d) (m := m) (at_ := at_) (top := rs.length + 2) (k := k) (n := n) (x5 := x5) (x6 := x6) (S := S) hat (by omega) h400 hop (by omega) hF
        rw [if_neg (by omega)] at hd3
        obtain ⟨S', y3, z5, z6, w1, w2, w3, w4, w5, w6⟩ := ih (k + 1) n S (dst3 (y :: x :: rs) 5) y5 y6 (by omega) (by omega) h400 (hops' S FrLy.rf) (by rw [hdl]; exact hv'.2) hr' hn h0 h200 (by rw [hd3]; exact e4) hb hf
        refine ⟨S', y3, z5, z6, ?_, w2, w3, w4, w5, w6⟩
        rw [hl2, e1, show k + ((r.length : Int) + 1) = k + 1 + r.length by omega, ← w1, hdl, show (rs.length : Int) + 2 - 1 = ((rs.length + 1 : Nat) : Int) by omega]
/-- the firsts follow the beginning -/
theorem l220f {m at_ x3 n : Int} (hn : 1 ≤ n ∧ n ≤ 200) {x5 x6 : Option Value} : ∀ (c : Nat) (s : Int) (S : zS), s + c = n + 1 → 1 ≤ s → gI S 72 51 = n → (∀ i, 1 ≤ i → i ≤ n → gI S 101 i = 0 ∨ gI S 101 i = 1) → z_ev X d (220, 181, L220 m at_ x3 s x5 x6, [], mk S) = some (none, mk (sF S 100 s (n + 1) (fun i => gI S 101 i))) := by
  intro c
  induction c with
  | zero =>
    intro s S hc hs h51 hb
    rw [sF_nil (by omega), B220_181]
    simp (disch := first | omega | assumption | exact b01_rng _ | exact st_5 | exact st_12 | exact st_19 | (simp only [isSt_sI, isSt_sJ, isSt_sF, isSt_sG, isSt_sA]; assumption)) only [↓B220_210, ↓a_100, ↓a_101, ↓a_102, ↓a_74, ↓a_97, ↓a_99, ↓n_100, ↓n_101, ↓n_102, ↓n_74, ↓n_97, ↓n_99, ↓o_72, ↓r_72_3, ↓r_72_48, ↓r_72_50, ↓r_72_51, ↓r_72_52, ↓r_72_53, ↓r_72_54, ↓s_100, ↓s_101, ↓s_102, ↓s_74, ↓s_97, ↓s_99, ↓w_72_51, i_lit, i_add, i_sub, i_mul, i_neg, i_lt, i_le, i_eq, i32_gI, i64_gJ, i32_id, i32_to, i64_to, sI_i32, sJ_i64, b01_t, b01_f, i32_b01, b01_0, ↓a_s0, ↓n_s0, ↓a_s1, ↓n_s1, Int.add_zero, t_lt, f_lt, t_le, f_le, t_eq, f_eq, true_and, and_true, false_and, and_false, and_self, ↓reduceIte, z_bool_of, or_true, true_or, or_false, false_or, Int.neg_neg, not_true_eq_false, not_false_eq_true, lg_lt, lg_le, lg_gt, lg_ge, lg_eq, j_lit, j_add, j_sub, j_mul, j_neg, j_eq, i64_id, ij, ji, z_rt, Nat.reduceEqDiff, Nat.reduceAdd, Int.reduceAdd, Int.reduceSub, Int.reduceMul, Int.reduceNeg, Int.reduceLT, Int.reduceLE, Int.reduceEq, h51]
  | succ c ih =>
    intro s S hc hs h51 hb
    have hbs := hb s hs (by omega)
    have e := ih (s + 1) (sI S 100 s (gI S 101 s)) (by omega) (by omega) (by rw [gI_sI, if_neg (by omega)]; exact h51) (fun i q1 q2 => by rw [gI_sI, if_neg (by omega)]; exact hb i q1 q2)
    rw [show (fun i => gI (sI S 100 s (gI S 101 s)) 101 i) = (fun i => gI S 101 i) from funext fun i => by rw [gI_sI, if_neg (by omega)]] at e
    rw [sF_step (by omega) rfl] at e
    rw [← e, B220_181]
    simp (disch := first | omega | assumption | exact b01_rng _ | exact st_5 | exact st_12 | exact st_19 | (simp only [isSt_sI, isSt_sJ, isSt_sF, isSt_sG, isSt_sA]; assumption)) only [↓B220_190, ↓a_100, ↓a_101, ↓a_102, ↓a_74, ↓a_97, ↓a_99, ↓n_100, ↓n_101, ↓n_102, ↓n_74, ↓n_97, ↓n_99, ↓o_72, ↓r_72_3, ↓r_72_48, ↓r_72_50, ↓r_72_51, ↓r_72_52, ↓r_72_53, ↓r_72_54, ↓s_100, ↓s_101, ↓s_102, ↓s_74, ↓s_97, ↓s_99, ↓w_72_51, i_lit, i_add, i_sub, i_mul, i_neg, i_lt, i_le, i_eq, i32_gI, i64_gJ, i32_id, i32_to, i64_to, sI_i32, sJ_i64, b01_t, b01_f, i32_b01, b01_0, ↓a_s0, ↓n_s0, ↓a_s1, ↓n_s1, Int.add_zero, t_lt, f_lt, t_le, f_le, t_eq, f_eq, true_and, and_true, false_and, and_false, and_self, ↓reduceIte, z_bool_of, or_true, true_or, or_false, false_or, Int.neg_neg, not_true_eq_false, not_false_eq_true, lg_lt, lg_le, lg_gt, lg_ge, lg_eq, j_lit, j_add, j_sub, j_mul, j_neg, j_eq, i64_id, ij, ji, z_rt, Nat.reduceEqDiff, Nat.reduceAdd, Int.reduceAdd, Int.reduceSub, Int.reduceMul, Int.reduceNeg, Int.reduceLT, Int.reduceLE, Int.reduceEq, h51]
    rw [if_pos hbs]
/-- a metre is laid -/
def LyR (S : zS) (x : T3) : Prop := gI S 72 51 = x.2.1 ∧ (1 ≤ x.2.1 ∧ x.2.1 ≤ 200) ∧ B01 S x.2.1 ∧ FolB S x.2.1 ∧ gL (UA S x.2.1) 0 = x.1 ∧ ∀ s : Int, 0 ≤ s → s ≤ x.2.1 → ∃ w, gk (UA S x.2.1) w s
/-- a metre, as the reference has it -/
def MtR (g : Int → Int) (b : Int) (x : T3) : Prop := OK3 x ∧ x.2.1 ≤ 200 ∧ g b = x.2.2.length ∧ ∀ (j : Nat) (y : Int), x.2.2[j]? = some y → g (b + 1 + j) = y
theorem x220 (hd : 0 < d) {S : zS} {m : Int} (hm : 0 ≤ m ∧ m < 6) {x : T3} (hX : MtR (gI S 74) (80 + 402 * m) x) : ∃ S' : zS, z_ev X d (z_entry 220 [.ref 72, .int (Int32.ofInt m)] (mk S)) = some (none, mk S') ∧ FrLy S S' ∧ LyR S' x := by
  obtain ⟨⟨o1, o2, o3, o4, o5⟩, h200, hl, hops⟩ := hX
  have hl4 : x.2.2.length + 1 = 2 * x.2.1 := o3
  obtain ⟨S1, hS1⟩ : ∃ S1 : zS, S1 = sI S 72 51 0 := ⟨_, rfl⟩
  have f1 : FrLy S S1 := by rw [hS1]; exact FrLy.N
  have f74 : ∀ i, gI S1 74 i = gI S 74 i := fun i => f1.2.1 74 i (by omega) (by omega) (by omega)
  obtain ⟨S2, y3, y5, y6, e1, e2, e3, e4, e5, e6⟩ := l220 (X := X) (d := d) hd (m := m) (at_ := 80 + 402 * m) (by omega) x.2.2 0 0 S1 [] none none (by omega) (by rw [f74]; omega) (by rw [f74]; omega) (fun j y hj => by rw [f74, show 80 + 402 * m + 1 + (0 + (j : Int)) = 80 + 402 * m + 1 + j by omega]; exact hops j y hj) (by have := o1.2 0 [] trivial; rw [List.append_nil] at this; exact this) o4 (by rw [hS1, gI_sI, if_pos ⟨rfl, rfl⟩]; rfl) (by omega) (by rw [o5]; omega) (by show (0 : Int) = 0; rfl) (fun i q1 q2 => by omega) (fun s o q1 q2 q3 => by omega)
  rw [o1.1 [], o5] at e4
  rw [o5] at e3 e5 e6
  rw [show (0 : Int) + (x.2.1 : Int) = x.2.1 by omega] at e3 e4 e5 e6
  obtain ⟨a, a1, a2, a3⟩ := e4
  have ha : a - 1 = 0 := a3
  have ha1 : a = 1 := by omega
  subst ha1
  have e7 := l220f (X := X) (d := d) (m := m) (at_ := 80 + 402 * m) (x3 := y3) (n := x.2.1) (x5 := y5) (x6 := y6) (by omega) x.2.1 1 S2 (by omega) (by omega) e3 (fun i q1 q2 => (e5 i q1 q2).1)
  obtain ⟨S3, hS3⟩ : ∃ S3 : zS, S3 = sF S2 100 1 ((x.2.1 : Int) + 1) (fun i => gI S2 101 i) := ⟨_, rfl⟩
  rw [← hS3] at e7
  have f3 : FrLy S2 S3 := by rw [hS3]; exact FrLy.F (by omega)
  have go : ∀ b i, b ≠ 100 → gI S3 b i = gI S2 b i := fun b i q => by rw [hS3, gI_sF, if_neg (by omega)]
  have g0 : ∀ o : Int, 1 ≤ o → o ≤ x.2.1 → gI S3 100 (201 * 0 + o) = gI S2 101 o := fun o q1 q2 => by
    rw [hS3, gI_sF, show 201 * 0 + o = o by omega, if_pos ⟨rfl, q1, by omega⟩, i32_gI]
  have gs : ∀ s o : Int, 1 ≤ s → 0 ≤ o → gI S3 100 (201 * s + o) = gI S2 100 (201 * s + o) := fun s o q1 q2 => by
    rw [hS3, gI_sF, if_neg (by omega)]
  obtain ⟨k1, k2⟩ := Frag.all (V := UA S3 x.2.1) a2 (fun o => by
    show ((0 ≤ (0 : Int) ∧ 0 < o ∧ o ≤ x.2.1) ∧ gI S3 100 (201 * 0 + o) = 1) ↔ 1 ≤ o ∧ o ≤ x.2.1 ∧ gI S2 101 o = 1
    constructor
    · rintro ⟨w1, w2⟩; rw [g0 o (by omega) (by omega)] at w2; exact ⟨by omega, by omega, w2⟩
    · rintro ⟨w1, w2, w3⟩; exact ⟨by omega, by rw [g0 o w1 w2]; exact w3⟩) (fun w => by have : (0 : Int) < 0 := w.1; omega) (fun s o q1 q2 => by
    show ((0 ≤ s ∧ s < o ∧ o ≤ x.2.1) ∧ gI S3 100 (201 * s + o) = 1) ↔ ((0 ≤ s ∧ s < o ∧ o ≤ x.2.1) ∧ gI S2 100 (201 * s + o) = 1)
    constructor
    · rintro ⟨w1, w2⟩; rw [gs s o q1 (by omega)] at w2; exact ⟨w1, w2⟩
    · rintro ⟨w1, w2⟩; exact ⟨w1, by rw [gs s o q1 (by omega)]; exact w2⟩) (fun s q1 q2 => by
    show (0 < s ∧ gI S3 102 s = 1) ↔ (0 < s ∧ gI S2 102 s = 1)
    rw [go 102 s (by omega)]) (fun s q1 q2 => go 99 s (by omega))
  refine ⟨S3, ?_, (f1.tr e2).tr f3, by rw [go 72 51 (by omega)]; exact e3, ⟨o2, h200⟩, fun i q1 q2 => by rw [go 101 i (by omega), go 102 i (by omega), go 99 i (by omega)]; exact e5 i q1 q2, fun s o q1 q2 q3 => ?_, k1, k2⟩
  · have st : z_ev X d (z_entry 220 [.ref 72, .int (Int32.ofInt m)] (mk S)) = z_ev X d (220, 19, L220 m (80 + 402 * m) 0 0 none none, [], mk S1) := by
      rw [hS1]
      show z_ev X d (220, 0, [some (.ref 72), some (.int (Int32.ofInt m)), none, none, none, none, none], [], mk S) = _
      simp (disch := first | omega | assumption | exact b01_rng _ | exact st_5 | exact st_12 | exact st_19 | (simp only [isSt_sI, isSt_sJ, isSt_sF, isSt_sG, isSt_sA]; assumption)) only [↓B220_0, ↓a_100, ↓a_101, ↓a_102, ↓a_74, ↓a_97, ↓a_99, ↓n_100, ↓n_101, ↓n_102, ↓n_74, ↓n_97, ↓n_99, ↓o_72, ↓r_72_3, ↓r_72_48, ↓r_72_50, ↓r_72_51, ↓r_72_52, ↓r_72_53, ↓r_72_54, ↓s_100, ↓s_101, ↓s_102, ↓s_74, ↓s_97, ↓s_99, ↓w_72_51, i_lit, i_add, i_sub, i_mul, i_neg, i_lt, i_le, i_eq, i32_gI, i64_gJ, i32_id, i32_to, i64_to, sI_i32, sJ_i64, b01_t, b01_f, i32_b01, b01_0, ↓a_s0, ↓n_s0, ↓a_s1, ↓n_s1, Int.add_zero, t_lt, f_lt, t_le, f_le, t_eq, f_eq, true_and, and_true, false_and, and_false, and_self, ↓reduceIte, z_bool_of, or_true, true_or, or_false, false_or, Int.neg_neg, not_true_eq_false, not_false_eq_true, lg_lt, lg_le, lg_gt, lg_ge, lg_eq, j_lit, j_add, j_sub, j_mul, j_neg, j_eq, i64_id, ij, ji, z_rt, Nat.reduceEqDiff, Nat.reduceAdd, Int.reduceAdd, Int.reduceSub, Int.reduceMul, Int.reduceNeg, Int.reduceLT, Int.reduceLE, Int.reduceEq]
    have e1' : z_ev X d (220, 19, L220 m (80 + 402 * m) 0 0 none none, [], mk S1) = _ := e1
    rw [st, e1', ← e7]
    simp (disch := first | omega | assumption | exact b01_rng _ | exact st_5 | exact st_12 | exact st_19 | (simp only [isSt_sI, isSt_sJ, isSt_sF, isSt_sG, isSt_sA]; assumption)) only [↓B220_178, i_lit, i_add, i_sub, i_mul, i_neg, i_lt, i_le, i_eq, i32_gI, i64_gJ, i32_id, i32_to, i64_to, sI_i32, sJ_i64, b01_t, b01_f, i32_b01, b01_0, ↓a_s0, ↓n_s0, ↓a_s1, ↓n_s1, Int.add_zero, t_lt, f_lt, t_le, f_le, t_eq, f_eq, true_and, and_true, false_and, and_false, and_self, ↓reduceIte, z_bool_of, or_true, true_or, or_false, false_or, Int.neg_neg, not_true_eq_false, not_false_eq_true, lg_lt, lg_le, lg_gt, lg_ge, lg_eq, j_lit, j_add, j_sub, j_mul, j_neg, j_eq, i64_id, ij, ji, z_rt, Nat.reduceEqDiff, Nat.reduceAdd, Int.reduceAdd, Int.reduceSub, Int.reduceMul, Int.reduceNeg, Int.reduceLT, Int.reduceLE, Int.reduceEq]
  · by_cases q : s = 0
    · subst q
      rw [g0 o (by omega) q3]; exact (e5 o (by omega) q3).1
    · rw [gs s o (by omega) (by omega)]; exact e6 s o q1 q2 q3
end
