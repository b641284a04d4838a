/-! few -/
theorem sG_stepR {S : zS} {a : Nat} {lo hi x : Int} {f : Int → Int} (h : lo ≤ hi) (hx : x = f hi) : sG (sJ S a hi x) a lo hi f = sG S a lo (hi + 1) f := by
  subst hx
  refine zS_ext (fun _ _ => rfl) (fun b j => ?_) (fun _ _ => rfl) (fun _ => rfl) rfl rfl
  rw [gJ_sG, gJ_sG, gJ_sJ]
  by_cases q : b = a ∧ j = hi
  · obtain ⟨rfl, rfl⟩ := q
    rw [if_neg (by omega), if_pos ⟨rfl, rfl⟩, if_pos (by omega)]
  · rw [if_neg q]
    by_cases q2 : b = a ∧ lo ≤ j ∧ j < hi
    · rw [if_pos q2, if_pos (by omega)]
    · rw [if_neg q2, if_neg (by intro h; apply q2; refine ⟨h.1, h.2.1, ?_⟩; have : j ≠ hi := fun e => q ⟨h.1, e⟩; omega)]
/-- how likely it is that j of n slip -/
def fw (s : Int) : Nat → Int → Int
  | 0, j => if j = 0 then 1000000000000 else 0
  | n + 1, j => fw s n j * (10 - s) / 10 + (if j = 0 then 0 else fw s n (j - 1) * s / 10)
theorem fw_rng {s : Int} (hs : 0 ≤ s ∧ s ≤ 10) : ∀ (n : Nat) (j : Int), 0 ≤ fw s n j ∧ fw s n j ≤ 1000000000000 := by
  intro n
  induction n with
  | zero => intro j; unfold fw; split <;> omega
  | succ n ih =>
    intro j
    have h1 := ih j
    have h2 := ih (j - 1)
    unfold fw
    have a1 : 0 ≤ fw s n j * (10 - s) := Int.mul_nonneg h1.1 (by omega)
    have a2 : fw s n j * (10 - s) ≤ 1000000000000 * (10 - s) := Int.mul_le_mul_of_nonneg_right h1.2 (by omega)
    have b1 : 0 ≤ fw s n (j - 1) * s := Int.mul_nonneg h2.1 (by omega)
    have b2 : fw s n (j - 1) * s ≤ 1000000000000 * s := Int.mul_le_mul_of_nonneg_right h2.2 (by omega)
    split <;> omega
def fsum (f : Int → Int) (j : Int) : Nat → Int
  | 0 => 0
  | n + 1 => f j + fsum f (j + 1) n
theorem fsum_rng {f : Int → Int} (h : ∀ j, 0 ≤ f j ∧ f j ≤ 1000000000000) : ∀ (n : Nat) (j : Int), 0 ≤ fsum f j n ∧ fsum f j n ≤ 1000000000000 * n := by
  intro n
  induction n with
  | zero => intro j; exact ⟨Int.le_refl _, Int.le_refl _⟩
  | succ n ih =>
    intro j
    have h1 := h j
    have h2 := ih (j + 1)
    unfold fsum
    omega
theorem tdiv10 {a : Int} (h : 0 ≤ a) : a.tdiv 10 = a / 10 := Int.tdiv_eq_ediv_of_nonneg h
theorem l278 {X : zX} {d : Nat} : ∀ (n : Nat) (i : Int) (S : zS), 0 ≤ i → i + n = 20 → z_ev X d (278, 6, [some (.ref 70), some (.long (Int64.ofInt 0)), none, some (.int (Int32.ofInt i)), some (.int (Int32.ofInt 20))], [], mk S) = some (none, mk (sG S 70 i 20 (fun _ => 0))) := by
  intro n
  induction n with
  | zero =>
    intro i S h0 hi
    rw [sG_nil (by omega), B278_6]
    simp (disch := first | omega | assumption | exact b01_rng _ | exact st_5 | exact st_12 | exact st_19 | (simp only [isSt_sI, isSt_sJ, isSt_sF, isSt_sG, isSt_sA]; assumption)) only [↓B278_22, i_lit, i_add, i_sub, i_mul, i_neg, i_lt, i_le, i_eq, i32_gI, i64_gJ, i32_id, i32_to, i64_to, sI_i32, sJ_i64, b01_t, b01_f, i32_b01, b01_0, ↓a_s0, ↓n_s0, ↓a_s1, ↓n_s1, Int.add_zero, t_lt, f_lt, t_le, f_le, t_eq, f_eq, true_and, and_true, false_and, and_false, and_self, ↓reduceIte, z_bool_of, or_true, true_or, or_false, false_or, Int.neg_neg, not_true_eq_false, not_false_eq_true, lg_lt, lg_le, lg_gt, lg_ge, lg_eq, j_lit, j_add, j_sub, j_mul, j_neg, j_eq, i64_id, ij, ji, z_rt, Nat.reduceEqDiff, Nat.reduceAdd, Int.reduceAdd, Int.reduceSub, Int.reduceMul, Int.reduceNeg, Int.reduceLT, Int.reduceLE, Int.reduceEq]
  | succ n ih =>
    intro i S h0 hi
    rw [B278_6]
    simp (disch := first | omega | assumption | exact b01_rng _ | exact st_5 | exact st_12 | exact st_19 | (simp only [isSt_sI, isSt_sJ, isSt_sF, isSt_sG, isSt_sA]; assumption)) only [↓B278_12, ↓s_70, i_lit, i_add, i_sub, i_mul, i_neg, i_lt, i_le, i_eq, i32_gI, i64_gJ, i32_id, i32_to, i64_to, sI_i32, sJ_i64, b01_t, b01_f, i32_b01, b01_0, ↓a_s0, ↓n_s0, ↓a_s1, ↓n_s1, Int.add_zero, t_lt, f_lt, t_le, f_le, t_eq, f_eq, true_and, and_true, false_and, and_false, and_self, ↓reduceIte, z_bool_of, or_true, true_or, or_false, false_or, Int.neg_neg, not_true_eq_false, not_false_eq_true, lg_lt, lg_le, lg_gt, lg_ge, lg_eq, j_lit, j_add, j_sub, j_mul, j_neg, j_eq, i64_id, ij, ji, z_rt, Nat.reduceEqDiff, Nat.reduceAdd, Int.reduceAdd, Int.reduceSub, Int.reduceMul, Int.reduceNeg, Int.reduceLT, Int.reduceLE, Int.reduceEq]
    rw [ih (i + 1) _ (by omega) (by omega), sG_step (S := S) (a := 70) (lo := i) (hi := 20) (x := 0) (f := fun _ => 0) (by omega) rfl]
theorem e278 {X : zX} {d : Nat} (hd : 0 ≤ d) {S : zS} : z_ev X d (z_entry 278 [.ref 70, .long (Int64.ofInt 0)] (mk S)) = some (none, mk (sG S 70 0 20 (fun _ => 0))) := by
  show z_ev X d (278, 0, [some (.ref 70), some (.long (Int64.ofInt 0)), none, none, none], [], mk S) = _
  rw [B278_0]
  simp (disch := first | omega | assumption | exact b01_rng _ | exact st_5 | exact st_12 | exact st_19 | (simp only [isSt_sI, isSt_sJ, isSt_sF, isSt_sG, isSt_sA]; assumption)) only [↓n_70, i_lit, i_add, i_sub, i_mul, i_neg, i_lt, i_le, i_eq, i32_gI, i64_gJ, i32_id, i32_to, i64_to, sI_i32, sJ_i64, b01_t, b01_f, i32_b01, b01_0, ↓a_s0, ↓n_s0, ↓a_s1, ↓n_s1, Int.add_zero, t_lt, f_lt, t_le, f_le, t_eq, f_eq, true_and, and_true, false_and, and_false, and_self, ↓reduceIte, z_bool_of, or_true, true_or, or_false, false_or, Int.neg_neg, not_true_eq_false, not_false_eq_true, lg_lt, lg_le, lg_gt, lg_ge, lg_eq, j_lit, j_add, j_sub, j_mul, j_neg, j_eq, i64_id, ij, ji, z_rt, Nat.reduceEqDiff, Nat.reduceAdd, Int.reduceAdd, Int.reduceSub, Int.reduceMul, Int.reduceNeg, Int.reduceLT, Int.reduceLE, Int.reduceEq]
  exact l278 20 0 S (by omega) (by omega)
theorem c278 {X : zX} {d : Nat} (hd : 0 < d) {S : zS} {cm cp : Nat} {L : zL} {st : List Value} : z_evc X d 278 [.ref 70, .long (Int64.ofInt 0)] (cm, cp, L, st, mk S) = z_ev X d (cm, cp, L, st, mk (sG S 70 0 20 (fun _ => 0))) := z_evc_of (r := (none, mk (sG S 70 0 20 (fun _ => 0)))) (ck := (cm, cp, L, st, mk S)) hd (e278 (X := X) (Nat.le_refl _) )
theorem l126b {X : zX} {d : Nat} {v1 v2 v5 : Int32} {s : Int} (hs : 0 ≤ s ∧ s ≤ 10) {F G : Int → Int} (hF : ∀ i, 0 ≤ F i ∧ F i ≤ 1000000000000) (hG : ∀ i, 1 ≤ i → G i = F i * (10 - s) / 10 + F (i - 1) * s / 10) : ∀ (n : Nat) (j : Int) (S : zS), j = n → j ≤ 19 → (∀ i, 0 ≤ i → i ≤ j → gJ S 70 i = F i) → z_ev X d (126, 70, [some (.ref 4), some (.int v1), some (.int v2), some (.long (Int64.ofInt s)), none, some (.int v5), some (.int (Int32.ofInt j)), none], [], mk S) = z_ev X d (126, 121, [some (.ref 4), some (.int v1), some (.int v2), some (.long (Int64.ofInt s)), none, some (.int v5), some (.int (Int32.ofInt 0)), none], [], mk (sG S 70 1 (j + 1) G)) := by
  intro n
  induction n with
  | zero =>
    intro j S h0 h1 hf
    subst h0
    rw [sG_nil (by omega), B126_70]
    simp (disch := first | omega | assumption | exact b01_rng _ | exact st_5 | exact st_12 | exact st_19 | (simp only [isSt_sI, isSt_sJ, isSt_sF, isSt_sG, isSt_sA]; assumption)) only [i_lit, i_add, i_sub, i_mul, i_neg, i_lt, i_le, i_eq, i32_gI, i64_gJ, i32_id, i32_to, i64_to, sI_i32, sJ_i64, b01_t, b01_f, i32_b01, b01_0, ↓a_s0, ↓n_s0, ↓a_s1, ↓n_s1, Int.add_zero, t_lt, f_lt, t_le, f_le, t_eq, f_eq, true_and, and_true, false_and, and_false, and_self, ↓reduceIte, z_bool_of, or_true, true_or, or_false, false_or, Int.neg_neg, not_true_eq_false, not_false_eq_true, lg_lt, lg_le, lg_gt, lg_ge, lg_eq, j_lit, j_add, j_sub, j_mul, j_neg, j_eq, i64_id, ij, ji, z_rt, Nat.reduceEqDiff, Nat.reduceAdd, Int.reduceAdd, Int.reduceSub, Int.reduceMul, Int.reduceNeg, Int.reduceLT, Int.reduceLE, Int.reduceEq, Int.natCast_zero, Int.ofNat_zero]
  | succ n ih =>
    intro j S h0 h1 hf
    have f1 := hF j
    have f2 := hF (j - 1)
    have e1 := hf j (by omega) (by omega)
    have e2 := hf (j - 1) (by omega) (by omega)
    have a1 : 0 ≤ F j * (10 - s) := Int.mul_nonneg f1.1 (by omega)
    have a2 : F j * (10 - s) ≤ 1000000000000 * (10 - s) := Int.mul_le_mul_of_nonneg_right f1.2 (by omega)
    have b1 : 0 ≤ F (j - 1) * s := Int.mul_nonneg f2.1 (by omega)
    have b2 : F (j - 1) * s ≤ 1000000000000 * s := Int.mul_le_mul_of_nonneg_right f2.2 (by omega)
    rw [B126_70]
    simp (disch := first | omega | assumption | exact b01_rng _ | exact st_5 | exact st_12 | exact st_19 | (simp only [isSt_sI, isSt_sJ, isSt_sF, isSt_sG, isSt_sA]; assumption)) only [↓B126_75, ↓a_70, ↓n_70, ↓o_19, ↓o_5, ↓r_4_0, ↓r_4_14, ↓s_70, i_lit, i_add, i_sub, i_mul, i_neg, i_lt, i_le, i_eq, i32_gI, i64_gJ, i32_id, i32_to, i64_to, sI_i32, sJ_i64, b01_t, b01_f, i32_b01, b01_0, ↓a_s0, ↓n_s0, ↓a_s1, ↓n_s1, Int.add_zero, t_lt, f_lt, t_le, f_le, t_eq, f_eq, true_and, and_true, false_and, and_false, and_self, ↓reduceIte, z_bool_of, or_true, true_or, or_false, false_or, Int.neg_neg, not_true_eq_false, not_false_eq_true, lg_lt, lg_le, lg_gt, lg_ge, lg_eq, j_lit, j_add, j_sub, j_mul, j_neg, j_eq, i64_id, ij, ji, z_rt, Nat.reduceEqDiff, Nat.reduceAdd, Int.reduceAdd, Int.reduceSub, Int.reduceMul, Int.reduceNeg, Int.reduceLT, Int.reduceLE, Int.reduceEq, e1, e2, j_div, tdiv10]
    have : j + -1 = j - 1 := by omega
    rw [this, ih (j - 1) _ (by omega) (by omega) (fun i q1 q2 => by rw [gJ_sJ, if_neg (by omega)]; exact hf i q1 (by omega))]
    rw [show j - 1 + 1 = j by omega, sG_stepR (by omega) (hG j (by omega)).symm]
theorem l126a {X : zX} {d : Nat} {v1 : Int32} {s n : Int} (hn : 0 ≤ n ∧ n ≤ 99) (hs : 0 ≤ s ∧ s ≤ 10) : ∀ (m : Nat) (t : Nat) (x6 : Option Value) (S : zS), (t : Int) + m = n → (∀ i, 0 ≤ i → i < 20 → gJ S 70 i = fw s t i) → ∃ (S' : zS) (x6' : Option Value), z_ev X d (126, 55, [some (.ref 4), some (.int v1), some (.int (Int32.ofInt n)), some (.long (Int64.ofInt s)), none, some (.int (Int32.ofInt t)), x6, none], [], mk S) = z_ev X d (126, 149, [some (.ref 4), some (.int v1), some (.int (Int32.ofInt n)), some (.long (Int64.ofInt s)), none, some (.int (Int32.ofInt n)), x6', none], [], mk S') ∧ (∀ i, 0 ≤ i → i < 20 → gJ S' 70 i = fw s n.toNat i) ∧ (∀ a i, gI S' a i = gI S a i) ∧ (∀ a i, a ≠ 70 → gJ S' a i = gJ S a i) ∧ (∀ a i, gQ S' a i = gQ S a i) ∧ Dyn S S' := by
  intro m
  induction m with
  | zero =>
    intro t x6 S h0 hf
    have ht : (t : Int) = n := by omega
    refine ⟨S, x6, ?_, fun i q1 q2 => by rw [hf i q1 q2, show t = n.toNat by omega], fun _ _ => rfl, fun _ _ _ => rfl, fun _ _ => rfl, Dyn.rf⟩
    rw [B126_55, ht]
    simp (disch := first | omega | assumption | exact b01_rng _ | exact st_5 | exact st_12 | exact st_19 | (simp only [isSt_sI, isSt_sJ, isSt_sF, isSt_sG, isSt_sA]; assumption)) only [i_lit, i_add, i_sub, i_mul, i_neg, i_lt, i_le, i_eq, i32_gI, i64_gJ, i32_id, i32_to, i64_to, sI_i32, sJ_i64, b01_t, b01_f, i32_b01, b01_0, ↓a_s0, ↓n_s0, ↓a_s1, ↓n_s1, Int.add_zero, t_lt, f_lt, t_le, f_le, t_eq, f_eq, true_and, and_true, false_and, and_false, and_self, ↓reduceIte, z_bool_of, or_true, true_or, or_false, false_or, Int.neg_neg, not_true_eq_false, not_false_eq_true, lg_lt, lg_le, lg_gt, lg_ge, lg_eq, j_lit, j_add, j_sub, j_mul, j_neg, j_eq, i64_id, ij, ji, z_rt, Nat.reduceEqDiff, Nat.reduceAdd, Int.reduceAdd, Int.reduceSub, Int.reduceMul, Int.reduceNeg, Int.reduceLT, Int.reduceLE, Int.reduceEq]
  | succ m ih =>
    intro t x6 S h0 hf
    have hr := fw_rng hs t
    have f0 := hr 0
    have a1 : 0 ≤ fw s t 0 * (10 - s) := Int.mul_nonneg f0.1 (by omega)
    have a2 : fw s t 0 * (10 - s) ≤ 1000000000000 * (10 - s) := Int.mul_le_mul_of_nonneg_right f0.2 (by omega)
    have e0 : gJ (sG S 70 1 20 (fw s (t + 1))) 70 0 = fw s t 0 := by rw [gJ_sG, if_neg (by omega)]; exact hf 0 (by omega) (by omega)
    obtain ⟨S', x6', g1, g2, g3, g4, g5, g6⟩ := ih (t + 1) (some (.int (Int32.ofInt 0))) (sJ (sG S 70 1 20 (fw s (t + 1))) 70 0 (fw s t 0 * (10 - s) / 10)) (by omega) (fun i q1 q2 => by
      rw [gJ_sJ]
      by_cases q : i = 0
      · subst q
        rw [if_pos ⟨rfl, rfl⟩, i64_id (by omega) (by omega)]
        show _ = fw s t 0 * (10 - s) / 10 + (if (0 : Int) = 0 then 0 else _)
        rw [if_pos rfl, Int.add_zero]
      · have hb := fw_rng hs (t + 1) i
        rw [if_neg (fun h => q h.2), gJ_sG, if_pos (by omega), i64_id (by omega) (by omega)])
    refine ⟨S', x6', ?_, g2, fun a i => by rw [g3]; rfl, fun a i q => by rw [g4 a i q, gJ_sJ, if_neg (fun h => q h.1), gJ_sG, if_neg (fun h => q h.1)], fun a i => by rw [g5]; rfl, (Dyn.sJ (Dyn.sG Dyn.rf)).tr g6⟩
    rw [← g1, B126_55]
    simp (disch := first | omega | assumption | exact b01_rng _ | exact st_5 | exact st_12 | exact st_19 | (simp only [isSt_sI, isSt_sJ, isSt_sF, isSt_sG, isSt_sA]; assumption)) only [↓B126_61, ↓a_70, ↓n_70, ↓o_19, ↓o_5, ↓r_4_0, ↓r_4_14, ↓s_70, i_lit, i_add, i_sub, i_mul, i_neg, i_lt, i_le, i_eq, i32_gI, i64_gJ, i32_id, i32_to, i64_to, sI_i32, sJ_i64, b01_t, b01_f, i32_b01, b01_0, ↓a_s0, ↓n_s0, ↓a_s1, ↓n_s1, Int.add_zero, t_lt, f_lt, t_le, f_le, t_eq, f_eq, true_and, and_true, false_and, and_false, and_self, ↓reduceIte, z_bool_of, or_true, true_or, or_false, false_or, Int.neg_neg, not_true_eq_false, not_false_eq_true, lg_lt, lg_le, lg_gt, lg_ge, lg_eq, j_lit, j_add, j_sub, j_mul, j_neg, j_eq, i64_id, ij, ji, z_rt, Nat.reduceEqDiff, Nat.reduceAdd, Int.reduceAdd, Int.reduceSub, Int.reduceMul, Int.reduceNeg, Int.reduceLT, Int.reduceLE, Int.reduceEq]
    rw [l126b hs (F := fw s t) (G := fw s (t + 1)) hr (fun i q => by show fw s t i * (10 - s) / 10 + (if i = 0 then 0 else _) = _; rw [if_neg (by omega)]) 19 19 S rfl (by omega) (fun i q1 q2 => hf i q1 (by omega))]
    rw [show (19 : Int) + 1 = 20 by rfl]
    simp (disch := first | omega | assumption | exact b01_rng _ | exact st_5 | exact st_12 | exact st_19 | (simp only [isSt_sI, isSt_sJ, isSt_sF, isSt_sG, isSt_sA]; assumption)) only [↓B126_121, ↓a_70, ↓n_70, ↓o_19, ↓o_5, ↓r_4_0, ↓r_4_14, ↓s_70, i_lit, i_add, i_sub, i_mul, i_neg, i_lt, i_le, i_eq, i32_gI, i64_gJ, i32_id, i32_to, i64_to, sI_i32, sJ_i64, b01_t, b01_f, i32_b01, b01_0, ↓a_s0, ↓n_s0, ↓a_s1, ↓n_s1, Int.add_zero, t_lt, f_lt, t_le, f_le, t_eq, f_eq, true_and, and_true, false_and, and_false, and_self, ↓reduceIte, z_bool_of, or_true, true_or, or_false, false_or, Int.neg_neg, not_true_eq_false, not_false_eq_true, lg_lt, lg_le, lg_gt, lg_ge, lg_eq, j_lit, j_add, j_sub, j_mul, j_neg, j_eq, i64_id, ij, ji, z_rt, Nat.reduceEqDiff, Nat.reduceAdd, Int.reduceAdd, Int.reduceSub, Int.reduceMul, Int.reduceNeg, Int.reduceLT, Int.reduceLE, Int.reduceEq, e0, j_div, tdiv10]
    rfl
theorem l126c {X : zX} {d : Nat} {v2 : Int32} {v3 : Int64} {k : Int} (hk : 1 ≤ k ∧ k ≤ 20) {S : zS} {F : Int → Int} (hF : ∀ i, 0 ≤ F i ∧ F i ≤ 1000000000000) (hS : ∀ i, 0 ≤ i → i < 20 → gJ S 70 i = F i) : ∀ (n : Nat) (j acc : Int), 0 ≤ j → j + n = k → 0 ≤ acc → acc ≤ 1000000000000 * j → z_ev X d (126, 155, [some (.ref 4), some (.int (Int32.ofInt k)), some (.int v2), some (.long v3), none, some (.long (Int64.ofInt acc)), none, some (.int (Int32.ofInt j))], [], mk S) = some (some (.long (Int64.ofInt (acc + fsum F j n))), mk S) := by
  intro n
  induction n with
  | zero =>
    intro j acc h0 h1 h2 h3
    rw [B126_155]
    simp (disch := first | omega | assumption | exact b01_rng _ | exact st_5 | exact st_12 | exact st_19 | (simp only [isSt_sI, isSt_sJ, isSt_sF, isSt_sG, isSt_sA]; assumption)) only [↓B126_189, i_lit, i_add, i_sub, i_mul, i_neg, i_lt, i_le, i_eq, i32_gI, i64_gJ, i32_id, i32_to, i64_to, sI_i32, sJ_i64, b01_t, b01_f, i32_b01, b01_0, ↓a_s0, ↓n_s0, ↓a_s1, ↓n_s1, Int.add_zero, t_lt, f_lt, t_le, f_le, t_eq, f_eq, true_and, and_true, false_and, and_false, and_self, ↓reduceIte, z_bool_of, or_true, true_or, or_false, false_or, Int.neg_neg, not_true_eq_false, not_false_eq_true, lg_lt, lg_le, lg_gt, lg_ge, lg_eq, j_lit, j_add, j_sub, j_mul, j_neg, j_eq, i64_id, ij, ji, z_rt, Nat.reduceEqDiff, Nat.reduceAdd, Int.reduceAdd, Int.reduceSub, Int.reduceMul, Int.reduceNeg, Int.reduceLT, Int.reduceLE, Int.reduceEq, fsum]
  | succ n ih =>
    intro j acc h0 h1 h2 h3
    have hj := hF j
    have e := hS j h0 (by omega)
    rw [B126_155]
    simp (disch := first | omega | assumption | exact b01_rng _ | exact st_5 | exact st_12 | exact st_19 | (simp only [isSt_sI, isSt_sJ, isSt_sF, isSt_sG, isSt_sA]; assumption)) only [↓B126_161, ↓B126_171, ↓a_70, ↓n_70, ↓o_19, ↓o_5, ↓r_4_0, ↓r_4_14, ↓s_70, i_lit, i_add, i_sub, i_mul, i_neg, i_lt, i_le, i_eq, i32_gI, i64_gJ, i32_id, i32_to, i64_to, sI_i32, sJ_i64, b01_t, b01_f, i32_b01, b01_0, ↓a_s0, ↓n_s0, ↓a_s1, ↓n_s1, Int.add_zero, t_lt, f_lt, t_le, f_le, t_eq, f_eq, true_and, and_true, false_and, and_false, and_self, ↓reduceIte, z_bool_of, or_true, true_or, or_false, false_or, Int.neg_neg, not_true_eq_false, not_false_eq_true, lg_lt, lg_le, lg_gt, lg_ge, lg_eq, j_lit, j_add, j_sub, j_mul, j_neg, j_eq, i64_id, ij, ji, z_rt, Nat.reduceEqDiff, Nat.reduceAdd, Int.reduceAdd, Int.reduceSub, Int.reduceMul, Int.reduceNeg, Int.reduceLT, Int.reduceLE, Int.reduceEq, e]
    rw [ih (j + 1) (acc + F j) (by omega) (by omega) (by omega) (by omega)]
    simp only [fsum, Int.add_assoc]
theorem x126 {X : zX} {d : Nat} (hd : 1 ≤ d) {S : zS} {k n s : Int} (hk : 1 ≤ k ∧ k ≤ 20) (hn : 0 ≤ n ∧ n ≤ 99) (hs : gI S 7 1 = s) (hs2 : 0 ≤ s ∧ s ≤ 10) : ∃ S' : zS, z_ev X d (z_entry 126 [.ref 4, .int (Int32.ofInt k), .int (Int32.ofInt n)] (mk S)) = some (some (.long (Int64.ofInt (fsum (fw s n.toNat) 0 k.toNat))), mk S') ∧ (∀ a i, gI S' a i = gI S a i) ∧ (∀ a i, a ≠ 70 → gJ S' a i = gJ S a i) ∧ (∀ a i, gQ S' a i = gQ S a i) ∧ Dyn S S' := by
  show ∃ S' : zS, z_ev X d (126, 0, [some (.ref 4), some (.int (Int32.ofInt k)), some (.int (Int32.ofInt n)), none, none, none, none, none], [], mk S) = _ ∧ _
  obtain ⟨S', x6', g1, g2, g3, g4, g5, g6⟩ := l126a (X := X) (d := d) (v1 := Int32.ofInt k) hn hs2 n.toNat 0 none (sJ (sG S 70 0 20 (fun _ => 0)) 70 0 1000000000000) (by omega) (fun i q1 q2 => by
    rw [gJ_sJ]
    by_cases q : i = 0
    · subst q; rw [if_pos ⟨rfl, rfl⟩, i64_id (by omega) (by omega)]; rfl
    · rw [if_neg (fun h => q h.2), gJ_sG, if_pos (by omega), i64_id (by omega) (by omega)]; show _ = if i = 0 then _ else _; rw [if_neg q])
  refine ⟨S', ?_, fun a i => by rw [g3]; rfl, fun a i q => by rw [g4 a i q, gJ_sJ, if_neg (fun h => q h.1), gJ_sG, if_neg (fun h => q h.1)], fun a i => by rw [g5]; rfl, (Dyn.sJ (Dyn.sG Dyn.rf)).tr g6⟩
  have hs3 : gI S (5 + 2) 1 = s := hs
  simp (disch := first | omega | assumption | exact b01_rng _ | exact st_5 | exact st_12 | exact st_19 | (simp only [isSt_sI, isSt_sJ, isSt_sF, isSt_sG, isSt_sA]; assumption)) only [↓B126_0, ↓B126_5, ↓B126_11, ↓B126_15, ↓B126_25, ↓B126_33, ↓B126_43, ↓a_70, ↓n_70, ↓o_19, ↓o_5, ↓r_4_0, ↓r_4_14, ↓s_70, c70, c278, i_lit, i_add, i_sub, i_mul, i_neg, i_lt, i_le, i_eq, i32_gI, i64_gJ, i32_id, i32_to, i64_to, sI_i32, sJ_i64, b01_t, b01_f, i32_b01, b01_0, ↓a_s0, ↓n_s0, ↓a_s1, ↓n_s1, Int.add_zero, t_lt, f_lt, t_le, f_le, t_eq, f_eq, true_and, and_true, false_and, and_false, and_self, ↓reduceIte, z_bool_of, or_true, true_or, or_false, false_or, Int.neg_neg, not_true_eq_false, not_false_eq_true, lg_lt, lg_le, lg_gt, lg_ge, lg_eq, j_lit, j_add, j_sub, j_mul, j_neg, j_eq, i64_id, ij, ji, z_rt, Nat.reduceEqDiff, Nat.reduceAdd, Int.reduceAdd, Int.reduceSub, Int.reduceMul, Int.reduceNeg, Int.reduceLT, Int.reduceLE, Int.reduceEq, hs]
  rw [show Int32.ofInt 0 = Int32.ofInt ((0 : Nat) : Int) from rfl, g1, B126_149]
  have := l126c (X := X) (d := d) (v2 := Int32.ofInt n) (v3 := Int64.ofInt s) hk (fw_rng hs2 n.toNat) g2 k.toNat 0 0 (by omega) (by omega) (by omega) (by omega)
  rw [Int.zero_add] at this
  exact this
