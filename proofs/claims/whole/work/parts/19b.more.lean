/-! more of the memory: references, new cells, copies -/
theorem lg_lt (a b : Int) : (lg_cmp (Int64.ofInt a) (Int64.ofInt b) < Int32.ofInt 0) = (i64 a < i64 b) := by
  have h1 : (Int64.ofInt a > Int64.ofInt b) = (i64 b < i64 a) := by
    show (Int64.ofInt b < Int64.ofInt a) = _
    rw [Int64.lt_iff_toInt_lt, i64_to, i64_to]
  simp only [lg_cmp, h1, j_eq]
  apply propext
  by_cases q : i64 b < i64 a
  · rw [if_pos q]; constructor
    · intro h; exact absurd h (by decide)
    · intro h; omega
  · rw [if_neg q]
    by_cases q2 : i64 a = i64 b
    · rw [if_pos q2]; constructor
      · intro h; exact absurd h (by decide)
      · intro h; omega
    · rw [if_neg q2]; constructor
      · intro _; omega
      · intro _; decide
theorem lg_gt (a b : Int) : (Int32.ofInt 0 < lg_cmp (Int64.ofInt a) (Int64.ofInt b)) = (i64 b < i64 a) := by
  have h1 : (Int64.ofInt a > Int64.ofInt b) = (i64 b < i64 a) := by
    show (Int64.ofInt b < Int64.ofInt a) = _
    rw [Int64.lt_iff_toInt_lt, i64_to, i64_to]
  simp only [lg_cmp, h1, j_eq]
  apply propext
  by_cases q : i64 b < i64 a
  · rw [if_pos q]; constructor
    · intro h; exact q
    · intro h; decide
  · rw [if_neg q]
    by_cases q2 : i64 a = i64 b
    · rw [if_pos q2]; constructor
      · intro h; exact absurd h (by decide)
      · intro h; omega
    · rw [if_neg q2]; constructor
      · intro h; exact absurd h (by decide)
      · intro h; omega
theorem lg_eq (a b : Int) : (lg_cmp (Int64.ofInt a) (Int64.ofInt b) = Int32.ofInt 0) = (i64 a = i64 b) := by
  have h1 : (Int64.ofInt a > Int64.ofInt b) = (i64 b < i64 a) := by
    show (Int64.ofInt b < Int64.ofInt a) = _
    rw [Int64.lt_iff_toInt_lt, i64_to, i64_to]
  simp only [lg_cmp, h1, j_eq]
  apply propext
  by_cases q : i64 b < i64 a
  · rw [if_pos q]; constructor
    · intro h; exact absurd h (by decide)
    · intro h; omega
  · rw [if_neg q]
    by_cases q2 : i64 a = i64 b
    · rw [if_pos q2]; constructor
      · intro h; exact q2
      · intro h; rfl
    · rw [if_neg q2]; constructor
      · intro h; exact absurd h (by decide)
      · intro h; omega
theorem i_nlt (x y : Int32) : (x ≤ y) = ¬ (y < x) := by
  rw [Int32.le_iff_toInt_le, Int32.lt_iff_toInt_lt]; apply propext; omega
theorem lg_le (a b : Int) : (lg_cmp (Int64.ofInt a) (Int64.ofInt b) ≤ Int32.ofInt 0) = (i64 a ≤ i64 b) := by
  rw [i_nlt, lg_gt]; apply propext; omega
theorem lg_ge (a b : Int) : (Int32.ofInt 0 ≤ lg_cmp (Int64.ofInt a) (Int64.ofInt b)) = (i64 b ≤ i64 a) := by
  rw [i_nlt, lg_lt]; apply propext; omega
theorem z_bool_of {ρ : Type} {k : Option ρ} {x : Int} (h : x = 0 ∨ x = 1) : z_bool none (Int32.ofInt x) k = k := if_pos (i_bool01 x h)
section
variable {ρ : Type} {X : zX} {S : zS} {a ci j t n : Nat} {cs : List Nat} {i x : Int32}
theorem mkC_q (S : zS) (a t n : Nat) (ht : 3 ≤ t) : mkC S a (.inr (t, n)) = .inl (t, n, .inr (.inr (.inr (.inr (fun i => gQ S a (i : Int)))))) := by
  match t, ht with
  | t + 3, _ => rfl
theorem G_qld {kn : Option ρ} {k : Nat → Option ρ} (h3 : 3 ≤ t) (h6 : t < 6) (h : zdes S a = some (.inr (t, n))) : z_qld none (mk S) a i kn k = if 0 ≤ i.toInt ∧ i.toInt < n then (match gQ S a i.toInt with | none => kn | some q => k q) else none := by
  simp only [z_qld, mk_at h, mkC_q S a t n h3, z_in_to, h3, h6, true_and]
  split
  · next q => rw [i_cast q.1]; cases gQ S a i.toInt <;> rfl
  · rfl
theorem vaup_of {f : Nat → Option Nat} {x : Option Nat} (he : 0 ≤ i.toInt) : (fun k : Nat => if (k : Int) = i.toInt then x else f k) = va_up f i.toNatClampNeg x := by
  funext k
  have := i_cast he
  unfold va_up
  by_cases q : k = i.toNatClampNeg
  · rw [if_pos q, if_pos (by rw [q]; exact this)]
  · rw [if_neg q, if_neg (by intro h; apply q; omega)]
theorem G_qst {r : Nat} {k : zM → Option ρ} {cs : List Nat} (h3 : 3 ≤ t) (h6 : t < 6) (h : zdes S a = some (.inr (t, n))) (hr : zdes S r = some (.inl (z_elem t, cs))) : z_qst none (mk S) a i (.ref r) k = if 0 ≤ i.toInt ∧ i.toInt < n then k (mk (sQ S a i.toInt (some r))) else none := by
  have hm2 : mkC S r (.inl (z_elem t, cs)) = .inr (z_elem t, mkL S r 0 cs) := rfl
  simp only [z_qst, mk_at h, mkC_q S a t n h3, mk_at hr, hm2, z_in_to, h3, h6, true_and, and_true]
  by_cases q : 0 ≤ i.toInt ∧ i.toInt < n
  · rw [if_pos q, if_pos q]
    refine congrArg k (mk_one (T := sQ S a i.toInt (some r)) h (fun _ => rfl) rfl rfl (fun _ _ _ => rfl) (fun _ _ _ => rfl) (fun b q i => sQ_ne (Or.inl q)) ?_).symm
    rw [mkC_q _ a t n h3, ← vaup_of (f := fun i => gQ S a (i : Int)) q.1]
    simp only [gQ_sQ, true_and]
  · rw [if_neg q, if_neg q]
theorem G_qst0 {k : zM → Option ρ} (h3 : 3 ≤ t) (h6 : t < 6) (h : zdes S a = some (.inr (t, n))) : z_qst none (mk S) a i .null k = if 0 ≤ i.toInt ∧ i.toInt < n then k (mk (sQ S a i.toInt none)) else none := by
  simp only [z_qst, mk_at h, mkC_q S a t n h3, z_in_to, h3, h6, true_and]
  by_cases q : 0 ≤ i.toInt ∧ i.toInt < n
  · rw [if_pos q, if_pos q]
    refine congrArg k (mk_one (T := sQ S a i.toInt none) h (fun _ => rfl) rfl rfl (fun _ _ _ => rfl) (fun _ _ _ => rfl) (fun b q i => sQ_ne (Or.inl q)) ?_).symm
    rw [mkC_q _ a t n h3, ← vaup_of (f := fun i => gQ S a (i : Int)) q.1]
    simp only [gQ_sQ, true_and]
  · rw [if_neg q, if_neg q]
theorem L_cpy {a0 n0 n1 : Nat} {sp dp m : Int} {k : zM → Option ρ} (h0 : zdes S a0 = some (.inr (0, n0))) (h1 : zdes S a = some (.inr (0, n1))) (r1 : 0 ≤ sp) (r2 : 0 ≤ dp) (r3 : 0 ≤ m) (r4 : sp + m ≤ n0) (r5 : dp + m ≤ n1) (r6 : n0 < 100000) (r7 : n1 < 100000) : z_cpy none (mk S) a0 (Int32.ofInt sp) a (Int32.ofInt dp) (Int32.ofInt m) k = k (mk (sF S a dp (dp + m) (fun i => gI S a0 (sp + (i - dp))))) := by
  have hm0 : mkC S a0 (.inr (0, n0)) = .inl (0, n0, .inl (fun i => S.1 a0 (i : Int))) := rfl
  have hm1 : mkC S a (.inr (0, n1)) = .inl (0, n1, .inl (fun i => S.1 a (i : Int))) := rfl
  have e1 : (Int32.ofInt sp).toNatClampNeg = sp.toNat := by rw [i_nat, i32_id (by omega) (by omega)]
  have e2 : (Int32.ofInt dp).toNatClampNeg = dp.toNat := by rw [i_nat, i32_id (by omega) (by omega)]
  have e3 : (Int32.ofInt m).toNatClampNeg = m.toNat := by rw [i_nat, i32_id (by omega) (by omega)]
  have l1 : ∀ z : Int, 0 ≤ z → z < 200000 → (0 : Int32) ≤ Int32.ofInt z := fun z hz hz2 => by
    rw [show (0 : Int32) = Int32.ofInt 0 from rfl, i_le, i32_id (by omega) (by omega), i32_id (by omega) (by omega)]; exact hz
  simp only [z_cpy, mk_at h0, hm0, mk_at h1, hm1, e1, e2, e3]
  rw [if_pos ⟨trivial, trivial, l1 sp r1 (by omega), l1 dp r2 (by omega), l1 m r3 (by omega), by omega, by omega⟩]
  refine congrArg k (mk_one (T := sF S a dp (dp + m) (fun i => gI S a0 (sp + (i - dp)))) h1 (fun _ => rfl) rfl rfl (fun b q i => if_neg (fun h => q h.1)) (fun _ _ _ => rfl) (fun _ _ _ => rfl) ?_).symm
  show Sum.inl (0, n1, Sum.inl (fun k : Nat => if a = a ∧ dp ≤ (k : Int) ∧ (k : Int) < dp + m then Int32.ofInt (gI S a0 (sp + ((k : Int) - dp))) else S.1 a (k : Int))) = _
  refine congrArg (fun f => Sum.inl (0, n1, Sum.inl f)) (funext fun i => ?_)
  unfold va_cpy
  by_cases q : dp ≤ (i : Int) ∧ (i : Int) < dp + m
  · rw [if_pos ⟨rfl, q⟩, if_pos (by omega)]
    refine (i_toInt _).trans (congrArg (S.1 a0) (by omega))
  · rw [if_neg (fun h => q h.2), if_neg (by omega)]
theorem mk_1 : (mk S).1 = gN S := rfl
theorem zdes_dyn {S : zS} {a : Nat} (h : 114 ≤ a) : zdes S a = match gH S a with
    | some (.inl ci) => some (.inl (ci, zdynk ci))
    | some (.inr q) => some (.inr q)
    | none => none := by
  unfold zdes
  have : Nat.blt a 114 = false := by
    rw [← Bool.not_eq_true, Nat.blt_eq]; omega
  rw [this]
  cases gH S a with
  | none => rfl
  | some q => cases q <;> rfl
theorem zdes_fix {S S' : zS} {a : Nat} (h : a < 114) : zdes S a = zdes S' a := by
  unfold zdes
  have : Nat.blt a 114 = true := by rw [Nat.blt_eq]; exact h
  rw [this]
theorem zdes_sN_ne {S : zS} {a n : Nat} {h : Nat ⊕ Nat × Nat} (hN : 114 ≤ gN S) (ha : a ≠ gN S) : zdes (sN S h n) a = zdes S a := by
  by_cases q : a < 114
  · exact zdes_fix q
  · rw [zdes_dyn (by omega), zdes_dyn (by omega)]
    have : gH (sN S h n) a = gH S a := by show (if a = gN S then _ else _) = _; rw [if_neg ha]; rfl
    rw [this]
theorem gI_sN {S : zS} {a n : Nat} {h : Nat ⊕ Nat × Nat} {i : Int} : gI (sN S h n) a i = if a = gN S then 0 else gI S a i := by
  show (if a = gN S then (0 : Int32) else S.1 a i).toInt = _
  split <;> rfl
theorem sN_1 {S : zS} {a n : Nat} {h : Nat ⊕ Nat × Nat} {i : Int} : (sN S h n).1 a i = if a = gN S then 0 else S.1 a i := rfl
theorem gJ_sN {S : zS} {a n : Nat} {h : Nat ⊕ Nat × Nat} {i : Int} : gJ (sN S h n) a i = gJ S a i := rfl
theorem gQ_sN {S : zS} {a n : Nat} {h : Nat ⊕ Nat × Nat} {i : Int} : gQ (sN S h n) a i = if a = gN S then none else gQ S a i := rfl
theorem gH_sN {S : zS} {a n : Nat} {h : Nat ⊕ Nat × Nat} : gH (sN S h n) a = if a = gN S then some h else gH S a := rfl
theorem gN_sN {S : zS} {n : Nat} {h : Nat ⊕ Nat × Nat} : gN (sN S h n) = gN S + 1 := rfl
theorem gW_sN {S : zS} {n : Nat} {h : Nat ⊕ Nat × Nat} : gW (sN S h n) = gW S + n := rfl
theorem mkC_sN_ne {S : zS} {b n : Nat} {h : Nat ⊕ Nat × Nat} (q : b ≠ gN S) (e : zD) : mkC (sN S h n) b e = mkC S b e :=
  mkC_congr (S := sN S h n) (T := S) (fun i => if_neg q) (fun i => rfl) (fun i => if_neg q) e
theorem mk_sN {S : zS} {n : Nat} {h : Nat ⊕ Nat × Nat} {e : va_E} {dd : zD} (hN : 114 ≤ gN S) (hd : zdes (sN S h n) (gN S) = some dd) (he : mkC (sN S h n) (gN S) dd = e) (hn : z_esz e = n) : z_new (mk S) e = mk (sN S h n) := by
  refine Prod.ext rfl (Prod.ext (by show gW S + z_esz e = gW S + n; rw [hn]) (funext fun b => ?_))
  show (if b = gN S then some e else (zdes S b).map (mkC S b)) = (zdes (sN S h n) b).map (mkC (sN S h n) b)
  split
  · next q => subst q; rw [hd, ← he]; rfl
  · next q => rw [zdes_sN_ne hN q, funext (mkC_sN_ne q)]
theorem zdes_sN_eq {S : zS} {n : Nat} {h : Nat ⊕ Nat × Nat} (hN : 114 ≤ gN S) : zdes (sN S h n) (gN S) = match h with
    | .inl ci => some (.inl (ci, zdynk ci))
    | .inr q => some (.inr q) := by
  rw [zdes_dyn hN, gH_sN, if_pos rfl]
  match h with
  | .inl ci => rfl
  | .inr q => rfl
theorem L_newA {S : zS} {n : Nat} (hN : 114 ≤ gN S) : z_new (mk S) (.inl (0, n, .inl (fun _ => 0))) = mk (sN S (.inr (0, n)) n) := by
  refine mk_sN hN (zdes_sN_eq hN) ?_ rfl
  show Sum.inl (0, n, Sum.inl (fun i : Nat => (sN S (.inr (0, n)) n).1 (gN S) (i : Int))) = _
  simp only [sN_1, if_true]
theorem L_newQ {S : zS} {n t : Nat} (hN : 114 ≤ gN S) (ht : 3 ≤ t) : z_new (mk S) (.inl (t, n, .inr (.inr (.inr (.inr (fun _ => none)))))) = mk (sN S (.inr (t, n)) n) := by
  refine mk_sN hN (zdes_sN_eq hN) ?_ rfl
  rw [mkC_q _ _ t n ht]
  simp only [gQ_sN, if_true]
theorem L_newO {S : zS} {ci n : Nat} (hN : 114 ≤ gN S) (hc : (ci = 1 ∧ n = 5) ∨ (ci = 3 ∧ n = 6) ∨ (ci = 7 ∧ n = 11)) : z_new (mk S) (.inr (ci, z_defs ci)) = mk (sN S (.inl ci) n) := by
  rcases hc with ⟨rfl, rfl⟩ | ⟨rfl, rfl⟩ | ⟨rfl, rfl⟩
  · refine mk_sN hN (zdes_sN_eq hN) ?_ rfl
    show Sum.inr (1, mkL _ _ 0 [2, 2, 0, 0, 0]) = _
    simp only [mkL, mkV, sN_1, gQ_sN, if_true]
    rfl
  · refine mk_sN hN (zdes_sN_eq hN) ?_ rfl
    show Sum.inr (3, mkL _ _ 0 [2, 2, 2, 0, 0, 0]) = _
    simp only [mkL, mkV, sN_1, gQ_sN, if_true]
    rfl
  · refine mk_sN hN (zdes_sN_eq hN) ?_ rfl
    show Sum.inr (7, mkL _ _ 0 [2, 2, 2, 2, 2, 2, 0, 0, 0, 0, 0]) = _
    simp only [mkL, mkV, sN_1, gQ_sN, if_true]
    rfl
theorem L_cln {S : zS} {a n : Nat} {k : zM → Option ρ} (hN : 114 ≤ gN S) (h : zdes S a = some (.inr (0, n))) : z_cln none (mk S) a k = k (mk (sA (sN S (.inr (0, n)) n) (gN S) (fun i => gI S a i))) := by
  have hm : mkC S a (.inr (0, n)) = .inl (0, n, .inl (fun i => S.1 a (i : Int))) := rfl
  simp only [z_cln, mk_at h, hm, if_true]
  refine congrArg k (Eq.symm ?_)
  have h1 : mk (sA (sN S (.inr (0, n)) n) (gN S) (fun i => gI S a i)) = z_upd (mk (sN S (.inr (0, n)) n)) (gN S) (.inl (0, n, .inl (fun i => S.1 a (i : Int)))) := by
    refine mk_one (T := sA (sN S (.inr (0, n)) n) (gN S) (fun i => gI S a i)) (zdes_sN_eq hN) (fun _ => rfl) rfl rfl (fun b q i => if_neg q) (fun _ _ _ => rfl) (fun _ _ _ => rfl) ?_
    show Sum.inl (0, n, Sum.inl (fun k : Nat => if gN S = gN S then Int32.ofInt (gI S a (k : Int)) else _)) = _
    refine congrArg (fun f => Sum.inl (0, n, Sum.inl f)) (funext fun i => ?_)
    rw [if_pos rfl]; exact i_toInt _
  rw [h1, ← L_newA hN]
  refine Prod.ext rfl (Prod.ext rfl (funext fun b => ?_))
  show (if b = gN S then _ else (if b = gN S then _ else _)) = (if b = gN S then _ else _)
  split <;> rfl
end
