/-! more of the memory: references, new cells, copies -/
theorem lg_lt (a b : Int) : (lg_cmp (Int64.ofInt a) (Int64.ofInt b) < Int32.ofInt 0) = (i64 a < i64 b) := by
  have h1 : (Int64.ofInt a > Int64.ofInt b) = (i64 b < i64 a) := by
    show (Int64.ofInt b < Int64.ofInt a) = _
    rw [Int64.lt_iff_toInt_lt, i64_to, i64_to]
  simp only [lg_cmp, h1, j_eq]
  apply propext
  by_cases q : i64 b < i64 a
  · rw [if_pos q]; constructor
    · intro h; exact absurd h (by decide)
    · intro h; omega
  · rw [if_neg q]
    by_cases q2 : i64 a = i64 b
    · rw [if_pos q2]; constructor
      · intro h; exact absurd h (by decide)
      · intro h; omega
    · rw [if_neg q2]; constructor
      · intro _; omega
      · intro _; decide
theorem lg_gt (a b : Int) : (Int32.ofInt 0 < lg_cmp (Int64.ofInt a) (Int64.ofInt b)) = (i64 b < i64 a) := by
  have h1 : (Int64.ofInt a > Int64.ofInt b) = (i64 b < i64 a) := by
    show (Int64.ofInt b < Int64.ofInt a) = _
    rw [Int64.lt_iff_toInt_lt, i64_to, i64_to]
  simp only [lg_cmp, h1, j_eq]
  apply propext
  by_cases q : i64 b < i64 a
  · rw [if_pos q]; constructor
    · intro h; exact q
    · intro h; decide
  · rw [if_neg q]
    by_cases q2 : i64 a = i64 b
    · rw [if_pos q2]; constructor
      · intro h; exact absurd h (by decide)
      · intro h; omega
    · rw [if_neg q2]; constructor
      · intro h; exact absurd h (by decide)
      · intro h; omega
theorem lg_eq (a b : Int) : (lg_cmp (Int64.ofInt a) (Int64.ofInt b) = Int32.ofInt 0) = (i64 a = i64 b) := by
  have h1 : (Int64.ofInt a > Int64.ofInt b) = (i64 b < i64 a) := by
    show (Int64.ofInt b < Int64.ofInt a) = _
    rw [Int64.lt_iff_toInt_lt, i64_to, i64_to]
  simp only [lg_cmp, h1, j_eq]
  apply propext
  by_cases q : i64 b < i64 a
  · rw [if_pos q]; constructor
    · intro h; exact absurd h (by decide)
    · intro h; omega
  · rw [if_neg q]
    by_cases q2 : i64 a = i64 b
    · rw [if_pos q2]; constructor
      · intro h; exact q2
      · intro h; rfl
    · rw [if_neg q2]; constructor
      · intro h; exact absurd h (by decide)
      · intro h; omega
theorem i_nlt (x y : Int32) : (x ≤ y) = ¬ (y < x) := by
  rw [Int32.le_iff_toInt_le, Int32.lt_iff_toInt_lt]; apply propext; omega
theorem lg_le (a b : Int) : (lg_cmp (Int64.ofInt a) (Int64.ofInt b) ≤ Int32.ofInt 0) = (i64 a ≤ i64 b) := by
  rw [i_nlt, lg_gt]; apply propext; omega
theorem lg_ge (a b : Int) : (Int32.ofInt 0 ≤ lg_cmp (Int64.ofInt a) (Int64.ofInt b)) = (i64 b ≤ i64 a) := by
  rw [i_nlt, lg_lt]; apply propext; omega
theorem z_bool_of {ρ : Type} {k : Option ρ} {x : Int} (h : x = 0 ∨ x = 1) : z_bool none (Int32.ofInt x) k = k := if_pos (i_bool01 x h)
theorem mkL_sQ_ne (S : zS) (a b : Nat) (i : Int) (x : Option Nat) (h : ∀ k : Nat, b ≠ a ∨ (k : Int) ≠ i) : ∀ (cs : List Nat) (k : Nat), mkL (sQ S a i x) b k cs = mkL S b k cs := by
  intro cs
  induction cs with
  | nil => intro k; rfl
  | cons c r ih =>
    intro k
    show _ :: _ = _ :: _
    rw [ih]
    congr 1
    match c with
    | 0 => rfl
    | 1 => rfl
    | 2 =>
      have : gQ (sQ S a i x) b (k : Int) = gQ S b (k : Int) := by
        rw [gQ_sQ, if_neg]; rintro ⟨h1, h2⟩; rcases h k with q | q
        · exact q h1
        · exact q h2
      show (match gQ (sQ S a i x) b (k : Int) with | some r => Value.ref r | none => Value.null) = (match gQ S b (k : Int) with | some r => Value.ref r | none => Value.null)
      rw [this]
    | n + 3 => rfl
theorem mkC_sQ_ne (S : zS) (a b : Nat) (i : Int) (x : Option Nat) (h : b ≠ a) (e : zD) : mkC (sQ S a i x) b e = mkC S b e := by
  have hg : ∀ k : Nat, gQ (sQ S a i x) b (k : Int) = gQ S b (k : Int) := fun k => by
    rw [gQ_sQ, if_neg]; rintro ⟨h1, -⟩; exact h h1
  match e with
  | .inl (ci, cs) => show Sum.inr _ = Sum.inr _; rw [mkL_sQ_ne S a b i x (fun _ => Or.inl h)]
  | .inr (0, n) => rfl
  | .inr (1, n) => rfl
  | .inr (2, n) => rfl
  | .inr (t + 3, n) => show Sum.inl (t + 3, n, Sum.inr (Sum.inr (Sum.inr (Sum.inr _)))) = Sum.inl (t + 3, n, Sum.inr (Sum.inr (Sum.inr (Sum.inr _)))); rw [funext hg]
theorem mk_sQ {S : zS} {a : Nat} {i : Int} {x : Option Nat} {e : zD} {e' : va_E} (h : zdes S a = some e) (he : mkC (sQ S a i x) a e = e') : mk (sQ S a i x) = z_upd (mk S) a e' := by
  refine Prod.ext rfl (Prod.ext rfl (funext fun b => ?_))
  show (zdes S b).map (mkC (sQ S a i x) b) = if b = a then some e' else (zdes S b).map (mkC S b)
  split
  · next q => subst q; rw [h]; exact congrArg some he
  · next q => rw [funext (mkC_sQ_ne S a b i x q)]
theorem mkV_sQ (S : zS) (a b : Nat) (i : Int) (x : Option Nat) (k c : Nat) (h : b ≠ a ∨ (k : Int) ≠ i) : mkV (sQ S a i x) b k c = mkV S b k c := by
  have : gQ (sQ S a i x) b (k : Int) = gQ S b (k : Int) := by
    rw [gQ_sQ, if_neg]
    rintro ⟨h1, h2⟩
    rcases h with h | h
    · exact h h1
    · exact h h2
  match c with
  | 0 => rfl
  | 1 => rfl
  | 2 =>
    show (match gQ (sQ S a i x) b (k : Int) with | some r => Value.ref r | none => Value.null) = (match gQ S b (k : Int) with | some r => Value.ref r | none => Value.null)
    rw [this]
  | n + 3 => rfl
theorem mkL_sQ_gt (S : zS) (a b : Nat) (i : Int) (x : Option Nat) : ∀ (cs : List Nat) (k : Nat), i < (k : Int) → mkL (sQ S a i x) b k cs = mkL S b k cs := by
  intro cs
  induction cs with
  | nil => intro k _; rfl
  | cons c r ih => intro k hk; show _ :: _ = _ :: _; rw [ih (k + 1) (by omega), mkV_sQ S a b i x k c (Or.inr (by omega))]
theorem mkL_sQ_set (S : zS) (a : Nat) (x : Option Nat) (v : Value) : ∀ (cs : List Nat) (k j c : Nat), z_get cs j = some c → mkV (sQ S a ((k + j : Nat) : Int) x) a (k + j) c = v → mkL (sQ S a ((k + j : Nat) : Int) x) a k cs = (mkL S a k cs).set j v := by
  intro cs
  induction cs with
  | nil => intro k j c h; cases h
  | cons c' r ih =>
    intro k j c h hv
    cases j with
    | zero =>
      cases h
      show _ :: _ = _ :: _
      rw [mkL_sQ_gt S a a _ x r (k + 1) (by omega)]
      exact congrArg (fun y => y :: mkL S a (k + 1) r) hv
    | succ j =>
      show _ :: _ = _ :: _
      rw [mkV_sQ S a a _ x k c' (Or.inr (by omega))]
      have e : k + (j + 1) = k + 1 + j := by omega
      rw [e] at hv ⊢
      rw [ih (k + 1) j c h hv]
section
variable {ρ : Type} {X : zX} {S : zS} {a ci j t n : Nat} {cs : List Nat} {e x : Int}
theorem L_setQ {r : Nat} {k : zM → Option ρ} (h : zdes S a = some (.inl (ci, cs))) (hj : z_get cs j = some 2) : z_fset none (mk S) a ci j (.ref r) k = k (mk (sQ S a (j : Int) (some r))) := by
  rw [e_fset (mk_at h) (by rw [mkL_len]; exact z_get_len _ _ _ hj)]
  refine congrArg k (mk_sQ h ?_).symm
  have := mkL_sQ_set S a (some r) (.ref r) cs 0 j 2 hj (by
    rw [Nat.zero_add]
    show (match gQ (sQ S a (j : Int) (some r)) a (j : Int) with | some r => Value.ref r | none => Value.null) = _
    rw [gQ_sQ, if_pos ⟨rfl, rfl⟩])
  rw [Nat.zero_add] at this
  show Sum.inr (ci, mkL _ a 0 cs) = _
  rw [this]
theorem mkC_q (S : zS) (a t n : Nat) (ht : 3 ≤ t) : mkC S a (.inr (t, n)) = .inl (t, n, .inr (.inr (.inr (.inr (fun i => gQ S a (i : Int)))))) := by
  match t, ht with
  | t + 3, _ => rfl
theorem L_qld {kn : Option ρ} {k : Nat → Option ρ} (h3 : 3 ≤ t) (h6 : t < 6) (h : zdes S a = some (.inr (t, n))) : z_qld none (mk S) a (Int32.ofInt e) kn k = if 0 ≤ i32 e ∧ i32 e < n then (match gQ S a (i32 e) with | none => kn | some q => k q) else none := by
  simp only [z_qld, mk_at h, mkC_q S a t n h3, z_in_of, h3, h6, true_and]
  split
  · next q => rw [i_cast q.1]; cases gQ S a (i32 e) <;> rfl
  · rfl
theorem vaup_of {f : Nat → Option Nat} {e : Int} {x : Option Nat} (he : 0 ≤ i32 e) : (fun i : Nat => if (i : Int) = i32 e then x else f i) = va_up f (Int32.ofInt e).toNatClampNeg x := by
  funext i
  have := i_cast he
  unfold va_up
  by_cases q : i = (Int32.ofInt e).toNatClampNeg
  · rw [if_pos q, if_pos (by rw [q]; exact this)]
  · rw [if_neg q, if_neg (by intro h; apply q; omega)]
theorem L_qst {r : Nat} {k : zM → Option ρ} {cs : List Nat} (h3 : 3 ≤ t) (h6 : t < 6) (h : zdes S a = some (.inr (t, n))) (hr : zdes S r = some (.inl (z_elem t, cs))) : z_qst none (mk S) a (Int32.ofInt e) (.ref r) k = if 0 ≤ i32 e ∧ i32 e < n then k (mk (sQ S a (i32 e) (some r))) else none := by
  have hm2 : mkC S r (.inl (z_elem t, cs)) = .inr (z_elem t, mkL S r 0 cs) := rfl
  simp only [z_qst, mk_at h, mkC_q S a t n h3, mk_at hr, hm2, z_in_of, h3, h6, true_and, and_true]
  by_cases q : 0 ≤ i32 e ∧ i32 e < n
  · rw [if_pos q, if_pos q]
    refine congrArg k (mk_sQ h ?_).symm
    rw [mkC_q _ a t n h3, ← vaup_of (f := fun i => gQ S a (i : Int)) q.1]
    simp only [gQ_sQ, true_and]
  · rw [if_neg q, if_neg q]
theorem L_qst0 {k : zM → Option ρ} (h3 : 3 ≤ t) (h6 : t < 6) (h : zdes S a = some (.inr (t, n))) : z_qst none (mk S) a (Int32.ofInt e) .null k = if 0 ≤ i32 e ∧ i32 e < n then k (mk (sQ S a (i32 e) none)) else none := by
  simp only [z_qst, mk_at h, mkC_q S a t n h3, z_in_of, h3, h6, true_and]
  by_cases q : 0 ≤ i32 e ∧ i32 e < n
  · rw [if_pos q, if_pos q]
    refine congrArg k (mk_sQ h ?_).symm
    rw [mkC_q _ a t n h3, ← vaup_of (f := fun i => gQ S a (i : Int)) q.1]
    simp only [gQ_sQ, true_and]
  · rw [if_neg q, if_neg q]
/-- a whole row of numbers -/
theorem mk_sA {S : zS} {a n : Nat} {f : Int → Int} (h : zdes S a = some (.inr (0, n))) : mk (sA S a f) = z_upd (mk S) a (.inl (0, n, .inl (fun i => Int32.ofInt (f (i : Int))))) := by
  refine Prod.ext rfl (Prod.ext rfl (funext fun b => ?_))
  show (zdes S b).map (mkC (sA S a f) b) = if b = a then _ else (zdes S b).map (mkC S b)
  split
  · next q =>
    subst q; rw [h]
    show some (Sum.inl (0, n, Sum.inl (fun i : Nat => Int32.ofInt (gI (sA S b f) b (i : Int))))) = _
    simp only [gI_sA, if_true]
  · next q =>
    have hg : ∀ k : Nat, gI (sA S a f) b (k : Int) = gI S b (k : Int) := fun k => by rw [gI_sA, if_neg q]
    congr 1
    funext e
    match e with
    | .inl (ci, cs) =>
      show Sum.inr _ = Sum.inr _
      have : ∀ (cs : List Nat) (k : Nat), mkL (sA S a f) b k cs = mkL S b k cs := by
        intro cs
        induction cs with
        | nil => intro k; rfl
        | cons c r ih =>
          intro k
          show _ :: _ = _ :: _
          rw [ih]; congr 1
          match c with
          | 0 => show Value.int _ = Value.int _; rw [hg]
          | 1 => show Value.long _ = Value.long _; rw [hg]
          | 2 => rfl
          | n + 3 => rfl
      rw [this]
    | .inr (0, n) => show Sum.inl (0, n, Sum.inl _) = Sum.inl (0, n, Sum.inl _); rw [funext fun k => congrArg Int32.ofInt (hg k)]
    | .inr (1, n) => show Sum.inl (1, n, Sum.inr (Sum.inl _)) = Sum.inl (1, n, Sum.inr (Sum.inl _)); rw [funext fun k => congrArg Int64.ofInt (hg k)]
    | .inr (2, n) => show Sum.inl (2, n, Sum.inl _) = Sum.inl (2, n, Sum.inl _); rw [funext fun k => congrArg Int32.ofInt (hg k)]
    | .inr (t + 3, n) => rfl
theorem L_cpy {a0 n0 n1 : Nat} {sp dp m : Int} {k : zM → Option ρ} (h0 : zdes S a0 = some (.inr (0, n0))) (h1 : zdes S a = some (.inr (0, n1))) (r1 : 0 ≤ sp) (r2 : 0 ≤ dp) (r3 : 0 ≤ m) (r4 : sp + m ≤ n0) (r5 : dp + m ≤ n1) (r6 : n0 < 100000) (r7 : n1 < 100000) : z_cpy none (mk S) a0 (Int32.ofInt sp) a (Int32.ofInt dp) (Int32.ofInt m) k = k (mk (sA S a (fun i => if dp ≤ i ∧ i < dp + m then gI S a0 (sp + (i - dp)) else gI S a i))) := by
  have hm0 : mkC S a0 (.inr (0, n0)) = .inl (0, n0, .inl (fun i => Int32.ofInt (gI S a0 (i : Int)))) := rfl
  have hm1 : mkC S a (.inr (0, n1)) = .inl (0, n1, .inl (fun i => Int32.ofInt (gI S a (i : Int)))) := rfl
  have e1 : (Int32.ofInt sp).toNatClampNeg = sp.toNat := by rw [i_nat, i32_id (by omega) (by omega)]
  have e2 : (Int32.ofInt dp).toNatClampNeg = dp.toNat := by rw [i_nat, i32_id (by omega) (by omega)]
  have e3 : (Int32.ofInt m).toNatClampNeg = m.toNat := by rw [i_nat, i32_id (by omega) (by omega)]
  have l1 : ∀ z : Int, 0 ≤ z → z < 200000 → (0 : Int32) ≤ Int32.ofInt z := fun z hz hz2 => by
    rw [show (0 : Int32) = Int32.ofInt 0 from rfl, i_le, i32_id (by omega) (by omega), i32_id (by omega) (by omega)]; exact hz
  simp only [z_cpy, mk_at h0, hm0, mk_at h1, hm1, e1, e2, e3]
  rw [if_pos ⟨trivial, trivial, l1 sp r1 (by omega), l1 dp r2 (by omega), l1 m r3 (by omega), by omega, by omega⟩, mk_sA h1]
  congr 4
  refine congrArg (fun f => (n1, Sum.inl f)) (funext fun i => ?_)
  unfold va_cpy
  by_cases q : dp ≤ (i : Int) ∧ (i : Int) < dp + m
  · rw [if_pos (by omega), if_pos q]; exact congrArg (fun z => Int32.ofInt (gI S a0 z)) (by omega)
  · rw [if_neg (by omega), if_neg q]
theorem mk_1 : (mk S).1 = gN S := rfl
theorem zdes_dyn {S : zS} {a : Nat} (h : 114 ≤ a) : zdes S a = match gH S a with
    | some (.inl ci) => some (.inl (ci, zdynk ci))
    | some (.inr q) => some (.inr q)
    | none => none := by
  unfold zdes
  have : Nat.blt a 114 = false := by
    rw [← Bool.not_eq_true, Nat.blt_eq]; omega
  rw [this]
  cases gH S a with
  | none => rfl
  | some q => cases q <;> rfl
theorem zdes_fix {S S' : zS} {a : Nat} (h : a < 114) : zdes S a = zdes S' a := by
  unfold zdes
  have : Nat.blt a 114 = true := by rw [Nat.blt_eq]; exact h
  rw [this]
theorem zdes_sN_ne {S : zS} {a n : Nat} {h : Nat ⊕ Nat × Nat} (hN : 114 ≤ gN S) (ha : a ≠ gN S) : zdes (sN S h n) a = zdes S a := by
  by_cases q : a < 114
  · exact zdes_fix q
  · rw [zdes_dyn (by omega), zdes_dyn (by omega)]
    have : gH (sN S h n) a = gH S a := by show (if a = gN S then _ else _) = _; rw [if_neg ha]; rfl
    rw [this]
theorem gI_sN {S : zS} {a n : Nat} {h : Nat ⊕ Nat × Nat} {i : Int} : gI (sN S h n) a i = if a = gN S then 0 else gI S a i := rfl
theorem gQ_sN {S : zS} {a n : Nat} {h : Nat ⊕ Nat × Nat} {i : Int} : gQ (sN S h n) a i = if a = gN S then none else gQ S a i := rfl
theorem gH_sN {S : zS} {a n : Nat} {h : Nat ⊕ Nat × Nat} : gH (sN S h n) a = if a = gN S then some h else gH S a := rfl
theorem gN_sN {S : zS} {n : Nat} {h : Nat ⊕ Nat × Nat} : gN (sN S h n) = gN S + 1 := rfl
theorem gW_sN {S : zS} {n : Nat} {h : Nat ⊕ Nat × Nat} : gW (sN S h n) = gW S + n := rfl
theorem mkC_sN_ne {S : zS} {b n : Nat} {h : Nat ⊕ Nat × Nat} (q : b ≠ gN S) (e : zD) : mkC (sN S h n) b e = mkC S b e := by
  have hg : ∀ k : Int, gI (sN S h n) b k = gI S b k := fun k => by rw [gI_sN, if_neg q]
  have hq : ∀ k : Int, gQ (sN S h n) b k = gQ S b k := fun k => by rw [gQ_sN, if_neg q]
  match e with
  | .inl (ci, cs) =>
    show Sum.inr _ = Sum.inr _
    have : ∀ (cs : List Nat) (k : Nat), mkL (sN S h n) b k cs = mkL S b k cs := by
      intro cs
      induction cs with
      | nil => intro k; rfl
      | cons c r ih =>
        intro k
        show _ :: _ = _ :: _
        rw [ih]; congr 1
        match c with
        | 0 => show Value.int _ = Value.int _; rw [hg]
        | 1 => show Value.long _ = Value.long _; rw [hg]
        | 2 =>
          show (match gQ (sN S h n) b (k : Int) with | some r => Value.ref r | none => Value.null) = (match gQ S b (k : Int) with | some r => Value.ref r | none => Value.null)
          rw [hq]
        | n + 3 => rfl
    rw [this]
  | .inr (0, n) => show Sum.inl (0, n, Sum.inl _) = Sum.inl (0, n, Sum.inl _); rw [funext fun k : Nat => congrArg Int32.ofInt (hg k)]
  | .inr (1, n) => show Sum.inl (1, n, Sum.inr (Sum.inl _)) = Sum.inl (1, n, Sum.inr (Sum.inl _)); rw [funext fun k : Nat => congrArg Int64.ofInt (hg k)]
  | .inr (2, n) => show Sum.inl (2, n, Sum.inl _) = Sum.inl (2, n, Sum.inl _); rw [funext fun k : Nat => congrArg Int32.ofInt (hg k)]
  | .inr (t + 3, n) => show Sum.inl (t + 3, n, Sum.inr (Sum.inr (Sum.inr (Sum.inr _)))) = Sum.inl (t + 3, n, Sum.inr (Sum.inr (Sum.inr (Sum.inr _)))); rw [funext fun k : Nat => hq k]
theorem mk_sN {S : zS} {n : Nat} {h : Nat ⊕ Nat × Nat} {e : va_E} {dd : zD} (hN : 114 ≤ gN S) (hd : zdes (sN S h n) (gN S) = some dd) (he : mkC (sN S h n) (gN S) dd = e) (hn : z_esz e = n) : z_new (mk S) e = mk (sN S h n) := by
  refine Prod.ext rfl (Prod.ext (by show gW S + z_esz e = gW S + n; rw [hn]) (funext fun b => ?_))
  show (if b = gN S then some e else (zdes S b).map (mkC S b)) = (zdes (sN S h n) b).map (mkC (sN S h n) b)
  split
  · next q => subst q; rw [hd, ← he]; rfl
  · next q => rw [zdes_sN_ne hN q, funext (mkC_sN_ne q)]
theorem zdes_sN_eq {S : zS} {n : Nat} {h : Nat ⊕ Nat × Nat} (hN : 114 ≤ gN S) : zdes (sN S h n) (gN S) = match h with
    | .inl ci => some (.inl (ci, zdynk ci))
    | .inr q => some (.inr q) := by
  rw [zdes_dyn hN, gH_sN, if_pos rfl]
  match h with
  | .inl ci => rfl
  | .inr q => rfl
theorem L_newA {S : zS} {n : Nat} (hN : 114 ≤ gN S) : z_new (mk S) (.inl (0, n, .inl (fun _ => 0))) = mk (sN S (.inr (0, n)) n) := by
  refine mk_sN hN (zdes_sN_eq hN) ?_ rfl
  show Sum.inl (0, n, Sum.inl (fun i : Nat => Int32.ofInt (gI (sN S (.inr (0, n)) n) (gN S) (i : Int)))) = _
  simp only [gI_sN, if_true]
  rfl
theorem L_newQ {S : zS} {n t : Nat} (hN : 114 ≤ gN S) (ht : 3 ≤ t) : z_new (mk S) (.inl (t, n, .inr (.inr (.inr (.inr (fun _ => none)))))) = mk (sN S (.inr (t, n)) n) := by
  refine mk_sN hN (zdes_sN_eq hN) ?_ rfl
  rw [mkC_q _ _ t n ht]
  simp only [gQ_sN, if_true]
theorem L_newO {S : zS} {ci n : Nat} (hN : 114 ≤ gN S) (hc : (ci = 1 ∧ n = 5) ∨ (ci = 3 ∧ n = 6) ∨ (ci = 7 ∧ n = 11)) : z_new (mk S) (.inr (ci, z_defs ci)) = mk (sN S (.inl ci) n) := by
  rcases hc with ⟨rfl, rfl⟩ | ⟨rfl, rfl⟩ | ⟨rfl, rfl⟩
  · refine mk_sN hN (zdes_sN_eq hN) ?_ rfl
    show Sum.inr (1, mkL _ _ 0 [2, 2, 0, 0, 0]) = _
    simp only [mkL, mkV, gI_sN, gQ_sN, if_true]
    rfl
  · refine mk_sN hN (zdes_sN_eq hN) ?_ rfl
    show Sum.inr (3, mkL _ _ 0 [2, 2, 2, 0, 0, 0]) = _
    simp only [mkL, mkV, gI_sN, gQ_sN, if_true]
    rfl
  · refine mk_sN hN (zdes_sN_eq hN) ?_ rfl
    show Sum.inr (7, mkL _ _ 0 [2, 2, 2, 2, 2, 2, 0, 0, 0, 0, 0]) = _
    simp only [mkL, mkV, gI_sN, gQ_sN, if_true]
    rfl
theorem L_cln {S : zS} {a n : Nat} {k : zM → Option ρ} (hN : 114 ≤ gN S) (h : zdes S a = some (.inr (0, n))) (ha : a ≠ gN S) : z_cln none (mk S) a k = k (mk (sA (sN S (.inr (0, n)) n) (gN S) (fun i => gI S a i))) := by
  have hm : mkC S a (.inr (0, n)) = .inl (0, n, .inl (fun i => Int32.ofInt (gI S a (i : Int)))) := rfl
  simp only [z_cln, mk_at h, hm, if_true]
  congr 1
  rw [mk_sA (n := n) (zdes_sN_eq hN), ← L_newA hN]
  refine Prod.ext rfl (Prod.ext rfl (funext fun b => ?_))
  show (if b = gN S then _ else _) = (if b = gN S then _ else (if b = gN S then _ else _))
  split <;> rfl
end
