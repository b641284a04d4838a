/-! tools for the pure level -/
theorem z_run_deep (X : zX) : ∀ (n d : Nat) (c : zC) (r : zR), z_run X n d c = some r → z_run X n (d + 1) c = some r := by
  intro n
  induction n with
  | zero => intro d c r h; cases h
  | succ n ih =>
    intro d c r h
    rw [z_run_succ] at h ⊢
    revert h
    match z_act X c with
    | none => intro h; cases h
    | some (.inl c') => intro h; exact ih d c' r h
    | some (.inr (.inr q)) => intro h; exact h
    | some (.inr (.inl q)) =>
      match d with
      | 0 => intro h; cases h
      | d' + 1 =>
        show z_call _ _ q.1 q.2.1 q.2.2 = some r → z_call _ _ q.1 q.2.1 q.2.2 = some r
        unfold z_call
        intro h
        cases h1 : z_run X n d' (z_entry q.1 q.2.1 q.2.2.2.2.2.2) with
        | none => rw [h1] at h; cases h
        | some r1 =>
          rw [h1] at h
          rw [ih d' _ r1 h1]
          exact ih (d' + 1) _ r h
theorem z_ev_deep {X : zX} {d d' : Nat} {c : zC} {r : zR} (h : d ≤ d') (hr : z_ev X d c = some r) : z_ev X d' c = some r := by
  obtain ⟨n, hn⟩ := (z_ev_iff X d c r).mp hr
  refine (z_ev_iff X d' c r).mpr ⟨n, ?_⟩
  induction d' with
  | zero => cases Nat.le_zero.mp h; exact hn
  | succ d' ih =>
    rcases Nat.lt_or_ge d (d' + 1) with q | q
    · exact z_run_deep X n d' c r (ih (Nat.le_of_lt_succ q))
    · cases Nat.le_antisymm h q; exact hn
/-- a call whose callee's answer is known -/
theorem z_evc_of {X : zX} {k d mi : Nat} {as : List Value} {ck : zC} {r : zR} (hd : k < d) (h : z_ev X k (z_entry mi as ck.2.2.2.2) = some r) : z_evc X d mi as ck = z_ev X d (z_ret r ck) := by
  cases d with
  | zero => cases hd
  | succ d =>
    show z_call (z_ev X d) (z_ev X (d + 1)) mi as ck = _
    unfold z_call
    rw [z_ev_deep (Nat.le_of_lt_succ hd) h]
section ZU
variable {ρ : Type} {X : zX} {M : zM} {a ci j t n : Nat} {fs : List Value} {i : Int32}
theorem z_upd_at (M : zM) (a b : Nat) (e : va_E) : (z_upd M a e).2.2 b = if b = a then some e else M.2.2 b := rfl
theorem z_upd_1 (M : zM) (a : Nat) (e : va_E) : (z_upd M a e).1 = M.1 := rfl
theorem z_upd_2 (M : zM) (a : Nat) (e : va_E) : (z_upd M a e).2.1 = M.2.1 := rfl
theorem e_fldI {x : Int32} {k : Int32 → Option ρ} (h : M.2.2 a = some (.inr (ci, fs))) (hj : fs[j]? = some (.int x)) : z_fldI none M a ci j k = k x := by
  simp only [z_fldI, z_fld, h, hj, if_true, z_isI]
theorem e_fldJ {x : Int64} {k : Int64 → Option ρ} (h : M.2.2 a = some (.inr (ci, fs))) (hj : fs[j]? = some (.long x)) : z_fldJ none M a ci j k = k x := by
  simp only [z_fldJ, z_fld, h, hj, if_true, z_isJ]
theorem e_fldA {x : Nat} {k : Nat → Option ρ} (h : M.2.2 a = some (.inr (ci, fs))) (hj : fs[j]? = some (.ref x)) : z_fldA none M a ci j k = k x := by
  simp only [z_fldA, z_fld, h, hj, if_true, z_isR]
theorem e_fset {v : Value} {k : zM → Option ρ} (h : M.2.2 a = some (.inr (ci, fs))) (hj : j < fs.length) : z_fset none M a ci j v k = k (z_upd M a (.inr (ci, fs.set j v))) := by
  simp only [z_fset, h, hj, and_self, if_true]
theorem e_obj {k : Option ρ} (h : M.2.2 a = some (.inr (ci, fs))) : z_obj none M (.ref a) ci k = k := by
  simp only [z_obj, h, if_true]
theorem e_ald {f : Nat → Int32} {k : Int32 → Option ρ} (ha : 4 ≤ a) (h : M.2.2 a = some (.inl (t, n, .inl f))) (hi : z_in i n) : z_ald X none M t a i k = k (f i.toNatClampNeg) := by
  have hs : z_stat X a = none := by
    unfold z_stat
    split
    · omega
    · omega
    · omega
    · rfl
  simp only [z_ald, hs, h]
  exact if_pos ⟨trivial, hi⟩
theorem e_len {x : (Nat → Int32) ⊕ (Nat → Int64) ⊕ (Nat → UInt32) ⊕ (Nat → UInt64) ⊕ (Nat → Option Nat)} {k : Int32 → Option ρ} (ha : 4 ≤ a) (ht : t < 6) (h : M.2.2 a = some (.inl (t, n, x))) : z_len X none M a k = k (Int32.ofNat n) := by
  have hs : z_stat X a = none := by
    unfold z_stat
    split
    · omega
    · omega
    · omega
    · rfl
  simp only [z_len, hs, h, ht, if_true]
theorem e_jld {f : Nat → Int64} {k : Int64 → Option ρ} (h : M.2.2 a = some (.inl (1, n, .inr (.inl f)))) (hi : z_in i n) : z_jld none M a i k = k (f i.toNatClampNeg) := by
  simp only [z_jld, h]
  exact if_pos ⟨trivial, hi⟩
theorem e_ast {f : Nat → Int32} {x : Int32} {k : zM → Option ρ} (h : M.2.2 a = some (.inl (t, n, .inl f))) (hi : z_in i n) (hx : t = 2 → x = 0 ∨ x = 1) : z_ast none M t a i x k = k (z_upd M a (.inl (t, n, .inl (upd f i.toNatClampNeg x)))) := by
  simp only [z_ast, h]
  rw [if_pos ⟨trivial, hi, hx⟩]
theorem e_jst {f : Nat → Int64} {x : Int64} {k : zM → Option ρ} (h : M.2.2 a = some (.inl (1, n, .inr (.inl f)))) (hi : z_in i n) : z_jst none M a i x k = k (z_upd M a (.inl (1, n, .inr (.inl (vp_updL f i.toNatClampNeg x))))) := by
  simp only [z_jst, h]
  exact if_pos ⟨trivial, hi⟩
end ZU
