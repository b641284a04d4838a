/-! the reference reads parts and sums as the grammar tells -/
theorem bnd_5 {op : Int} (h : 20 ≤ op ∧ op ≤ 21) : bnd op = 5 := by unfold bnd; rw [if_neg (by omega), if_neg (by omega), if_neg (by omega), if_neg (by omega), if_neg (by omega), if_neg (by omega)]
theorem bnd_6 {op : Int} (h : 22 ≤ op ∧ op ≤ 24) : bnd op = 6 := by unfold bnd; rw [if_neg (by omega), if_neg (by omega), if_neg (by omega), if_neg (by omega), if_neg (by omega), if_pos (by omega)]
theorem ops_scl {c : Int} (h : scl c ≠ -1) : ops c = scl c + 18 ∧ 4 ≤ scl c ∧ scl c ≤ 6 := by
  unfold scl at h ⊢
  by_cases e1 : c = 37
  · subst e1; decide
  by_cases e2 : c = 42
  · subst e2; decide
  by_cases e3 : c = 47
  · subst e3; decide
  rw [if_neg e1, if_neg e2, if_neg e3] at h
  exact absurd rfl h
theorem ops_add {c : Int} (h : add c ≠ -1) : ops c = add c + 18 ∧ 2 ≤ add c ∧ add c ≤ 3 := by
  unfold add at h ⊢
  by_cases e1 : c = 43
  · subst e1; decide
  by_cases e2 : c = 45
  · subst e2; decide
  rw [if_neg e1, if_neg e2] at h
  exact absurd rfl h
theorem ops_none {c : Int} (h1 : scl c = -1) (h2 : add c = -1) : ops c = -1 := by
  unfold ops
  rw [if_neg (fun e => by subst e; exact absurd h2 (by decide)), if_neg (fun e => by subst e; exact absurd h2 (by decide)), if_neg (fun e => by subst e; exact absurd h1 (by decide)), if_neg (fun e => by subst e; exact absurd h1 (by decide)), if_neg (fun e => by subst e; exact absurd h1 (by decide))]
/-- below a, settling changes nothing -/
theorem stl_low {ord a k : Int} {I : Ins} {Q : List En} (h : ∀ y ∈ Q, 20 ≤ y.1 ∧ y.1 ≤ 24) (hk : a ≤ k) : ∀ i, i < a → (stl ord Q (I, k)).1 i = I i := (stl_lo (ord := ord) (m := a) Q I k hk (fun y hy w => by have := h y hy; omega)).1
theorem ref_part {X : zX} {d : Nat} (hd : 6 < d) {b : Int → Int} {n : Int} {T : Nat} (hT : RTape b n T) {ord ts dp : Int} {M : Option Rdr} (hM : match M with
  | none => dp = 8
  | some f => dp < 8 ∧ RdS X d b n T ord ts (dp + 1) f) : RdP X d b n T ord ts dp (pPart (tc b n) (tv b n) ord M) := by
  intro S t p P k h hK
  have h19 := h.1.2.2.2
  cases M with
  | none =>
    have hM' : dp = 8 := hM
    subst hM'
    show match pLeaf (tc b n) (tv b n) ord p t with
      | .inl e => _
      | .inr (e, p1, t1) => _
    by_cases q : tc b n t = 91
    · rw [pLeaf_91 q]
      obtain ⟨S2, b1, b2, b3⟩ := hd6_bad (X := X) (d := d) (by omega) (ts := ts) (tn := 1) (h.bad hT).1
      exact ⟨S2, by rw [hd6_1 h19 (ev192 (by omega) (y192b hT h q))]; exact b1, b2, (h.bad hT).2.tr b3⟩
    · exact leaf_rd (by omega) hT hK h q
  | some f =>
    obtain ⟨hdp, hf⟩ := hM
    have ep : pPart (tc b n) (tv b n) ord (some f) p t = (if tc b n t = 91 then (match f p (t + 1) with
      | .inl e => .inl e
      | .inr (e, p1, t1) => if tc b n t1 = 93 then .inr (e, p1, t1 + 1) else .inl t1) else pLeaf (tc b n) (tv b n) ord p t) := rfl
    rw [ep]
    by_cases q : tc b n t = 91
    · rw [if_pos q]
      obtain ⟨S1, a1, a2, a3, a4⟩ := z192b (X := X) hT h q hdp
      have := hf S1 (t + 1) p ((32, 0) :: P) k a2 (hK.e a4) (fun y r w => by cases w; show (0 : Int) < 5; decide)
      cases hr : f p (t + 1) with
      | inl e =>
        rw [hr] at this
        obtain ⟨S2, b1, b2, b3⟩ := this
        exact ⟨S2, by rw [hd6_1 h19 (ev192 (by omega) a1)]; exact b1, b2, a4.tr b3⟩
      | inr x =>
        obtain ⟨e, p1, t1⟩ := x
        rw [hr] at this
        obtain ⟨S2, Q, k1, m, b1, b2, b3, b4, b5, b6, b7, b8, b9, b10⟩ := this
        have g19 := b2.1.2.2.2
        have hdp2 := h.2.2.2.2.2
        show match (if tc b n t1 = 93 then (.inr (e, p1, t1 + 1) : pE) else .inl t1) with
          | .inl e => _
          | .inr (e, p1, t1) => _
        by_cases q1 : tc b n t1 = 93
        · rw [if_pos q1]
          obtain ⟨S3, c1, c2, c3, c4⟩ := z194b (X := X) (d := d) hd hT (ts := ts) b2 q1 b8 (by omega)
          have ed : dp + 1 - 1 = dp := by omega
          rw [ed] at c2
          refine ⟨S3, _, m, by rw [hd6_1 h19 (ev192 (by omega) a1), b1, hd6_3 g19 c1], c2, by rw [c3]; exact b3.1, b4, fun i hi => ?_, by omega, (a4.tr b7).tr c4⟩
          rw [c3, stl_low b8 b10 i hi, b5 i hi, a3]
        · rw [if_neg q1]
          have ei : inn (Q ++ (32, 0) :: P) = 32 := by rw [inn_app (fun y hy => by have := b8 y hy; omega)]; rfl
          obtain ⟨S3, c1, c2, c3⟩ := hd6_bad (X := X) (d := d) (by omega) (ts := ts) (tn := 3) (b2.bad hT).1
          exact ⟨S3, by rw [hd6_1 h19 (ev192 (by omega) a1), b1, hd6_3 g19 (fun {cm cp L st} => z194c hd hT b2 b9 q1 ei)]; exact c1, c2, ((a4.tr b7).tr (b2.bad hT).2).tr c3⟩
    · rw [if_neg q]
      exact leaf_rd (by omega) hT hK h q
/-- what waits, on the pile -/
def WtS (I : Ins) (a k : Int) (w : Wt) (Q : List En) (m : Nat) (lo hi : Int) : Prop := match w with
  | none => Q = [] ∧ a = k ∧ m = 0
  | some (op, l) => Q = [(op + 18, 0)] ∧ Seg I a k m l ∧ lo ≤ op ∧ op ≤ hi
theorem WtS.le {I : Ins} {a k : Int} {w : Wt} {Q : List En} {m : Nat} {lo hi : Int} (h : WtS I a k w Q m lo hi) : a ≤ k := by
  cases w with
  | none => have h' : Q = [] ∧ a = k ∧ m = 0 := h; omega
  | some x => have h' : Q = [(x.1 + 18, 0)] ∧ Seg I a k m x.2 ∧ lo ≤ x.1 ∧ x.1 ≤ hi := h; have := h'.2.1.1; omega
theorem WtS.mem {I : Ins} {a k : Int} {w : Wt} {Q : List En} {m : Nat} {lo hi : Int} (h : WtS I a k w Q m lo hi) : ∀ y ∈ Q, lo + 18 ≤ y.1 ∧ y.1 ≤ hi + 18 := by
  intro y hy
  cases w with
  | none => have h' : Q = [] ∧ a = k ∧ m = 0 := h; rw [h'.1] at hy; cases hy
  | some x =>
    have h' : Q = [(x.1 + 18, 0)] ∧ Seg I a k m x.2 ∧ lo ≤ x.1 ∧ x.1 ≤ hi := h
    rw [h'.1] at hy
    simp only [List.mem_cons, List.not_mem_nil, or_false] at hy
    have e : y.1 = x.1 + 18 := by rw [hy]
    omega
theorem WtS.cg {I I' : Ins} {a k : Int} {w : Wt} {Q : List En} {m : Nat} {lo hi : Int} (h : WtS I a k w Q m lo hi) (hI : ∀ i, i < k → I' i = I i) : WtS I' a k w Q m lo hi := by
  cases w with
  | none => exact h
  | some x =>
    have h' : Q = [(x.1 + 18, 0)] ∧ Seg I a k m x.2 ∧ lo ≤ x.1 ∧ x.1 ≤ hi := h
    exact ⟨h'.1, h'.2.1.cg (fun i _ q => hI i q), h'.2.2⟩
theorem WtS.pend {ord : Int} {I : Ins} {a k k1 : Int} {w : Wt} {Q Q2 : List En} {m m2 : Nat} {lo hi : Int} {e : Ev} (h : WtS I a k w Q m lo hi) (h2 : Pend ord I k k1 Q2 m2 e) (hk : k ≤ k1) (hlo : 2 ≤ lo ∧ hi ≤ 6) : Pend ord I a k1 (Q2 ++ Q) (m + m2) (fin w e) := by
  cases w with
  | none =>
    have h' : Q = [] ∧ a = k ∧ m = 0 := h
    obtain ⟨rfl, rfl, rfl⟩ := h'
    rw [List.append_nil, Nat.zero_add]; exact h2
  | some x =>
    obtain ⟨op, l⟩ := x
    have h' : Q = [(op + 18, 0)] ∧ Seg I a k m l ∧ lo ≤ op ∧ op ≤ hi := h
    rw [h'.1]
    have := Pend.bin (op := op + 18) (ar := 0) h'.2.1 h2 (by omega) hk
    have e1 : op + 18 - 18 = op := by omega
    rw [e1] at this
    exact this
