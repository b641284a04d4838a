/-! PLACES FLOW from node to node -/
theorem el_iff {E : Ln} {A H : Int → Prop} (h : ∀ p, A p ↔ H p ∨ (p < E.1 ∧ E.2.2 p 2 ∧ A (p + 1))) (p : Int) : A p ↔ ∃ q, elg E p q ∧ H q := by
  constructor
  · have key : ∀ (k : Nat) (p : Int), E.1 - p ≤ k → A p → ∃ q, elg E p q ∧ H q := by
      intro k
      induction k with
      | zero =>
        intro p hk ha
        rcases (h p).mp ha with w | ⟨w, -⟩
        · exact ⟨p, elg.rf, w⟩
        · omega
      | succ k ih =>
        intro p hk ha
        rcases (h p).mp ha with w | ⟨w1, w2, w3⟩
        · exact ⟨p, elg.rf, w⟩
        · obtain ⟨q, q1, q2⟩ := ih (p + 1) (by omega) w3
          exact ⟨q, elg.hd w1 w2 q1, q2⟩
    exact key (E.1 - p).toNat p (by omega)
  · rintro ⟨q, q1, q2⟩
    have key : ∀ (k : Nat) (p : Int), p + k = q → elg E p q → A p := by
      intro k
      induction k with
      | zero =>
        intro p hk _
        have : p = q := by omega
        subst this
        exact (h p).mpr (Or.inl q2)
      | succ k ih =>
        intro p hk hg
        obtain ⟨c1, c2, c3⟩ := hg.cs (by omega)
        exact (h p).mpr (Or.inr ⟨c1, c2, ih (p + 1) (by omega) c3⟩)
    exact key (q - p).toNat p (by have := q1.1; omega) q1
def cle (E : Ln) (P : Int → Prop) (p : Int) : Prop := ∃ p0, P p0 ∧ elg E p0 p
/-- what a node gives to another one -/
def giv (E : Ln) (k nx ot : Int → Int) (j : Nat) (P : Int → Prop) (i : Nat) (p : Int) : Prop := (∃ x : Int, (0 ≤ x ∧ x ≤ 3) ∧ k j = x + 1 ∧ nx j = i ∧ ((x = 3 ∧ E.2.1 p ∧ cle E P p) ∨ (x ≠ 3 ∧ ∃ v, p - 1 < E.1 ∧ E.2.2 (p - 1) v ∧ gos x v ∧ cle E P (p - 1)))) ∨ (k j = 5 ∧ (nx j = i ∨ ot j = i) ∧ cle E P p)
section
variable {E : Ln} {F : Nat → Lg} {b A : Nat → Int → Prop} {k nx ot : Int → Int} {m : Nat}
/-- an elided one ahead, at any node -/
theorem Fam.el (hF : Fam E F b A) (hG : Gr k nx ot m F) : ∀ (j : Nat), j < m → ∀ p, p < E.1 → E.2.2 p 2 → A j (p + 1) → A j p := by
  intro j
  induction j using Nat.strongRecOn with
  | _ j ih =>
    intro hj p h1 h2 h3
    rcases hG j hj with ⟨rfl, -, e⟩ | ⟨x, -, -, -, q, q1, -, e⟩ | ⟨-, q, r, q1, r1, -, -, e⟩
    · exact (hF.1 p e).mpr (Or.inr ⟨h1, h2, h3⟩)
    · exact (hF.2.1 j q x p (by omega) e).mpr (Or.inr (Or.inr ⟨h1, h2, h3⟩))
    · rcases (hF.2.2 j q r (p + 1) e).mp h3 with w | w
      · exact (hF.2.2 j q r p e).mpr (Or.inl (ih q q1 (by omega) p h1 h2 w))
      · exact (hF.2.2 j q r p e).mpr (Or.inr (ih r r1 (by omega) p h1 h2 w))
theorem Fam.els (hF : Fam E F b A) (hG : Gr k nx ot m F) {j : Nat} (hj : j < m) {p q : Int} (he : elg E p q) (h : A j q) : A j p := by
  have key : ∀ (c : Nat) (p : Int), p + c = q → elg E p q → A j p := by
    intro c
    induction c with
    | zero => intro p hk _; have : p = q := by omega
              subst this; exact h
    | succ c ih =>
      intro p hk hg
      obtain ⟨c1, c2, c3⟩ := hg.cs (by omega)
      exact hF.el hG j hj p c1 c2 (ih (p + 1) (by omega) c3)
  exact key (q - p).toNat p (by have := he.1; omega) he
/-- one node's places go on -/
theorem Fam.one (hF : Fam E F b A) (hb : ∀ j p, j < m → b j p → A j p) (hG : Gr k nx ot m F) {j : Nat} (hj : j < m) (P : Int → Prop) : (∃ p, P p ∧ A j p) ↔ (∃ p, cle E P p ∧ b j p) ∨ (∃ i p, i < j ∧ giv E k nx ot j P i p ∧ A i p) := by
  rcases hG j hj with ⟨rfl, k0, e⟩ | ⟨x, x0, x3, kx, q, q1, nq, e⟩ | ⟨k5, q, r, q1, r1, nq, nr, e⟩
  · have h := el_iff (E := E) (A := A 0) (H := b 0) (fun p => hF.1 p e)
    constructor
    · rintro ⟨p, p1, p2⟩
      obtain ⟨q, q1, q2⟩ := (h p).mp p2
      exact Or.inl ⟨q, ⟨p, p1, q1⟩, q2⟩
    · rintro (⟨p, ⟨p0, p1, p2⟩, p3⟩ | ⟨i, p, hi, -⟩)
      · exact ⟨p0, p1, (h p0).mpr ⟨p, p2, p3⟩⟩
      · omega
  · have h := el_iff (E := E) (A := A j) (H := fun p => b j p ∨ s1 E x (A q) p) (fun p => by rw [hF.2.1 j q x p (by omega) e, or_assoc])
    constructor
    · rintro ⟨p, p1, p2⟩
      obtain ⟨u, u1, u2 | u2⟩ := (h p).mp p2
      · exact Or.inl ⟨u, ⟨p, p1, u1⟩, u2⟩
      · rcases u2 with ⟨w1, w2, w3⟩ | ⟨w1, v, w2, w3, w4, w5⟩
        · exact Or.inr ⟨q, u, q1, Or.inl ⟨x, ⟨x0, x3⟩, kx, nq, Or.inl ⟨w1, w2, p, p1, u1⟩⟩, w3⟩
        · refine Or.inr ⟨q, u + 1, q1, Or.inl ⟨x, ⟨x0, x3⟩, kx, nq, Or.inr ⟨w1, v, ?_⟩⟩, w5⟩
          rw [show u + 1 - 1 = u by omega]
          exact ⟨w2, w3, w4, p, p1, u1⟩
    · rintro (⟨p, ⟨p0, p1, p2⟩, p3⟩ | ⟨i, p, hi, g, ha⟩)
      · exact ⟨p0, p1, (h p0).mpr ⟨p, p2, Or.inl p3⟩⟩
      · rcases g with ⟨y, -, ky, ny, g⟩ | ⟨k5, -⟩
        · have hy : y = x := by omega
          subst hy
          have hi' : i = q := by omega
          subst hi'
          rcases g with ⟨w1, w2, p0, w3, w4⟩ | ⟨w1, v, w2, w3, w4, p0, w5, w6⟩
          · exact ⟨p0, w3, (h p0).mpr ⟨p, w4, Or.inr (Or.inl ⟨w1, w2, ha⟩)⟩⟩
          · exact ⟨p0, w5, (h p0).mpr ⟨p - 1, w6, Or.inr (Or.inr ⟨w1, v, w2, w3, w4, by rw [show p - 1 + 1 = p by omega]; exact ha⟩)⟩⟩
        · omega
  · constructor
    · rintro ⟨p, p1, p2⟩
      rcases (hF.2.2 j q r p e).mp p2 with w | w
      · exact Or.inr ⟨q, p, q1, Or.inr ⟨k5, Or.inl nq, p, p1, elg.rf⟩, w⟩
      · exact Or.inr ⟨r, p, r1, Or.inr ⟨k5, Or.inr nr, p, p1, elg.rf⟩, w⟩
    · rintro (⟨p, ⟨p0, p1, p2⟩, p3⟩ | ⟨i, p, hi, g, ha⟩)
      · exact ⟨p0, p1, hF.els hG hj p2 (hb j p hj p3)⟩
      · rcases g with ⟨y, hy, ky, -⟩ | ⟨-, w, p0, w1, w2⟩
        · omega
        · refine ⟨p0, w1, hF.els hG hj w2 ((hF.2.2 j q r p e).mpr ?_)⟩
          rcases w with w | w
          · have hi' : i = q := by omega
            subst hi'; exact Or.inl ha
          · have hi' : i = r := by omega
            subst hi'; exact Or.inr ha
/-- how the places lie when nodes from j on have been gone through -/
def Fl (st : Nat) (m : Nat) (b A : Nat → Int → Prop) (Q : Nat → Int → Prop) (j : Nat) : Prop := A st 0 ↔ (∃ i p, i < j ∧ Q i p ∧ A i p) ∨ (∃ i p, j ≤ i ∧ i < m ∧ Q i p ∧ b i p)
theorem Fl.step (hF : Fam E F b A) (hb : ∀ j p, j < m → b j p → A j p) (hG : Gr k nx ot m F) {st j : Nat} (hj : j < m) {Q Q' : Nat → Int → Prop} (h : Fl st m b A Q (j + 1)) (h1 : ∀ p, Q' j p ↔ cle E (Q j) p) (h2 : ∀ i p, i < j → (Q' i p ↔ Q i p ∨ giv E k nx ot j (Q j) i p)) (h3 : ∀ i p, j < i → i < m → (Q' i p ↔ Q i p)) : Fl st m b A Q' j := by
  unfold Fl at h ⊢
  rw [h]
  have o := hF.one hb hG hj (Q j)
  constructor
  · rintro (⟨i, p, hi, w1, w2⟩ | ⟨i, p, hi, hm, w1, w2⟩)
    · by_cases e : i = j
      · subst e
        rcases o.mp ⟨p, w1, w2⟩ with ⟨q, v1, v2⟩ | ⟨u, q, v1, v2, v3⟩
        · exact Or.inr ⟨i, q, Nat.le_refl _, hj, (h1 q).mpr v1, v2⟩
        · exact Or.inl ⟨u, q, v1, (h2 u q v1).mpr (Or.inr v2), v3⟩
      · exact Or.inl ⟨i, p, by omega, (h2 i p (by omega)).mpr (Or.inl w1), w2⟩
    · exact Or.inr ⟨i, p, by omega, hm, (h3 i p (by omega) hm).mpr w1, w2⟩
  · rintro (⟨i, p, hi, w1, w2⟩ | ⟨i, p, hi, hm, w1, w2⟩)
    · rcases (h2 i p hi).mp w1 with w | w
      · exact Or.inl ⟨i, p, by omega, w, w2⟩
      · obtain ⟨q, v1, v2⟩ := o.mpr (Or.inr ⟨i, p, hi, w, w2⟩)
        exact Or.inl ⟨j, q, by omega, v1, v2⟩
    · by_cases e : i = j
      · subst e
        obtain ⟨q, v1, v2⟩ := o.mpr (Or.inl ⟨p, (h1 p).mp w1, w2⟩)
        exact Or.inl ⟨i, q, by omega, v1, v2⟩
      · exact Or.inr ⟨i, p, by omega, hm, (h3 i p (by omega) hm).mp w1, w2⟩
end
