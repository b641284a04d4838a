/-! PLACES: from which a row of steps goes to which -/
def elg (E : Ln) (p m : Int) : Prop := p ≤ m ∧ ∀ i, p ≤ i → i < m → i < E.1 ∧ E.2.2 i 2
theorem elg.rf {E : Ln} {p : Int} : elg E p p := ⟨Int.le_refl _, fun i _ _ => by omega⟩
theorem elg.hd {E : Ln} {p m : Int} (h1 : p < E.1) (h2 : E.2.2 p 2) (h : elg E (p + 1) m) : elg E p m :=
  ⟨by have := h.1; omega, fun i q1 q2 => by
    by_cases q : i = p
    · subst q; exact ⟨h1, h2⟩
    · exact h.2 i (by omega) q2⟩
theorem elg.tl {E : Ln} {p m : Int} (h : elg E p m) (h1 : m < E.1) (h2 : E.2.2 m 2) : elg E p (m + 1) :=
  ⟨by have := h.1; omega, fun i q1 q2 => by
    by_cases q : i = m
    · subst q; exact ⟨h1, h2⟩
    · exact h.2 i q1 (by omega)⟩
theorem elg.cs {E : Ln} {p m : Int} (h : elg E p m) (hp : p < m) : p < E.1 ∧ E.2.2 p 2 ∧ elg E (p + 1) m :=
  ⟨(h.2 p (Int.le_refl _) hp).1, (h.2 p (Int.le_refl _) hp).2, by omega, fun i q1 q2 => h.2 i (by omega) q2⟩
theorem elg.un {E : Ln} {p m : Int} (h : elg E p m) (hp : p < m) : elg E p (m - 1) ∧ m - 1 < E.1 ∧ E.2.2 (m - 1) 2 :=
  ⟨⟨by omega, fun i q1 q2 => h.2 i q1 (by omega)⟩, h.2 (m - 1) (by omega) (by omega)⟩
def s1 (E : Ln) (x : Int) (D : Int → Prop) (p : Int) : Prop := (x = 3 ∧ E.2.1 p ∧ D p) ∨ (x ≠ 3 ∧ ∃ v, p < E.1 ∧ E.2.2 p v ∧ gos x v ∧ D (p + 1))
theorem s1.im {E : Ln} {x : Int} {D D' : Int → Prop} {p : Int} (h : s1 E x D p) (hd : ∀ q, p ≤ q → D q → D' q) : s1 E x D' p := by
  rcases h with ⟨h1, h2, h3⟩ | ⟨h1, v, h2, h3, h4, h5⟩
  · exact Or.inl ⟨h1, h2, hd p (Int.le_refl _) h3⟩
  · exact Or.inr ⟨h1, v, h2, h3, h4, hd (p + 1) (by omega) h5⟩
def gp (E : Ln) : List Int → Int → Int → Prop
  | [], p, q => elg E p q
  | x :: w, p, q => ∃ m, elg E p m ∧ s1 E x (fun o => gp E w o q) m
def gph (E : Ln) (u : List Int) (p q : Int) : Prop := match u with
  | [] => p = q
  | x :: w => s1 E x (fun o => gp E w o q) p
/-- one elided ahead, or what is there -/
theorem gp_iff {E : Ln} {u : List Int} {p q : Int} : gp E u p q ↔ gph E u p q ∨ (p < E.1 ∧ E.2.2 p 2 ∧ gp E u (p + 1) q) := by
  cases u with
  | nil =>
    constructor
    · intro h
      have h' : elg E p q := h
      by_cases e : p = q
      · exact Or.inl e
      · exact Or.inr (h'.cs (by have := h'.1; omega))
    · rintro (h | ⟨h1, h2, h3⟩)
      · have h' : p = q := h
        subst h'; exact elg.rf
      · exact elg.hd h1 h2 h3
  | cons x w =>
    constructor
    · rintro ⟨m, h1, h2⟩
      by_cases e : p = m
      · subst e; exact Or.inl h2
      · obtain ⟨c1, c2, c3⟩ := h1.cs (by have := h1.1; omega)
        exact Or.inr ⟨c1, c2, m, c3, h2⟩
    · rintro (h | ⟨h1, h2, m, h3, h4⟩)
      · exact ⟨p, elg.rf, h⟩
      · exact ⟨m, elg.hd h1 h2 h3, h4⟩
theorem gp_le {E : Ln} : ∀ (u : List Int) (p q : Int), gp E u p q → p ≤ q := by
  intro u
  induction u with
  | nil => intro p q h; exact h.1
  | cons x w ih =>
    rintro p q ⟨m, h1, ⟨-, -, h⟩ | ⟨-, v, -, -, -, h⟩⟩
    · have := ih m q h; have := h1.1; omega
    · have := ih (m + 1) q h; have := h1.1; omega
/-- one elided behind -/
theorem gp_tl {E : Ln} : ∀ (u : List Int) (p q : Int), gp E u p q → q < E.1 → E.2.2 q 2 → gp E u p (q + 1) := by
  intro u
  induction u with
  | nil => intro p q h h1 h2; exact h.tl h1 h2
  | cons x w ih =>
    rintro p q ⟨m, h1, h2⟩ h3 h4
    exact ⟨m, h1, h2.im (fun o _ h => ih o q h h3 h4)⟩
/-- the last step -/
def gpt (E : Ln) (u : List Int) (x p q : Int) : Prop := (x = 3 ∧ E.2.1 q ∧ gp E u p q) ∨ (x ≠ 3 ∧ ∃ v, q - 1 < E.1 ∧ E.2.2 (q - 1) v ∧ gos x v ∧ gp E u p (q - 1))
theorem gp_snoc {E : Ln} {x : Int} : ∀ (u : List Int) (p q : Int), gp E (u ++ [x]) p q ↔ gpt E u x p q ∨ (q - 1 < E.1 ∧ E.2.2 (q - 1) 2 ∧ gp E (u ++ [x]) p (q - 1)) := by
  have back : ∀ (u : List Int) (p q : Int), gpt E u x p q → gp E (u ++ [x]) p q := by
    intro u
    induction u with
    | nil =>
      rintro p q (⟨h1, h2, h3⟩ | ⟨h1, v, h2, h3, h4, h5⟩)
      · exact ⟨q, h3, Or.inl ⟨h1, h2, elg.rf⟩⟩
      · exact ⟨q - 1, h5, Or.inr ⟨h1, v, h2, h3, h4, by rw [show q - 1 + 1 = q by omega]; exact elg.rf⟩⟩
    | cons y u ih =>
      rintro p q (⟨h1, h2, m, h3, h4⟩ | ⟨h1, v, h2, h3, h4, m, h5, h6⟩)
      · exact ⟨m, h3, h4.im (fun o _ h => ih o q (Or.inl ⟨h1, h2, h⟩))⟩
      · exact ⟨m, h5, h6.im (fun o _ h => ih o q (Or.inr ⟨h1, v, h2, h3, h4, h⟩))⟩
  have forth : ∀ (u : List Int) (p q : Int), gp E (u ++ [x]) p q → gpt E u x p q ∨ (q - 1 < E.1 ∧ E.2.2 (q - 1) 2 ∧ gp E (u ++ [x]) p (q - 1)) := by
    intro u
    induction u with
    | nil =>
      rintro p q ⟨m, h1, ⟨h2, h3, h4⟩ | ⟨h2, v, h3, h4, h5, h6⟩⟩
      · have h4' : elg E m q := h4
        by_cases e : m = q
        · subst e; exact Or.inl (Or.inl ⟨h2, h3, h1⟩)
        · obtain ⟨c1, c2, c3⟩ := h4'.un (by have := h4'.1; omega)
          exact Or.inr ⟨c2, c3, m, h1, Or.inl ⟨h2, h3, c1⟩⟩
      · have h6' : elg E (m + 1) q := h6
        by_cases e : m + 1 = q
        · subst e
          exact Or.inl (Or.inr ⟨h2, v, by omega, by rw [show m + 1 - 1 = m by omega]; exact h4, h5, by rw [show m + 1 - 1 = m by omega]; exact h1⟩)
        · obtain ⟨c1, c2, c3⟩ := h6'.un (by have := h6'.1; omega)
          exact Or.inr ⟨c2, c3, m, h1, Or.inr ⟨h2, v, h3, h4, h5, c1⟩⟩
    | cons y u ih =>
      rintro p q ⟨m, h1, ⟨h2, h3, h4⟩ | ⟨h2, v, h3, h4, h5, h6⟩⟩
      · rcases ih m q h4 with (⟨a1, a2, a3⟩ | ⟨a1, z, a2, a3, a4, a5⟩) | ⟨a1, a2, a3⟩
        · exact Or.inl (Or.inl ⟨a1, a2, m, h1, Or.inl ⟨h2, h3, a3⟩⟩)
        · exact Or.inl (Or.inr ⟨a1, z, a2, a3, a4, m, h1, Or.inl ⟨h2, h3, a5⟩⟩)
        · exact Or.inr ⟨a1, a2, m, h1, Or.inl ⟨h2, h3, a3⟩⟩
      · rcases ih (m + 1) q h6 with (⟨a1, a2, a3⟩ | ⟨a1, z, a2, a3, a4, a5⟩) | ⟨a1, a2, a3⟩
        · exact Or.inl (Or.inl ⟨a1, a2, m, h1, Or.inr ⟨h2, v, h3, h4, h5, a3⟩⟩)
        · exact Or.inl (Or.inr ⟨a1, z, a2, a3, a4, m, h1, Or.inr ⟨h2, v, h3, h4, h5, a5⟩⟩)
        · exact Or.inr ⟨a1, a2, m, h1, Or.inr ⟨h2, v, h3, h4, h5, a3⟩⟩
  intro u p q
  constructor
  · exact forth u p q
  · rintro (h | ⟨h1, h2, h3⟩)
    · exact back u p q h
    · have := gp_tl (u ++ [x]) p (q - 1) h3 h1 h2
      rw [show q - 1 + 1 = q by omega] at this
      exact this
/-- a row of steps takes some reading, if it goes to the end -/
theorem tk_gp {E : Ln} : ∀ (w : List Int) (p : Int), (∃ vs, tk E w p vs) ↔ gp E w p E.1 := by
  have ex : ∀ (D : Int → List Int → Prop) (p : Int), (∃ vs, elc E D p vs) ↔ ∃ m, elg E p m ∧ ∃ us, D m us := by
    intro D p
    constructor
    · rintro ⟨vs, h⟩
      have : ∀ (vs : List Int) (p : Int), elc E D p vs → ∃ m, elg E p m ∧ ∃ us, D m us := by
        intro vs
        induction vs with
        | nil => intro p h; exact ⟨p, elg.rf, [], h⟩
        | cons v vs ih =>
          rintro p (h | ⟨-, h1, h2, h3⟩)
          · exact ⟨p, elg.rf, _, h⟩
          · obtain ⟨m, c1, c2⟩ := ih (p + 1) h3
            exact ⟨m, elg.hd h1 h2 c1, c2⟩
      exact this vs p h
    · rintro ⟨m, h1, us, h2⟩
      have : ∀ (k : Nat) (p : Int), p + k = m → elg E p m → ∃ vs, elc E D p vs := by
        intro k
        induction k with
        | zero =>
          intro p hp _
          have : p = m := by omega
          subst this
          exact ⟨us, elc_iff.mpr (Or.inl h2)⟩
        | succ k ih =>
          intro p hp hg
          obtain ⟨c1, c2, c3⟩ := hg.cs (by omega)
          obtain ⟨vs, hv⟩ := ih (p + 1) (by omega) c3
          exact ⟨2 :: vs, elc_iff.mpr (Or.inr ⟨vs, rfl, c1, c2, hv⟩)⟩
      exact this (m - p).toNat p (by have := h1.1; omega) h1
  intro w
  induction w with
  | nil =>
    intro p
    show (∃ vs, elc E (fun p vs => p = E.1 ∧ vs = []) p vs) ↔ elg E p E.1
    rw [ex]
    constructor
    · rintro ⟨m, h1, us, rfl, -⟩; exact h1
    · intro h; exact ⟨E.1, h, [], rfl, rfl⟩
  | cons x w ih =>
    intro p
    show (∃ vs, elc E (stp1 E x (tk E w)) p vs) ↔ ∃ m, elg E p m ∧ s1 E x (fun o => gp E w o E.1) m
    rw [ex]
    constructor
    · rintro ⟨m, h1, us, ⟨h2, h3, h4⟩ | ⟨h2, v, vs, -, h3, h4, h5, h6⟩⟩
      · exact ⟨m, h1, Or.inl ⟨h2, h3, (ih m).mp ⟨us, h4⟩⟩⟩
      · exact ⟨m, h1, Or.inr ⟨h2, v, h3, h4, h5, (ih (m + 1)).mp ⟨vs, h6⟩⟩⟩
    · rintro ⟨m, h1, ⟨h2, h3, h4⟩ | ⟨h2, v, h3, h4, h5, h6⟩⟩
      · obtain ⟨us, hu⟩ := (ih m).mpr h4
        exact ⟨m, h1, us, Or.inl ⟨h2, h3, hu⟩⟩
      · obtain ⟨us, hu⟩ := (ih (m + 1)).mpr h6
        exact ⟨m, h1, v :: us, Or.inr ⟨h2, v, us, rfl, h3, h4, h5, hu⟩⟩
/-- a language goes from a place to the end; to a place within a word of it -/
def Gw (E : Ln) (A : Lg) (p q : Int) : Prop := ∃ w, A w ∧ gp E w p q
def Gu (E : Ln) (A : Lg) (p q : Int) : Prop := ∃ u t, A (u ++ t) ∧ gp E u p q
theorem Rd_Gw {E : Ln} {A : Lg} {p : Int} : (∃ vs, Rd E A p vs) ↔ Gw E A p E.1 := by
  constructor
  · rintro ⟨vs, w, h1, h2⟩; exact ⟨w, h1, (tk_gp w p).mp ⟨vs, h2⟩⟩
  · rintro ⟨w, h1, h2⟩
    obtain ⟨vs, hv⟩ := (tk_gp w p).mpr h2
    exact ⟨vs, w, h1, hv⟩
/-- how places are told of nodes: a family that the nodes' kinds make -/
def Fam (E : Ln) (F : Nat → Lg) (b : Nat → Int → Prop) (A : Nat → Int → Prop) : Prop := (∀ p, F 0 = lnil → (A 0 p ↔ b 0 p ∨ (p < E.1 ∧ E.2.2 p 2 ∧ A 0 (p + 1)))) ∧ (∀ j k x p, 0 < j → F j = lcat (l1 x) (F k) → (A j p ↔ b j p ∨ s1 E x (A k) p ∨ (p < E.1 ∧ E.2.2 p 2 ∧ A j (p + 1)))) ∧ (∀ j k l p, F j = lor (F k) (F l) → (A j p ↔ A k p ∨ A l p))
theorem fam_w {E : Ln} {F : Nat → Lg} {q : Int} : Fam E F (fun j p => j = 0 ∧ p = q) (fun j p => Gw E (F j) p q) := by
  refine ⟨fun p hF => ?_, fun j k x p h0 hF => ?_, fun j k l p hF => ?_⟩
  · constructor
    · rintro ⟨w, h1, h2⟩
      have h1' := h1
      rw [hF] at h1'
      have : w = [] := h1'
      subst this
      rcases gp_iff.mp h2 with h | ⟨c1, c2, c3⟩
      · exact Or.inl ⟨rfl, h⟩
      · exact Or.inr ⟨c1, c2, [], h1, c3⟩
    · rintro (⟨-, h⟩ | ⟨c1, c2, w, h1, h2⟩)
      · exact ⟨[], by rw [hF]; rfl, gp_iff.mpr (Or.inl h)⟩
      · exact ⟨w, h1, gp_iff.mpr (Or.inr ⟨c1, c2, h2⟩)⟩
  · constructor
    · rintro ⟨w, h1, h2⟩
      have h1' := h1
      rw [hF] at h1'
      obtain ⟨u, v, rfl, r1, r2⟩ := h1'
      have : u = [x] := r1
      subst this
      rcases gp_iff.mp h2 with h | ⟨c1, c2, c3⟩
      · exact Or.inr (Or.inl (s1.im (D := fun o => gp E v o q) h (fun o _ e => ⟨v, r2, e⟩)))
      · exact Or.inr (Or.inr ⟨c1, c2, _, h1, c3⟩)
    · rintro (⟨e, -⟩ | h | ⟨c1, c2, w, h1, h2⟩)
      · omega
      · rcases h with ⟨a1, a2, w, a3, a4⟩ | ⟨a1, v, a2, a3, a4, w, a5, a6⟩
        · exact ⟨x :: w, by rw [hF]; exact ⟨[x], w, rfl, rfl, a3⟩, gp_iff.mpr (Or.inl (Or.inl ⟨a1, a2, a4⟩))⟩
        · exact ⟨x :: w, by rw [hF]; exact ⟨[x], w, rfl, rfl, a5⟩, gp_iff.mpr (Or.inl (Or.inr ⟨a1, v, a2, a3, a4, a6⟩))⟩
      · exact ⟨w, h1, gp_iff.mpr (Or.inr ⟨c1, c2, h2⟩)⟩
  · show Gw E (F j) p q ↔ Gw E (F k) p q ∨ Gw E (F l) p q
    unfold Gw
    rw [hF]
    constructor
    · rintro ⟨w, h | h, h2⟩
      · exact Or.inl ⟨w, h, h2⟩
      · exact Or.inr ⟨w, h, h2⟩
    · rintro (⟨w, h, h2⟩ | ⟨w, h, h2⟩)
      · exact ⟨w, Or.inl h, h2⟩
      · exact ⟨w, Or.inr h, h2⟩
theorem fam_u {E : Ln} {F : Nat → Lg} (hne : ∀ j, ∃ w, F j w) {q : Int} : Fam E F (fun _ p => p = q) (fun j p => Gu E (F j) p q) := by
  have base : ∀ j p, p = q → Gu E (F j) p q := fun j p e => by
    obtain ⟨w, hw⟩ := hne j
    exact ⟨[], w, hw, gp_iff.mpr (Or.inl e)⟩
  refine ⟨fun p hF => ?_, fun j k x p h0 hF => ?_, fun j k l p hF => ?_⟩
  · constructor
    · rintro ⟨u, t, h1, h2⟩
      have h1' := h1
      rw [hF] at h1'
      have : u ++ t = [] := h1'
      obtain ⟨rfl, rfl⟩ := List.append_eq_nil_iff.mp this
      rcases gp_iff.mp h2 with h | ⟨c1, c2, c3⟩
      · exact Or.inl h
      · exact Or.inr ⟨c1, c2, [], [], h1, c3⟩
    · rintro (h | ⟨c1, c2, u, t, h1, h2⟩)
      · exact base 0 p h
      · exact ⟨u, t, h1, gp_iff.mpr (Or.inr ⟨c1, c2, h2⟩)⟩
  · constructor
    · rintro ⟨u, t, h1, h2⟩
      rcases gp_iff.mp h2 with h | ⟨c1, c2, c3⟩
      · cases u with
        | nil => exact Or.inl h
        | cons y u =>
          have h1' := h1
          rw [hF] at h1'
          obtain ⟨a, b, e1, e2, e3⟩ := h1'
          have e2' : a = [x] := e2
          subst e2'
          have e1' : y :: (u ++ t) = x :: b := e1
          injection e1' with e4 e5
          subst e4
          exact Or.inr (Or.inl (s1.im (D := fun o => gp E u o q) h (fun o _ e => ⟨u, t, by rw [e5]; exact e3, e⟩)))
      · exact Or.inr (Or.inr ⟨c1, c2, u, t, h1, c3⟩)
    · rintro (h | h | ⟨c1, c2, u, t, h1, h2⟩)
      · exact base j p h
      · rcases h with ⟨a1, a2, u, t, a3, a4⟩ | ⟨a1, v, a2, a3, a4, u, t, a5, a6⟩
        · exact ⟨x :: u, t, by rw [hF]; exact ⟨[x], u ++ t, rfl, rfl, a3⟩, gp_iff.mpr (Or.inl (Or.inl ⟨a1, a2, a4⟩))⟩
        · exact ⟨x :: u, t, by rw [hF]; exact ⟨[x], u ++ t, rfl, rfl, a5⟩, gp_iff.mpr (Or.inl (Or.inr ⟨a1, v, a2, a3, a4, a6⟩))⟩
      · exact ⟨u, t, h1, gp_iff.mpr (Or.inr ⟨c1, c2, h2⟩)⟩
  · show Gu E (F j) p q ↔ Gu E (F k) p q ∨ Gu E (F l) p q
    unfold Gu
    rw [hF]
    constructor
    · rintro ⟨u, t, h | h, h2⟩
      · exact Or.inl ⟨u, t, h, h2⟩
      · exact Or.inr ⟨u, t, h, h2⟩
    · rintro (⟨u, t, h, h2⟩ | ⟨u, t, h, h2⟩)
      · exact ⟨u, t, Or.inl h, h2⟩
      · exact ⟨u, t, Or.inr h, h2⟩
/-- places by paths of steps that follow each other -/
def Gs (E : Ln) (U : Au) (s q : Int) : Prop := ∃ u, pth U u 0 s ∧ gp E u 0 q
theorem Gs_iff {E : Ln} {U : Au} {s q : Int} (hs : ∀ m, ¬ U.1 m 0) : Gs E U s q ↔ (s = 0 ∧ q = 0) ∨ (q - 1 < E.1 ∧ E.2.2 (q - 1) 2 ∧ Gs E U s (q - 1)) ∨ ∃ m, U.1 m s ∧ ((U.2.2 s = 3 ∧ E.2.1 q ∧ Gs E U m q) ∨ (U.2.2 s ≠ 3 ∧ ∃ v, q - 1 < E.1 ∧ E.2.2 (q - 1) v ∧ gos (U.2.2 s) v ∧ Gs E U m (q - 1))) := by
  constructor
  · rintro ⟨u, h1, h2⟩
    by_cases e : u = []
    · subst e
      have e1 : (0 : Int) = s := h1
      have h2' : elg E 0 q := h2
      by_cases e2 : q = 0
      · exact Or.inl ⟨e1.symm, e2⟩
      · obtain ⟨c1, c2, c3⟩ := h2'.un (by have := h2'.1; omega)
        exact Or.inr (Or.inl ⟨c2, c3, [], h1, c1⟩)
    · obtain ⟨u', x, rfl⟩ : ∃ u' x, u = u' ++ [x] := ⟨u.dropLast, u.getLast e, (List.dropLast_concat_getLast e).symm⟩
      rcases (gp_snoc u' 0 q).mp h2 with h | ⟨c1, c2, c3⟩
      · obtain ⟨m, p1, p2, rfl⟩ := (pth_snoc u' 0 s).mp h1
        refine Or.inr (Or.inr ⟨m, p2, ?_⟩)
        rcases h with ⟨a1, a2, a3⟩ | ⟨a1, v, a2, a3, a4, a5⟩
        · exact Or.inl ⟨a1, a2, u', p1, a3⟩
        · exact Or.inr ⟨a1, v, a2, a3, a4, u', p1, a5⟩
      · exact Or.inr (Or.inl ⟨c1, c2, _, h1, c3⟩)
  · rintro (⟨rfl, rfl⟩ | ⟨c1, c2, u, h1, h2⟩ | ⟨m, p2, ⟨a1, a2, u, p1, a3⟩ | ⟨a1, v, a2, a3, a4, u, p1, a5⟩⟩)
    · exact ⟨[], rfl, elg.rf⟩
    · refine ⟨u, h1, ?_⟩
      have := gp_tl u 0 (q - 1) h2 c1 c2
      rw [show q - 1 + 1 = q by omega] at this
      exact this
    · exact ⟨u ++ [U.2.2 s], (pth_snoc u 0 s).mpr ⟨m, p1, p2, rfl⟩, (gp_snoc u 0 q).mpr (Or.inl (Or.inl ⟨a1, a2, a3⟩))⟩
    · exact ⟨u ++ [U.2.2 s], (pth_snoc u 0 s).mpr ⟨m, p1, p2, rfl⟩, (gp_snoc u 0 q).mpr (Or.inl (Or.inr ⟨a1, v, a2, a3, a4, a5⟩))⟩
theorem Gu_Gs {E : Ln} {U : Au} {n q : Int} (hn : ∀ s, 0 ≤ s → s ≤ n → ∃ w, gk U w s) (h0 : 0 ≤ n) (hf : ∀ s o, U.1 s o → 0 ≤ o ∧ o ≤ n) : Gu E (gL U 0) 0 q ↔ ∃ s, 0 ≤ s ∧ s ≤ n ∧ Gs E U s q := by
  have hp : ∀ (u : List Int) (s o : Int), 0 ≤ s ∧ s ≤ n → pth U u s o → 0 ≤ o ∧ o ≤ n := by
    intro u
    induction u with
    | nil => intro s o hs h; have : s = o := h; omega
    | cons x u ih => rintro s o hs ⟨m, h1, -, h3⟩; exact ih m o (hf s m h1) h3
  constructor
  · rintro ⟨u, t, h1, h2⟩
    obtain ⟨o, p1, p2⟩ := (gk_app u 0).mp h1
    have := hp u 0 o (by omega) p1
    exact ⟨o, this.1, this.2, u, p1, h2⟩
  · rintro ⟨s, q1, q2, u, p1, p2⟩
    obtain ⟨w, hw⟩ := hn s q1 q2
    exact ⟨u, w, (gk_app u 0).mpr ⟨s, p1, hw⟩, p2⟩
