/-! READINGS: a row of steps takes a row of ways of reading, from a place on (where the line ends, where a cut can be, what can be read) -/
abbrev Ln : Type := Int × (Int → Prop) × (Int → Int → Prop)
/-- long, short, any with a way of reading -/
def gos (x v : Int) : Prop := (x = 0 ∧ v = 1) ∨ (x = 1 ∧ v = 0) ∨ (x = 2 ∧ (v = 0 ∨ v = 1))
/-- some are elided, then what is told -/
def elc (E : Ln) (D : Int → List Int → Prop) : Int → List Int → Prop
  | p, [] => D p []
  | p, v :: vs => D p (v :: vs) ∨ (v = 2 ∧ p < E.1 ∧ E.2.2 p 2 ∧ elc E D (p + 1) vs)
/-- one step -/
def stp1 (E : Ln) (x : Int) (D : Int → List Int → Prop) (p : Int) (vs : List Int) : Prop := (x = 3 ∧ E.2.1 p ∧ D p vs) ∨ (x ≠ 3 ∧ ∃ v us, vs = v :: us ∧ p < E.1 ∧ E.2.2 p v ∧ gos x v ∧ D (p + 1) us)
def tk (E : Ln) : List Int → Int → List Int → Prop
  | [] => elc E (fun p vs => p = E.1 ∧ vs = [])
  | x :: w => elc E (stp1 E x (tk E w))
/-- an elided one ahead -/
def eli (E : Ln) (D : Int → List Int → Prop) (p : Int) (vs : List Int) : Prop := ∃ us, vs = 2 :: us ∧ p < E.1 ∧ E.2.2 p 2 ∧ D (p + 1) us
theorem elc_iff {E : Ln} {D : Int → List Int → Prop} {p : Int} {vs : List Int} : elc E D p vs ↔ D p vs ∨ eli E (elc E D) p vs := by
  cases vs with
  | nil =>
    constructor
    · intro h; exact Or.inl h
    · rintro (h | ⟨us, h, -⟩)
      · exact h
      · cases h
  | cons v vs =>
    constructor
    · rintro (h | ⟨rfl, h1, h2, h3⟩)
      · exact Or.inl h
      · exact Or.inr ⟨vs, rfl, h1, h2, h3⟩
    · rintro (h | ⟨us, h, h1, h2, h3⟩)
      · exact Or.inl h
      · cases h; exact Or.inr ⟨rfl, h1, h2, h3⟩
/-- a language takes a reading -/
def Rd (E : Ln) (A : Lg) (p : Int) (vs : List Int) : Prop := ∃ w, A w ∧ tk E w p vs
theorem eli_ex {E : Ln} {A : Lg} {p : Int} {vs : List Int} : eli E (Rd E A) p vs ↔ ∃ w, A w ∧ eli E (tk E w) p vs := by
  constructor
  · rintro ⟨us, h, h1, h2, w, h3, h4⟩; exact ⟨w, h3, us, h, h1, h2, h4⟩
  · rintro ⟨w, h3, us, h, h1, h2, h4⟩; exact ⟨us, h, h1, h2, w, h3, h4⟩
theorem tk_nil {E : Ln} {p : Int} {vs : List Int} : tk E [] p vs ↔ (p = E.1 ∧ vs = []) ∨ eli E (tk E []) p vs := elc_iff
theorem tk_cons {E : Ln} {x : Int} {w : List Int} {p : Int} {vs : List Int} : tk E (x :: w) p vs ↔ stp1 E x (tk E w) p vs ∨ eli E (tk E (x :: w)) p vs := elc_iff
theorem stp1_ex {E : Ln} {x : Int} {A : Lg} {p : Int} {vs : List Int} : stp1 E x (Rd E A) p vs ↔ ∃ w, A w ∧ stp1 E x (tk E w) p vs := by
  constructor
  · rintro (⟨h1, h2, w, h3, h4⟩ | ⟨h1, v, us, h2, h3, h4, h5, w, h6, h7⟩)
    · exact ⟨w, h3, Or.inl ⟨h1, h2, h4⟩⟩
    · exact ⟨w, h6, Or.inr ⟨h1, v, us, h2, h3, h4, h5, h7⟩⟩
  · rintro ⟨w, h3, ⟨h1, h2, h4⟩ | ⟨h1, v, us, h2, h5, h4, h6, h7⟩⟩
    · exact Or.inl ⟨h1, h2, w, h3, h4⟩
    · exact Or.inr ⟨h1, v, us, h2, h5, h4, h6, w, h3, h7⟩
theorem Rd_nil {E : Ln} {p : Int} {vs : List Int} : Rd E lnil p vs ↔ (p = E.1 ∧ vs = []) ∨ eli E (Rd E lnil) p vs := by
  rw [eli_ex]
  constructor
  · rintro ⟨w, h1, h2⟩
    have : w = [] := h1
    subst this
    rcases tk_nil.mp h2 with h | h
    · exact Or.inl h
    · exact Or.inr ⟨[], rfl, h⟩
  · rintro (h | ⟨w, h1, h2⟩)
    · exact ⟨[], rfl, tk_nil.mpr (Or.inl h)⟩
    · have : w = [] := h1
      subst this
      exact ⟨[], rfl, tk_nil.mpr (Or.inr h2)⟩
theorem Rd_cons {E : Ln} {x : Int} {A : Lg} {p : Int} {vs : List Int} : Rd E (lcat (l1 x) A) p vs ↔ stp1 E x (Rd E A) p vs ∨ eli E (Rd E (lcat (l1 x) A)) p vs := by
  rw [eli_ex, stp1_ex]
  constructor
  · rintro ⟨w, ⟨u, v, rfl, h1, h2⟩, h3⟩
    have : u = [x] := h1
    subst this
    rcases tk_cons.mp h3 with h | h
    · exact Or.inl ⟨v, h2, h⟩
    · exact Or.inr ⟨x :: v, ⟨[x], v, rfl, rfl, h2⟩, h⟩
  · rintro (⟨w, h1, h2⟩ | ⟨w, ⟨u, v, rfl, h1, h2⟩, h3⟩)
    · exact ⟨x :: w, ⟨[x], w, rfl, rfl, h1⟩, tk_cons.mpr (Or.inl h2)⟩
    · have : u = [x] := h1
      subst this
      exact ⟨x :: v, ⟨[x], v, rfl, rfl, h2⟩, tk_cons.mpr (Or.inr h3)⟩
theorem Rd_or {E : Ln} {A B : Lg} {p : Int} {vs : List Int} : Rd E (lor A B) p vs ↔ Rd E A p vs ∨ Rd E B p vs := by
  constructor
  · rintro ⟨w, h | h, h1⟩
    · exact Or.inl ⟨w, h, h1⟩
    · exact Or.inr ⟨w, h, h1⟩
  · rintro (⟨w, h, h1⟩ | ⟨w, h, h1⟩)
    · exact ⟨w, Or.inl h, h1⟩
    · exact ⟨w, Or.inr h, h1⟩
/-! steps that follow each other: where one is, what is spelled from there on -/
abbrev Au : Type := (Int → Int → Prop) × (Int → Prop) × (Int → Int)
def gk (U : Au) : List Int → Int → Prop
  | [], s => U.2.1 s
  | x :: w, s => ∃ o, U.1 s o ∧ U.2.2 o = x ∧ gk U w o
def gL (U : Au) (s : Int) : Lg := fun w => gk U w s
theorem Rd_gk {E : Ln} {U : Au} {s p : Int} {vs : List Int} : Rd E (gL U s) p vs ↔ (U.2.1 s ∧ p = E.1 ∧ vs = []) ∨ (∃ o, U.1 s o ∧ stp1 E (U.2.2 o) (Rd E (gL U o)) p vs) ∨ eli E (Rd E (gL U s)) p vs := by
  rw [eli_ex]
  constructor
  · rintro ⟨w, h1, h2⟩
    cases w with
    | nil =>
      rcases tk_nil.mp h2 with h | h
      · exact Or.inl ⟨h1, h⟩
      · exact Or.inr (Or.inr ⟨[], h1, h⟩)
    | cons x w =>
      obtain ⟨o, h3, rfl, h5⟩ := h1
      rcases tk_cons.mp h2 with h | h
      · exact Or.inr (Or.inl ⟨o, h3, stp1_ex.mpr ⟨w, h5, h⟩⟩)
      · exact Or.inr (Or.inr ⟨_ :: w, ⟨o, h3, rfl, h5⟩, h⟩)
  · rintro (⟨h1, h2⟩ | ⟨o, h1, h2⟩ | ⟨w, h1, h2⟩)
    · exact ⟨[], h1, tk_nil.mpr (Or.inl h2)⟩
    · obtain ⟨w, h3, h4⟩ := stp1_ex.mp h2
      exact ⟨U.2.2 o :: w, ⟨o, h1, rfl, h3⟩, tk_cons.mpr (Or.inl h4)⟩
    · cases w with
      | nil => exact ⟨[], h1, tk_nil.mpr (Or.inr h2)⟩
      | cons x w => exact ⟨x :: w, h1, tk_cons.mpr (Or.inr h2)⟩
/-- a reading is as long as the line is from there on, and of ways that can be -/
theorem tk_len {E : Ln} : ∀ (w : List Int) (p : Int) (vs : List Int), tk E w p vs → (vs.length : Int) = E.1 - p ∧ ∀ (j : Nat) (v : Int), vs[j]? = some v → E.2.2 (p + j) v ∧ 0 ≤ v ∧ v ≤ 2 := by
  have hcs : ∀ {v : Int} {us : List Int} {p : Int}, (E.2.2 p v ∧ 0 ≤ v ∧ v ≤ 2) → ((us.length : Int) = E.1 - (p + 1) ∧ ∀ (j : Nat) (v : Int), us[j]? = some v → E.2.2 (p + 1 + j) v ∧ 0 ≤ v ∧ v ≤ 2) → (((v :: us).length : Nat) : Int) = E.1 - p ∧ ∀ (j : Nat) (u : Int), (v :: us)[j]? = some u → E.2.2 (p + j) u ∧ 0 ≤ u ∧ u ≤ 2 := by
    intro v us p h1 ⟨h2, h3⟩
    refine ⟨by rw [List.length_cons]; omega, fun j u hu => ?_⟩
    cases j with
    | zero =>
      have : v = u := Option.some.inj hu
      subst this
      rw [show p + ((0 : Nat) : Int) = p by omega]; exact h1
    | succ j =>
      have := h3 j u hu
      rw [show p + ((j + 1 : Nat) : Int) = p + 1 + j by omega]; exact this
  have key : ∀ (D : Int → List Int → Prop), (∀ p vs, D p vs → (vs.length : Int) = E.1 - p ∧ ∀ (j : Nat) (v : Int), vs[j]? = some v → E.2.2 (p + j) v ∧ 0 ≤ v ∧ v ≤ 2) → ∀ (vs : List Int) (p : Int), elc E D p vs → (vs.length : Int) = E.1 - p ∧ ∀ (j : Nat) (v : Int), vs[j]? = some v → E.2.2 (p + j) v ∧ 0 ≤ v ∧ v ≤ 2 := by
    intro D hD vs
    induction vs with
    | nil => intro p h; exact hD p [] h
    | cons v vs ih =>
      rintro p (h | ⟨rfl, h1, h2, h3⟩)
      · exact hD p _ h
      · exact hcs ⟨h2, by omega, by omega⟩ (ih (p + 1) h3)
  intro w
  induction w with
  | nil =>
    intro p vs h
    refine key _ (fun p vs h => ?_) vs p h
    obtain ⟨rfl, rfl⟩ := h
    exact ⟨by show (0 : Int) = _; omega, fun j v hv => by cases hv⟩
  | cons x w ih =>
    intro p vs h
    refine key _ (fun p vs h => ?_) vs p h
    rcases h with ⟨-, -, h⟩ | ⟨-, v, us, rfl, h1, h2, h3, h4⟩
    · exact ih p vs h
    · refine hcs ⟨h2, ?_⟩ (ih (p + 1) us h4)
      rcases h3 with ⟨-, rfl⟩ | ⟨-, rfl⟩ | ⟨-, rfl | rfl⟩ <;> omega
/-! what a row of ways costs from a place on -/
def ct (f : Int → Int → Int) : Int → List Int → Int
  | _, [] => 0
  | p, v :: vs => f p v + ct f (p + 1) vs
/-- the least of them; at far or beyond: there is none -/
def Mn (far : Int) (D : List Int → Prop) (f : List Int → Int) (v : Int) : Prop := (far ≤ v ∧ ∀ vs, ¬ D vs) ∨ (v < far ∧ (∃ vs, D vs ∧ f vs = v) ∧ ∀ us, D us → v ≤ f us)
section
variable {far : Int} {D D' : List Int → Prop} {f : List Int → Int} {v v' : Int}
theorem Mn.no (h : far ≤ v) (hD : ∀ vs, ¬ D vs) : Mn far D f v := Or.inl ⟨h, hD⟩
theorem Mn.or (h1 : Mn far D f v) (h2 : Mn far D' f v') : Mn far (fun vs => D vs ∨ D' vs) f (min v v') := by
  rcases h1 with ⟨a1, a2⟩ | ⟨a1, ⟨w, a2, a3⟩, a4⟩
  · rcases h2 with ⟨b1, b2⟩ | ⟨b1, ⟨u, b2, b3⟩, b4⟩
    · exact Or.inl ⟨by omega, fun vs h => h.elim (a2 vs) (b2 vs)⟩
    · exact Or.inr ⟨by omega, ⟨u, Or.inr b2, by omega⟩, fun us h => by
        rcases h with h | h
        · exact absurd h (a2 us)
        · have := b4 us h; omega⟩
  · rcases h2 with ⟨b1, b2⟩ | ⟨b1, ⟨u, b2, b3⟩, b4⟩
    · exact Or.inr ⟨by omega, ⟨w, Or.inl a2, by omega⟩, fun us h => by
        rcases h with h | h
        · have := a4 us h; omega
        · exact absurd h (b2 us)⟩
    · refine Or.inr ⟨by omega, ?_, fun us h => ?_⟩
      · by_cases q : v ≤ v'
        · exact ⟨w, Or.inl a2, by omega⟩
        · exact ⟨u, Or.inr b2, by omega⟩
      · rcases h with h | h
        · have := a4 us h; omega
        · have := b4 us h; omega
theorem Mn.cg (h : Mn far D f v) (hD : ∀ vs, D' vs ↔ D vs) : Mn far D' f v := by
  have : D' = D := funext fun vs => propext (hD vs)
  rw [this]; exact h
theorem Mn.lt (h : Mn far D f v) : v < far ↔ ∃ vs, D vs := by
  rcases h with ⟨a1, a2⟩ | ⟨a1, ⟨w, a2, a3⟩, a4⟩
  · exact ⟨fun q => by omega, fun ⟨vs, q⟩ => absurd q (a2 vs)⟩
  · exact ⟨fun _ => ⟨w, a2⟩, fun _ => a1⟩
/-- what lies at far or beyond says the same -/
theorem Mn.cut (h : Mn far D f v) (h1 : v < far → v' = v) (h2 : far ≤ v → far ≤ v') : Mn far D f v' := by
  rcases h with ⟨a1, a2⟩ | ⟨a1, a2⟩
  · exact Or.inl ⟨h2 a1, a2⟩
  · rw [h1 a1]; exact Or.inr ⟨a1, a2⟩
theorem Mn.uniq (h1 : Mn far D f v) (h2 : Mn far D f v') : v = v' ∨ (far ≤ v ∧ far ≤ v') := by
  rcases h1 with ⟨a1, a2⟩ | ⟨a1, ⟨w, a2, a3⟩, a4⟩
  · rcases h2 with ⟨b1, b2⟩ | ⟨b1, ⟨u, b2, b3⟩, b4⟩
    · exact Or.inr ⟨a1, b1⟩
    · exact absurd b2 (a2 u)
  · rcases h2 with ⟨b1, b2⟩ | ⟨b1, ⟨u, b2, b3⟩, b4⟩
    · exact absurd a2 (b2 w)
    · have := a4 u b2; have := b4 w a2; left; omega
end
/-- one ahead, at its price -/
theorem Mn.one {far : Int} {D : List Int → Prop} {f : Int → Int → Int} {p a c v : Int} (hc : f p a = c) (h : Mn far D (ct f (p + 1)) v) (h0 : 0 ≤ c) (hb : ∀ us, D us → c + ct f (p + 1) us < far) : Mn far (fun vs => ∃ us, vs = a :: us ∧ D us) (ct f p) (c + v) := by
  subst hc
  rcases h with ⟨a1, a2⟩ | ⟨a1, ⟨w, a2, a3⟩, a4⟩
  · exact Or.inl ⟨by omega, fun vs ⟨us, _, h⟩ => a2 us h⟩
  · refine Or.inr ⟨by have := hb w a2; omega, ⟨a :: w, ⟨w, rfl, a2⟩, by show f p a + ct f (p + 1) w = _; omega⟩, fun us ⟨u, h1, h2⟩ => ?_⟩
    subst h1
    have := a4 u h2
    show _ ≤ f p a + ct f (p + 1) u
    omega
theorem ct_b {f : Int → Int → Int} {M : Int} : ∀ (vs : List Int) (p : Int), (∀ (j : Nat) (v : Int), vs[j]? = some v → 0 ≤ f (p + j) v ∧ f (p + j) v ≤ M) → 0 ≤ ct f p vs ∧ ct f p vs ≤ M * vs.length := by
  intro vs
  induction vs with
  | nil => intro p _; show (0 : Int) ≤ 0 ∧ (0 : Int) ≤ M * ((0 : Nat) : Int); omega
  | cons v vs ih =>
    intro p h
    have h0 := h 0 v rfl
    have h1 := ih (p + 1) (fun j u hu => by have := h (j + 1) u hu; rw [show p + 1 + (j : Int) = p + ((j + 1 : Nat) : Int) by omega]; exact this)
    rw [show p + ((0 : Nat) : Int) = p by omega] at h0
    show 0 ≤ f p v + ct f (p + 1) vs ∧ f p v + ct f (p + 1) vs ≤ M * ((vs.length + 1 : Nat) : Int)
    rw [show ((vs.length + 1 : Nat) : Int) = vs.length + 1 by omega, Int.mul_add, Int.mul_one]
    omega
