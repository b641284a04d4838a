/-! THE LEAST: by the nodes' kinds, and by steps that follow each other -/
/-- a way of reading ahead, at its price (far, if it can't be) -/
theorem Mn.pr {far : Int} {D : List Int → Prop} {f : Int → Int → Int} {p a c v : Int} {can : Prop} (hc : can → f p a = c) (hn : ¬ can → far ≤ c) (h0 : 0 ≤ c) (hv : 0 ≤ v) (h : can → Mn far D (ct f (p + 1)) v) (hb : can → ∀ us, D us → c + ct f (p + 1) us < far) : Mn far (fun vs => ∃ us, vs = a :: us ∧ can ∧ D us) (ct f p) (c + v) := by
  by_cases q : can
  · refine (Mn.one (hc q) (h q) h0 (hb q)).cg (fun vs => ?_)
    constructor
    · rintro ⟨us, h1, -, h2⟩; exact ⟨us, h1, h2⟩
    · rintro ⟨us, h1, h2⟩; exact ⟨us, h1, q, h2⟩
  · have := hn q
    exact Mn.no (by omega) (fun vs ⟨us, _, h, _⟩ => q h)
theorem stp1_0 {E : Ln} {D : Int → List Int → Prop} {p : Int} {vs : List Int} : stp1 E 0 D p vs ↔ ∃ us, vs = 1 :: us ∧ (p < E.1 ∧ E.2.2 p 1) ∧ D (p + 1) us := by
  constructor
  · rintro (⟨h, -⟩ | ⟨-, v, us, h1, h2, h3, h4, h5⟩)
    · omega
    · rcases h4 with ⟨-, rfl⟩ | ⟨h, -⟩ | ⟨h, -⟩
      · exact ⟨us, h1, ⟨h2, h3⟩, h5⟩
      · omega
      · omega
  · rintro ⟨us, h1, ⟨h2, h3⟩, h5⟩
    exact Or.inr ⟨by omega, 1, us, h1, h2, h3, Or.inl ⟨rfl, rfl⟩, h5⟩
theorem stp1_1 {E : Ln} {D : Int → List Int → Prop} {p : Int} {vs : List Int} : stp1 E 1 D p vs ↔ ∃ us, vs = 0 :: us ∧ (p < E.1 ∧ E.2.2 p 0) ∧ D (p + 1) us := by
  constructor
  · rintro (⟨h, -⟩ | ⟨-, v, us, h1, h2, h3, h4, h5⟩)
    · omega
    · rcases h4 with ⟨h, -⟩ | ⟨-, rfl⟩ | ⟨h, -⟩
      · omega
      · exact ⟨us, h1, ⟨h2, h3⟩, h5⟩
      · omega
  · rintro ⟨us, h1, ⟨h2, h3⟩, h5⟩
    exact Or.inr ⟨by omega, 0, us, h1, h2, h3, Or.inr (Or.inl ⟨rfl, rfl⟩), h5⟩
theorem stp1_2 {E : Ln} {D : Int → List Int → Prop} {p : Int} {vs : List Int} : stp1 E 2 D p vs ↔ (∃ us, vs = 1 :: us ∧ (p < E.1 ∧ E.2.2 p 1) ∧ D (p + 1) us) ∨ ∃ us, vs = 0 :: us ∧ (p < E.1 ∧ E.2.2 p 0) ∧ D (p + 1) us := by
  constructor
  · rintro (⟨h, -⟩ | ⟨-, v, us, h1, h2, h3, h4, h5⟩)
    · omega
    · rcases h4 with ⟨h, -⟩ | ⟨h, -⟩ | ⟨-, rfl | rfl⟩
      · omega
      · omega
      · exact Or.inr ⟨us, h1, ⟨h2, h3⟩, h5⟩
      · exact Or.inl ⟨us, h1, ⟨h2, h3⟩, h5⟩
  · rintro (⟨us, h1, ⟨h2, h3⟩, h5⟩ | ⟨us, h1, ⟨h2, h3⟩, h5⟩)
    · exact Or.inr ⟨by omega, 1, us, h1, h2, h3, Or.inr (Or.inr ⟨rfl, Or.inr rfl⟩), h5⟩
    · exact Or.inr ⟨by omega, 0, us, h1, h2, h3, Or.inr (Or.inr ⟨rfl, Or.inl rfl⟩), h5⟩
theorem stp1_3 {E : Ln} {D : Int → List Int → Prop} {p : Int} {vs : List Int} : stp1 E 3 D p vs ↔ E.2.1 p ∧ D p vs := by
  constructor
  · rintro (⟨-, h1, h2⟩ | ⟨h, -⟩)
    · exact ⟨h1, h2⟩
    · exact absurd rfl h
  · rintro ⟨h1, h2⟩; exact Or.inl ⟨rfl, h1, h2⟩
theorem eli_2 {E : Ln} {D : Int → List Int → Prop} {p : Int} {vs : List Int} : eli E D p vs ↔ ∃ us, vs = 2 :: us ∧ (p < E.1 ∧ E.2.2 p 2) ∧ D (p + 1) us := by
  constructor
  · rintro ⟨us, h1, h2, h3, h4⟩; exact ⟨us, h1, ⟨h2, h3⟩, h4⟩
  · rintro ⟨us, h1, ⟨h2, h3⟩, h4⟩; exact ⟨us, h1, h2, h3, h4⟩
/-- prices of ways that can be are in bounds; with 20 syllables all stay below far -/
def PrB (E : Ln) (f : Int → Int → Int) (M far : Int) : Prop := (0 ≤ E.1 ∧ E.1 ≤ 20) ∧ (∀ p v, E.2.2 p v → 0 ≤ f p v ∧ f p v ≤ M) ∧ 0 ≤ M ∧ M * 20 < far
theorem Rd_ct {E : Ln} {f : Int → Int → Int} {M far : Int} (hB : PrB E f M far) {A : Lg} {p : Int} {vs : List Int} (hp : 0 ≤ p) (h : Rd E A p vs) : 0 ≤ ct f p vs ∧ ct f p vs ≤ M * (E.1 - p) ∧ ct f p vs < far := by
  obtain ⟨w, -, h2⟩ := h
  obtain ⟨l1, l2⟩ := tk_len w p vs h2
  obtain ⟨b1, b2, b3, b4⟩ := hB
  have := ct_b (f := f) (M := M) vs p (fun j v hv => b2 _ _ (l2 j v hv).1)
  rw [l1] at this
  refine ⟨this.1, this.2, ?_⟩
  have : M * (E.1 - p) ≤ M * 20 := Int.mul_le_mul_of_nonneg_left (by omega) b3
  omega
section
variable {E : Ln} {f : Int → Int → Int} {M far : Int} {p : Int}
/-- price at a place: far, if it can't be -/
def Pri (E : Ln) (f : Int → Int → Int) (far : Int) (p v c : Int) : Prop := 0 ≤ c ∧ ((p < E.1 ∧ E.2.2 p v) → f p v = c) ∧ (¬ (p < E.1 ∧ E.2.2 p v) → far ≤ c)
theorem Mn.way (hB : PrB E f M far) {A : Lg} {a c v : Int} (hp : 0 ≤ p) (hc : Pri E f far p a c) (hv : 0 ≤ v) (h : p < E.1 → Mn far (Rd E A (p + 1)) (ct f (p + 1)) v) : Mn far (fun vs => ∃ us, vs = a :: us ∧ (p < E.1 ∧ E.2.2 p a) ∧ Rd E A (p + 1) us) (ct f p) (c + v) := by
  refine Mn.pr hc.2.1 hc.2.2 hc.1 hv (fun q => h q.1) (fun q us hu => ?_)
  obtain ⟨b1, b2, b3⟩ := Rd_ct hB (by omega) hu
  have e1 := hc.2.1 q
  have e2 := hB.2.1 p a q.2
  have e3 : M * (E.1 - (p + 1)) + M = M * (E.1 - p) := by rw [show E.1 - p = (E.1 - (p + 1)) + 1 by omega, Int.mul_add, Int.mul_one]
  have e4 : M * (E.1 - p) ≤ M * 20 := Int.mul_le_mul_of_nonneg_left (by have := hB.1; omega) hB.2.2.1
  have := hB.2.2.2
  omega
/-- nodes: the end, a step, a cut, a fork; c2 c1 c0 the prices, e what is left of this node at the next place, v of the next one -/
theorem Mn.end0 (hB : PrB E f M far) {c2 e : Int} (hp : 0 ≤ p ∧ p ≤ E.1) (h2 : Pri E f far p 2 c2) (he : 0 ≤ e) (h : p < E.1 → Mn far (Rd E lnil (p + 1)) (ct f (p + 1)) e) : Mn far (Rd E lnil p) (ct f p) (if p = E.1 then 0 else c2 + e) := by
  by_cases q : p = E.1
  · rw [if_pos q]
    refine Or.inr ⟨by have := hB.2.2; omega, ⟨[], Rd_nil.mpr (Or.inl ⟨q, rfl⟩), rfl⟩, fun us hu => (Rd_ct hB hp.1 hu).1⟩
  · rw [if_neg q]
    refine (Mn.way hB hp.1 h2 he h).cg (fun vs => ?_)
    rw [Rd_nil, eli_2]
    constructor
    · rintro (⟨w, -⟩ | w)
      · exact absurd w q
      · exact w
    · intro w; exact Or.inr w
theorem Mn.stp0 (hB : PrB E f M far) {A : Lg} {c2 c e v : Int} (hp : 0 ≤ p) (h2 : Pri E f far p 2 c2) (h1 : Pri E f far p 1 c) (he : 0 ≤ e) (hv : 0 ≤ v) (ha : p < E.1 → Mn far (Rd E (lcat (l1 0) A) (p + 1)) (ct f (p + 1)) e) (hb : p < E.1 → Mn far (Rd E A (p + 1)) (ct f (p + 1)) v) : Mn far (Rd E (lcat (l1 0) A) p) (ct f p) (min (c2 + e) (c + v)) :=
  ((Mn.way hB hp h2 he ha).or (Mn.way hB hp h1 hv hb)).cg (fun vs => by rw [Rd_cons, eli_2, stp1_0]; exact or_comm)
theorem Mn.stp1 (hB : PrB E f M far) {A : Lg} {c2 c e v : Int} (hp : 0 ≤ p) (h2 : Pri E f far p 2 c2) (h1 : Pri E f far p 0 c) (he : 0 ≤ e) (hv : 0 ≤ v) (ha : p < E.1 → Mn far (Rd E (lcat (l1 1) A) (p + 1)) (ct f (p + 1)) e) (hb : p < E.1 → Mn far (Rd E A (p + 1)) (ct f (p + 1)) v) : Mn far (Rd E (lcat (l1 1) A) p) (ct f p) (min (c2 + e) (c + v)) :=
  ((Mn.way hB hp h2 he ha).or (Mn.way hB hp h1 hv hb)).cg (fun vs => by rw [Rd_cons, eli_2, stp1_1]; exact or_comm)
theorem Mn.stp2 (hB : PrB E f M far) {A : Lg} {c2 c c' e v : Int} (hp : 0 ≤ p) (h2 : Pri E f far p 2 c2) (h1 : Pri E f far p 1 c) (h0 : Pri E f far p 0 c') (he : 0 ≤ e) (hv : 0 ≤ v) (ha : p < E.1 → Mn far (Rd E (lcat (l1 2) A) (p + 1)) (ct f (p + 1)) e) (hb : p < E.1 → Mn far (Rd E A (p + 1)) (ct f (p + 1)) v) : Mn far (Rd E (lcat (l1 2) A) p) (ct f p) (min (c2 + e) (min (c + v) (c' + v))) :=
  ((Mn.way hB hp h2 he ha).or ((Mn.way hB hp h1 hv hb).or (Mn.way hB hp h0 hv hb))).cg (fun vs => by rw [Rd_cons, eli_2, stp1_2]; exact or_comm)
theorem Mn.stp3 (hB : PrB E f M far) {A : Lg} {c2 e v : Int} (hp : 0 ≤ p) (h2 : Pri E f far p 2 c2) (he : 0 ≤ e) (ha : p < E.1 → Mn far (Rd E (lcat (l1 3) A) (p + 1)) (ct f (p + 1)) e) (hb : E.2.1 p → Mn far (Rd E A p) (ct f p) v) (hn : ¬ E.2.1 p → far ≤ v) : Mn far (Rd E (lcat (l1 3) A) p) (ct f p) (min (c2 + e) v) := by
  have h3 : Mn far (fun vs => E.2.1 p ∧ Rd E A p vs) (ct f p) v := by
    by_cases q : E.2.1 p
    · exact (hb q).cg (fun vs => ⟨fun w => w.2, fun w => ⟨q, w⟩⟩)
    · exact Mn.no (hn q) (fun vs w => q w.1)
  exact ((Mn.way hB hp h2 he ha).or h3).cg (fun vs => by rw [Rd_cons, eli_2, stp1_3]; exact or_comm)
theorem Mn.frk {A B : Lg} {u v : Int} (ha : Mn far (Rd E A p) (ct f p) u) (hb : Mn far (Rd E B p) (ct f p) v) : Mn far (Rd E (lor A B) p) (ct f p) (min u v) :=
  (ha.or hb).cg (fun vs => Rd_or)
end
/-! the first of the best -/
def lxl : List Int → List Int → Prop
  | [], _ => True
  | _ :: _, [] => False
  | a :: r, b :: u => a < b ∨ (a = b ∧ lxl r u)
theorem lxl_snoc {v : Int} : ∀ (pre us : List Int), lxl pre us → (∀ u', us = pre ++ u' → ∃ a r, u' = a :: r ∧ v ≤ a) → lxl (pre ++ [v]) us := by
  intro pre
  induction pre with
  | nil =>
    intro us _ h
    obtain ⟨a, r, rfl, h1⟩ := h us rfl
    by_cases q : v < a
    · exact Or.inl q
    · exact Or.inr ⟨by omega, trivial⟩
  | cons b pre ih =>
    intro us h1 h2
    cases us with
    | nil => exact h1
    | cons a us =>
      rcases h1 with h | ⟨rfl, h⟩
      · exact Or.inl h
      · exact Or.inr ⟨rfl, ih us h (fun u' e => h2 u' (by rw [e]; rfl))⟩
/-- a row of ways as a number: four to the power of what is behind -/
def cd : List Int → Int
  | [] => 0
  | v :: vs => v * 4 ^ vs.length + cd vs
theorem p4 (k : Nat) : (0 : Int) < 4 ^ k := Int.pow_pos (by decide)
theorem cd_b : ∀ (vs : List Int), (∀ v ∈ vs, 0 ≤ v ∧ v ≤ 2) → 0 ≤ cd vs ∧ cd vs < 4 ^ vs.length := by
  intro vs
  induction vs with
  | nil => intro _; exact ⟨Int.le_refl _, by show (0 : Int) < 4 ^ 0; decide⟩
  | cons v vs ih =>
    intro h
    have h1 := h v (List.mem_cons_self ..)
    have h2 := ih (fun u hu => h u (List.mem_cons_of_mem _ hu))
    have h3 := p4 vs.length
    show 0 ≤ v * 4 ^ vs.length + cd vs ∧ v * 4 ^ vs.length + cd vs < 4 ^ (vs.length + 1)
    rw [Int.pow_succ]
    generalize (4 : Int) ^ vs.length = P at *
    rcases (show v = 0 ∨ v = 1 ∨ v = 2 by omega) with rfl | rfl | rfl <;> omega
theorem lxl_cd : ∀ (r u : List Int), r.length = u.length → (∀ v ∈ r, 0 ≤ v ∧ v ≤ 2) → (∀ v ∈ u, 0 ≤ v ∧ v ≤ 2) → lxl r u → cd r ≤ cd u := by
  intro r
  induction r with
  | nil => intro u hl _ hu _; exact (cd_b u hu).1
  | cons a r ih =>
    intro u hl hr hu h
    cases u with
    | nil => cases hl
    | cons b u =>
      have hl' : r.length = u.length := Nat.succ.inj hl
      have hr' := fun v hv => hr v (List.mem_cons_of_mem _ hv)
      have hu' := fun v hv => hu v (List.mem_cons_of_mem _ hv)
      show a * 4 ^ r.length + cd r ≤ b * 4 ^ u.length + cd u
      rw [hl']
      rcases h with h | ⟨rfl, h⟩
      · have c1 := cd_b r hr'
        have c2 := cd_b u hu'
        rw [hl'] at c1
        have : (a + 1) * 4 ^ u.length ≤ b * 4 ^ u.length := Int.mul_le_mul_of_nonneg_right (by omega) (Int.le_of_lt (p4 _))
        rw [Int.add_mul, Int.one_mul] at this
        omega
      · have := ih u hl' hr' hu' h
        omega
theorem cd_inj : ∀ (r u : List Int), r.length = u.length → (∀ v ∈ r, 0 ≤ v ∧ v ≤ 2) → (∀ v ∈ u, 0 ≤ v ∧ v ≤ 2) → cd r = cd u → r = u := by
  intro r
  induction r with
  | nil => intro u hl _ _ _; cases u with
    | nil => rfl
    | cons b u => cases hl
  | cons a r ih =>
    intro u hl hr hu h
    cases u with
    | nil => cases hl
    | cons b u =>
      have hl' : r.length = u.length := Nat.succ.inj hl
      have hr' := fun v hv => hr v (List.mem_cons_of_mem _ hv)
      have hu' := fun v hv => hu v (List.mem_cons_of_mem _ hv)
      have c1 := cd_b r hr'
      have c2 := cd_b u hu'
      have h' : a * 4 ^ r.length + cd r = b * 4 ^ u.length + cd u := h
      rw [hl'] at h' c1
      have hp := p4 u.length
      have ha := hr a (List.mem_cons_self ..)
      have hb := hu b (List.mem_cons_self ..)
      have e : a = b := by
        generalize (4 : Int) ^ u.length = P at *
        rcases (show a = 0 ∨ a = 1 ∨ a = 2 by omega) with rfl | rfl | rfl <;> rcases (show b = 0 ∨ b = 1 ∨ b = 2 by omega) with rfl | rfl | rfl <;> omega
      subst e
      rw [ih u hl' hr' hu' (by omega)]
