/-! the class's price of a reading: its cost, and behind it the reading's number -/
theorem ct_C {cls : List Cl} {g : Int → Int} (hg : g 0 ≤ 20) : ∀ (vs : List Int) (p : Int), 0 ≤ p → p + vs.length = g 0 → (∀ (j : Nat) (v : Int), vs[j]? = some v → CanR cls g (p + j) v) → ct (fC 0 cls g) p vs = ct (fH 0 cls g) p vs * 1099511627776 + cd vs * 4 ^ (20 - g 0).toNat := by
  intro vs
  induction vs with
  | nil =>
    intro p _ _ _
    show (0 : Int) = 0 * _ + 0 * _
    rw [Int.zero_mul, Int.zero_mul]; rfl
  | cons v vs ih =>
    intro p hp hl hc
    have hl' : p + 1 + (vs.length : Int) = g 0 := by rw [List.length_cons] at hl; omega
    have h1 := ih (p + 1) (by omega) hl' (fun j u hj => by
      have := hc (j + 1) u (by rw [List.getElem?_cons_succ]; exact hj)
      rw [show p + ((j + 1 : Nat) : Int) = p + 1 + j by omega] at this
      exact this)
    have h2 : CanR cls g p v := by
      have := hc 0 v rfl
      rw [show p + ((0 : Nat) : Int) = p by omega] at this
      exact this
    have e1 : fC 0 cls g p v = CstR cls g p v * 1099511627776 + v * 4 ^ (19 - p).toNat := by
      unfold fC cpr; rw [if_pos rfl]
    have e2 : fH 0 cls g p v = CstR cls g p v := by
      unfold fH; rw [if_pos h2, if_pos rfl]
    have e3 : (4 : Int) ^ (19 - p).toNat = 4 ^ vs.length * 4 ^ (20 - g 0).toNat := by
      rw [← Int.pow_add]; congr 1; omega
    show fC 0 cls g p v + ct (fC 0 cls g) (p + 1) vs = (fH 0 cls g p v + ct (fH 0 cls g) (p + 1) vs) * 1099511627776 + (v * 4 ^ vs.length + cd vs) * 4 ^ (20 - g 0).toNat
    rw [h1, e1, e2, e3, Int.add_mul, Int.add_mul, Int.mul_assoc]
    omega
theorem Rd_facts {how : Int} (hh : how ≠ 2) {cls : List Cl} {g : Int → Int} {A : Lg} {p : Int} {vs : List Int} (h : Rd (LnH how cls g) A p vs) : p + vs.length = g 0 ∧ (∀ (j : Nat) (v : Int), vs[j]? = some v → CanR cls g (p + j) v) ∧ ∀ v ∈ vs, 0 ≤ v ∧ v ≤ 2 := by
  obtain ⟨w, -, h2⟩ := h
  obtain ⟨a1, a2⟩ := tk_len w p vs h2
  refine ⟨by show p + (vs.length : Int) = g 0; have : (vs.length : Int) = g 0 - p := a1; omega, fun j v hj => ?_, fun v hv => ?_⟩
  · rcases (a2 j v hj).1.2.2 with z | z
    · exact z
    · exact absurd z.1 hh
  · obtain ⟨j, hj⟩ := List.mem_iff_getElem?.mp hv
    exact (a2 j v hj).2
theorem cd_4 {g0 : Int} (hg : 0 ≤ g0 ∧ g0 ≤ 20) {vs : List Int} (hl : (vs.length : Int) = g0) (hv : ∀ v ∈ vs, 0 ≤ v ∧ v ≤ 2) : 0 ≤ cd vs * 4 ^ (20 - g0).toNat ∧ cd vs * 4 ^ (20 - g0).toNat < 1099511627776 := by
  obtain ⟨c1, c2⟩ := cd_b vs hv
  have hp := p4 (20 - g0).toNat
  refine ⟨Int.mul_nonneg c1 (by omega), ?_⟩
  have := Int.mul_lt_mul_of_pos_right c2 hp
  rw [← Int.pow_add, show vs.length + (20 - g0).toNat = 20 by omega] at this
  exact this
/-- the class's least reading: of the least cost, and of those the first -/
theorem best_C {cls : List Cl} {g : Int → Int} (hg : 0 ≤ g 0 ∧ g 0 ≤ 20) {A : Lg} {v l far : Int} (h1 : Mn 1152921504606846976 (Rd (LnH 0 cls g) A 0) (ct (fC 0 cls g) 0) v) (h2 : Mn far (Rd (LnH 0 cls g) A 0) (ct (fH 0 cls g) 0) l) (hv : v < 1152921504606846976) : l < far ∧ v / 1099511627776 = l ∧ ∃ vs, Rd (LnH 0 cls g) A 0 vs ∧ ct (fH 0 cls g) 0 vs = l ∧ v = l * 1099511627776 + cd vs * 4 ^ (20 - g 0).toNat ∧ ∀ us, Rd (LnH 0 cls g) A 0 us → ct (fH 0 cls g) 0 us = l → cd vs ≤ cd us := by
  have hl := h2.lt.mpr (h1.lt.mp hv)
  have key : ∀ us, Rd (LnH 0 cls g) A 0 us → ct (fC 0 cls g) 0 us = ct (fH 0 cls g) 0 us * 1099511627776 + cd us * 4 ^ (20 - g 0).toNat ∧ 0 ≤ cd us * 4 ^ (20 - g 0).toNat ∧ cd us * 4 ^ (20 - g 0).toNat < 1099511627776 := fun us hu => by
    obtain ⟨b1, b2, b3⟩ := Rd_facts (by omega) hu
    exact ⟨ct_C hg.2 us 0 (by omega) b1 b2, cd_4 hg (by omega) b3⟩
  rcases h1 with ⟨a1, -⟩ | ⟨-, ⟨vs, a2, a3⟩, a4⟩
  · omega
  rcases h2 with ⟨b1, -⟩ | ⟨-, ⟨us, b2, b3⟩, b4⟩
  · omega
  obtain ⟨k1, k2, k3⟩ := key vs a2
  obtain ⟨m1, m2, m3⟩ := key us b2
  have q1 := a4 us b2
  have q2 := b4 vs a2
  have e : ct (fH 0 cls g) 0 vs = l := by omega
  refine ⟨hl, by omega, vs, a2, e, by omega, fun u hu hc => ?_⟩
  obtain ⟨n1, n2, n3⟩ := key u hu
  have q3 := a4 u hu
  have hp := p4 (20 - g 0).toNat
  have : cd vs * 4 ^ (20 - g 0).toNat ≤ cd u * 4 ^ (20 - g 0).toNat := by omega
  exact Int.le_of_mul_le_mul_right this hp
/-! a state with another law chosen -/
def up4 (g : Int → Int) (c i : Int) : Int := if i = 4 then c else g i
section
variable {g : Int → Int} {c : Int}
theorem up4_n {i : Int} (h : i ≠ 4) : up4 g c i = g i := if_neg h
theorem lww_4 {p v : Int} (hp : 0 ≤ p) : lww (up4 g c) p v = lww g p v := by
  funext i
  unfold lww
  rw [up4_n (by omega), up4_n (by omega), up4_n (by omega), up4_n (by omega), up4_n (by omega), up4_n (by omega)]
theorem jud_4 {cls : List Cl} {p v : Int} (hp : 0 ≤ p) : jud cls (up4 g c) p v = jud cls g p v := by
  unfold jud
  have e1 : b01 (abl (up4 g c) p v) = b01 (abl g p v) := by
    unfold abl ntr
    rw [up4_n (by omega), up4_n (by omega), up4_n (by omega)]
  have e2 : b01 (ntr (up4 g c) p v) = b01 (ntr g p v) := by
    unfold ntr
    rw [up4_n (by omega)]
  rw [lww_4 hp, e1, e2]
theorem GB.up4 (h : GB g) : GB (up4 g c) := by
  unfold GB
  rw [up4_n (by omega), up4_n (by omega), up4_n (by omega)]
  exact ⟨h.1, h.2.1, h.2.2.1, fun p q1 q2 => by rw [up4_n (by omega), up4_n (by omega), up4_n (by omega)]; exact h.2.2.2 p q1 q2⟩
theorem LnH_4 {how : Int} {cls : List Cl} : LnH how cls (up4 g c) = LnH how cls g := by
  have e1 : cutB (up4 g c) = cutB g := by
    funext s
    apply propext
    unfold cutB
    rw [up4_n (by omega)]
    constructor
    · rintro (w | ⟨w1, w2, w3⟩)
      · exact Or.inl w
      · rw [up4_n (by omega)] at w3; exact Or.inr ⟨w1, w2, w3⟩
    · rintro (w | ⟨w1, w2, w3⟩)
      · exact Or.inl w
      · exact Or.inr ⟨w1, w2, by rw [up4_n (by omega)]; exact w3⟩
  have e2 : (fun p v : Int => (0 ≤ p ∧ p < up4 g c 0) ∧ (0 ≤ v ∧ v ≤ 2) ∧ (CanR cls (up4 g c) p v ∨ (how = 2 ∧ v < 2))) = fun p v : Int => (0 ≤ p ∧ p < g 0) ∧ (0 ≤ v ∧ v ≤ 2) ∧ (CanR cls g p v ∨ (how = 2 ∧ v < 2)) := by
    funext p v
    apply propext
    rw [up4_n (by omega)]
    constructor
    · rintro ⟨w1, w2, w3⟩
      refine ⟨w1, w2, ?_⟩
      unfold CanR at w3 ⊢
      rw [jud_4 w1.1] at w3; exact w3
    · rintro ⟨w1, w2, w3⟩
      refine ⟨w1, w2, ?_⟩
      unfold CanR at w3 ⊢
      rw [jud_4 w1.1]; exact w3
  show (up4 g c 0, cutB (up4 g c), fun p v : Int => (0 ≤ p ∧ p < up4 g c 0) ∧ (0 ≤ v ∧ v ≤ 2) ∧ (CanR cls (up4 g c) p v ∨ (how = 2 ∧ v < 2))) = (g 0, cutB g, fun p v : Int => (0 ≤ p ∧ p < g 0) ∧ (0 ≤ v ∧ v ≤ 2) ∧ (CanR cls g p v ∨ (how = 2 ∧ v < 2)))
  rw [e1, e2, up4_n (by omega)]
theorem ct_4 {how : Int} {cls : List Cl} : ∀ (vs : List Int) (p : Int), 0 ≤ p → ct (fH how cls (up4 g c)) p vs = ct (fH how cls g) p vs := by
  intro vs
  induction vs with
  | nil => intro p _; rfl
  | cons v vs ih =>
    intro p hp
    have e : fH how cls (up4 g c) p v = fH how cls g p v := by
      unfold fH CanR CstR
      rw [jud_4 hp]
    show fH how cls (up4 g c) p v + _ = fH how cls g p v + _
    rw [e, ih (p + 1) (by omega)]
theorem MtR.up4 {b : Int} {x : T3} (hb : 5 ≤ b) (h : MtR g b x) : MtR (up4 g c) b x := by
  obtain ⟨h1, h2, h3, h4⟩ := h
  refine ⟨h1, h2, by rw [up4_n (by omega)]; exact h3, fun j y hj => by rw [up4_n (by omega)]; exact h4 j y hj⟩
theorem LawR.up4 {k : Int} {cls : List Cl} (h : LawR g k cls) : LawR (up4 g c) k cls := by
  obtain ⟨h1, h2⟩ := h
  refine ⟨h1, ?_⟩
  rcases h2 with h2 | ⟨h2, kk, h3, h4, h5, h6⟩
  · exact Or.inl h2
  · refine Or.inr ⟨h2, kk, h3, by rw [up4_n (by omega)]; exact h4, h5, fun j cl hj => ?_⟩
    refine (h6 j cl hj).cg' (fun i q1 q2 => ?_) (fun i q1 q2 => ?_)
    · rw [up4_n (by omega), up4_n (by omega)]
    · rw [up4_n (by omega)]
end
