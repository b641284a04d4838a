/-! READING AS BEST AS CAN BE: step by step, with all places where one may be -/
section
variable {E : Ln} {f : Int → Int → Int} {M far : Int} {U : Au} {n : Int} {lf : Int → Int → Int}
/-- what is left: of all places, as it lies there -/
def LfP (E : Ln) (f : Int → Int → Int) (far : Int) (U : Au) (n : Int) (lf : Int → Int → Int) : Prop := ∀ s t : Int, 0 ≤ s → s ≤ E.1 → 0 ≤ t → t ≤ n → Mn far (Rd E (gL U t) s) (ct f s) (lf s t)
/-- readings from a place on that are as good as told, from some of these steps -/
def Op (E : Ln) (f : Int → Int → Int) (U : Au) (P : Int → Prop) (s w : Int) (us : List Int) : Prop := ∃ k, P k ∧ Rd E (gL U k) s us ∧ ct f s us = w
/-- cuts passed: more steps, from which nothing more can be read -/
def Clz (E : Ln) (f : Int → Int → Int) (U : Au) (n : Int) (lf : Int → Int → Int) (P Q : Int → Prop) (s w : Int) : Prop := (∀ k, P k → Q k) ∧ (∀ k, Q k → (0 ≤ k ∧ k ≤ n) ∧ lf s k = w ∧ ∀ us, Rd E (gL U k) s us → ∃ j, P j ∧ Rd E (gL U j) s us) ∧ ∀ k o, Q k → U.1 k o → U.2.2 o = 3 → E.2.1 s → lf s o = w → Q o
/-- where one is behind a syllable read as v -/
def Thn (E : Ln) (f : Int → Int → Int) (U : Au) (n : Int) (lf : Int → Int → Int) (Q : Int → Prop) (s v w : Int) (o : Int) : Prop := (0 ≤ o ∧ o ≤ n) ∧ ((v = 2 ∧ Q o) ∨ (v ≠ 2 ∧ ∃ k, Q k ∧ U.1 k o ∧ gos (U.2.2 o) v)) ∧ E.2.2 s v ∧ f s v + lf (s + 1) o = w
/-- one of them is the best there -/
theorem LfP.get (h : LfP E f far U n lf) {s t : Int} (hs : 0 ≤ s ∧ s ≤ E.1) (ht : 0 ≤ t ∧ t ≤ n) (hw : lf s t < far) : ∃ us, Rd E (gL U t) s us ∧ ct f s us = lf s t := by
  rcases h s t hs.1 hs.2 ht.1 ht.2 with ⟨a, -⟩ | ⟨-, ⟨us, a, b⟩, -⟩
  · omega
  · exact ⟨us, a, b⟩
theorem LfP.le (h : LfP E f far U n lf) {s t : Int} (hs : 0 ≤ s ∧ s ≤ E.1) (ht : 0 ≤ t ∧ t ≤ n) {us : List Int} (hu : Rd E (gL U t) s us) : lf s t ≤ ct f s us ∧ lf s t < far := by
  rcases h s t hs.1 hs.2 ht.1 ht.2 with ⟨-, a⟩ | ⟨a, -, b⟩
  · exact absurd hu (a us)
  · exact ⟨b us hu, a⟩
theorem Clz.fwd (hU : ∀ k o, U.1 k o → 0 ≤ k ∧ k < o ∧ o ≤ n) (hL : LfP E f far U n lf) {P Q : Int → Prop} {s w v : Int} (hs : 0 ≤ s ∧ s < E.1) (hC : Clz E f U n lf P Q s w) {us : List Int} (hw : ct f s (v :: us) = w) : ∀ (c : Nat) (k : Int), n - k ≤ c → Q k → Rd E (gL U k) s (v :: us) → ∃ o, Thn E f U n lf Q s v w o ∧ Rd E (gL U o) (s + 1) us ∧ ct f (s + 1) us = w - f s v := by
  have hct : f s v + ct f (s + 1) us = w := hw
  intro c
  induction c with
  | zero =>
    intro k hc hk hR
    have hkb := (hC.2.1 k hk).1
    rcases Rd_gk.mp hR with ⟨-, -, z⟩ | ⟨o, h1, -⟩ | ⟨us', h1, h2, h3, h4⟩
    · cases z
    · have := hU k o h1; omega
    · cases h1
      have hle := hL.le (s := s + 1) (t := k) ⟨by omega, by omega⟩ hkb h4
      obtain ⟨us2, u1, u2⟩ := hL.get (s := s + 1) (t := k) ⟨by omega, by omega⟩ hkb hle.2
      have h5 : Rd E (gL U k) s (2 :: us2) := Rd_gk.mpr (Or.inr (Or.inr ⟨us2, rfl, h2, h3, u1⟩))
      have h6 := hL.le (s := s) (t := k) ⟨by omega, by omega⟩ hkb h5
      have h7 := (hC.2.1 k hk).2.1
      have h8 : ct f s (2 :: us2) = f s 2 + ct f (s + 1) us2 := rfl
      exact ⟨k, ⟨hkb, Or.inl ⟨rfl, hk⟩, h3, by omega⟩, h4, by omega⟩
  | succ c ih =>
    intro k hc hk hR
    have hkb := (hC.2.1 k hk).1
    have h7 := (hC.2.1 k hk).2.1
    rcases Rd_gk.mp hR with ⟨-, -, z⟩ | ⟨o, h1, h2⟩ | ⟨us', h1, h2, h3, h4⟩
    · cases z
    · have hob := hU k o h1
      rcases id h2 with ⟨x3, e1, e2⟩ | ⟨x3, v', us', e0, e1, e2, e3, e4⟩
      · have hle := hL.le (s := s) (t := o) ⟨by omega, by omega⟩ ⟨by omega, by omega⟩ e2
        obtain ⟨us2, u1, u2⟩ := hL.get (s := s) (t := o) ⟨by omega, by omega⟩ ⟨by omega, by omega⟩ hle.2
        have h5 : Rd E (gL U k) s us2 := Rd_gk.mpr (Or.inr (Or.inl ⟨o, h1, Or.inl ⟨x3, e1, u1⟩⟩))
        have h6 := hL.le (s := s) (t := k) ⟨by omega, by omega⟩ hkb h5
        exact ih o (by omega) (hC.2.2 k o hk h1 x3 e1 (by omega)) e2
      · cases e0
        have hle := hL.le (s := s + 1) (t := o) ⟨by omega, by omega⟩ ⟨by omega, by omega⟩ e4
        obtain ⟨us2, u1, u2⟩ := hL.get (s := s + 1) (t := o) ⟨by omega, by omega⟩ ⟨by omega, by omega⟩ hle.2
        have h5 : Rd E (gL U k) s (v :: us2) := Rd_gk.mpr (Or.inr (Or.inl ⟨o, h1, Or.inr ⟨x3, v, us2, rfl, e1, e2, e3, u1⟩⟩))
        have h6 := hL.le (s := s) (t := k) ⟨by omega, by omega⟩ hkb h5
        have h8 : ct f s (v :: us2) = f s v + ct f (s + 1) us2 := rfl
        have hv2 : v ≠ 2 := by unfold gos at e3; omega
        exact ⟨o, ⟨⟨by omega, by omega⟩, Or.inr ⟨hv2, k, hk, h1, e3⟩, e2, by omega⟩, e4, by omega⟩
    · cases h1
      have hle := hL.le (s := s + 1) (t := k) ⟨by omega, by omega⟩ hkb h4
      obtain ⟨us2, u1, u2⟩ := hL.get (s := s + 1) (t := k) ⟨by omega, by omega⟩ hkb hle.2
      have h5 : Rd E (gL U k) s (2 :: us2) := Rd_gk.mpr (Or.inr (Or.inr ⟨us2, rfl, h2, h3, u1⟩))
      have h6 := hL.le (s := s) (t := k) ⟨by omega, by omega⟩ hkb h5
      have h8 : ct f s (2 :: us2) = f s 2 + ct f (s + 1) us2 := rfl
      exact ⟨k, ⟨hkb, Or.inl ⟨rfl, hk⟩, h3, by omega⟩, h4, by omega⟩
/-- one syllable on -/
theorem Clz.iff (hU : ∀ k o, U.1 k o → 0 ≤ k ∧ k < o ∧ o ≤ n) (hL : LfP E f far U n lf) {P Q : Int → Prop} {s w v : Int} (hs : 0 ≤ s ∧ s < E.1) (hC : Clz E f U n lf P Q s w) (us : List Int) : Op E f U P s w (v :: us) ↔ Op E f U (Thn E f U n lf Q s v w) (s + 1) (w - f s v) us := by
  constructor
  · rintro ⟨k, h1, h2, h3⟩
    have hk := hC.1 k h1
    have hkb := (hC.2.1 k hk).1
    exact Clz.fwd hU hL hs hC h3 (n - k).toNat k (by omega) hk h2
  · rintro ⟨o, ⟨h0, h1, h2, h3⟩, h4, h5⟩
    have h8 : ct f s (v :: us) = f s v + ct f (s + 1) us := rfl
    rcases h1 with ⟨rfl, hq⟩ | ⟨hv, k, hq, u1, u2⟩
    · have h6 : Rd E (gL U o) s (2 :: us) := Rd_gk.mpr (Or.inr (Or.inr ⟨us, rfl, hs.2, h2, h4⟩))
      obtain ⟨j, j1, j2⟩ := (hC.2.1 o hq).2.2 _ h6
      exact ⟨j, j1, j2, by omega⟩
    · have h6 : Rd E (gL U k) s (v :: us) := Rd_gk.mpr (Or.inr (Or.inl ⟨o, u1, Or.inr ⟨by unfold gos at u2; omega, v, us, rfl, hs.2, h2, u2, h4⟩⟩))
      obtain ⟨j, j1, j2⟩ := (hC.2.1 k hq).2.2 _ h6
      exact ⟨j, j1, j2, by omega⟩
/-- what holds ahead of each syllable: read so far, and where one may be -/
def Gd (E : Ln) (f : Int → Int → Int) (far : Int) (U : Au) (n : Int) (lf : Int → Int → Int) (l : Int) (P : Int → Prop) (s w : Int) (pre : List Int) : Prop := (pre.length : Int) = s ∧ (∃ k, P k) ∧ (∀ k, P k → (0 ≤ k ∧ k ≤ n) ∧ lf s k = w) ∧ w < far ∧ (∀ us, (Rd E (gL U 0) 0 (pre ++ us) ∧ ct f 0 (pre ++ us) = l) ↔ Op E f U P s w us) ∧ ∀ us, Rd E (gL U 0) 0 us → ct f 0 us = l → lxl pre us
theorem Gd.ini (hn : 0 ≤ n) {l : Int} (hl : lf 0 0 = l) (h : l < far) : Gd E f far U n lf l (fun k => k = 0) 0 l [] := by
  refine ⟨rfl, ⟨0, rfl⟩, fun k hk => ?_, h, fun us => ?_, fun us _ _ => trivial⟩
  · have : k = 0 := hk
    subst this; exact ⟨⟨by omega, hn⟩, hl⟩
  · constructor
    · rintro ⟨h1, h2⟩; exact ⟨0, rfl, h1, h2⟩
    · rintro ⟨k, hk, h1, h2⟩
      have : k = 0 := hk
      subst this; exact ⟨h1, h2⟩
/-- some way goes on -/
theorem Gd.ex (hU : ∀ k o, U.1 k o → 0 ≤ k ∧ k < o ∧ o ≤ n) (hL : LfP E f far U n lf) {l s w : Int} {P Q : Int → Prop} {pre : List Int} (hG : Gd E f far U n lf l P s w pre) (hs : 0 ≤ s ∧ s < E.1) (hC : Clz E f U n lf P Q s w) : ∃ v, (0 ≤ v ∧ v ≤ 2) ∧ ∃ o, Thn E f U n lf Q s v w o := by
  obtain ⟨g1, ⟨k, g2⟩, g3, g4, g5, g6⟩ := hG
  obtain ⟨kb, kw⟩ := g3 k g2
  obtain ⟨us, u1, u2⟩ := hL.get (s := s) (t := k) ⟨hs.1, by omega⟩ kb (by omega)
  obtain ⟨w0, w1, w2⟩ := u1
  have hl := tk_len w0 s us w2
  cases us with
  | nil =>
    have hl1 : ((0 : Nat) : Int) = E.1 - s := hl.1
    omega
  | cons v us =>
    have hv := (hl.2 0 v rfl).2
    obtain ⟨o, o1, -⟩ := (Clz.iff hU hL hs hC us).mp ⟨k, g2, ⟨w0, w1, w2⟩, by rw [u2, kw]⟩
    exact ⟨v, hv, o, o1⟩
/-- the first that does -/
theorem Gd.step (hU : ∀ k o, U.1 k o → 0 ≤ k ∧ k < o ∧ o ≤ n) (hL : LfP E f far U n lf) (hf : ∀ p v, E.2.2 p v → 0 ≤ f p v) {l s w v : Int} {P Q : Int → Prop} {pre : List Int} (hG : Gd E f far U n lf l P s w pre) (hs : 0 ≤ s ∧ s < E.1) (hC : Clz E f U n lf P Q s w) (hv : ∃ o, Thn E f U n lf Q s v w o) (hno : ∀ u, 0 ≤ u → u < v → ∀ o, ¬ Thn E f U n lf Q s u w o) : Gd E f far U n lf l (Thn E f U n lf Q s v w) (s + 1) (w - f s v) (pre ++ [v]) := by
  obtain ⟨g1, -, g3, g4, g5, g6⟩ := hG
  obtain ⟨o0, ho⟩ := hv
  have hfv := hf s v ho.2.2.1
  refine ⟨by rw [List.length_append]; show ((pre.length + 1 : Nat) : Int) = s + 1; omega, ⟨o0, ho⟩, fun k hk => ⟨hk.1, by have := hk.2.2.2; omega⟩, by omega, fun us => ?_, fun us h1 h2 => ?_⟩
  · rw [List.append_assoc, List.singleton_append, g5 (v :: us)]
    exact Clz.iff hU hL hs hC us
  · refine lxl_snoc pre us (g6 us h1 h2) (fun u' e => ?_)
    subst e
    obtain ⟨k, k1, k2, k3⟩ := (g5 u').mp ⟨h1, h2⟩
    obtain ⟨w0, w1, w2⟩ := id k2
    have hl := tk_len w0 s u' w2
    cases u' with
    | nil =>
      have hl1 : ((0 : Nat) : Int) = E.1 - s := hl.1
      omega
    | cons a r =>
      have ha := (hl.2 0 a rfl).2
      refine ⟨a, r, rfl, ?_⟩
      obtain ⟨o, o1, -⟩ := (Clz.iff hU hL hs hC r).mp ⟨k, k1, k2, k3⟩
      apply Classical.byContradiction
      intro q
      exact hno a ha.1 (by omega) o o1
/-- at the end of the line -/
theorem Gd.fin (hL : LfP E f far U n lf) {l w : Int} {P : Int → Prop} {pre : List Int} (hE : 0 ≤ E.1) (hG : Gd E f far U n lf l P E.1 w pre) : Rd E (gL U 0) 0 pre ∧ ct f 0 pre = l ∧ ∀ us, Rd E (gL U 0) 0 us → ct f 0 us = l → lxl pre us := by
  obtain ⟨g1, ⟨k, g2⟩, g3, g4, g5, g6⟩ := hG
  obtain ⟨kb, kw⟩ := g3 k g2
  obtain ⟨us, u1, u2⟩ := hL.get (s := E.1) (t := k) ⟨hE, Int.le_refl _⟩ kb (by omega)
  obtain ⟨w0, w1, w2⟩ := id u1
  have hl := (tk_len w0 E.1 us w2).1
  cases us with
  | cons a r => rw [List.length_cons] at hl; omega
  | nil =>
    have := (g5 []).mpr ⟨k, g2, u1, by rw [u2, kw]⟩
    rw [List.append_nil] at this
    exact ⟨this.1, this.2, g6⟩
end
