/-! STEPS THAT FOLLOW EACH OTHER tell the language: parts of them, from a to b -/
theorem gk_cg {U V : Au} {a b : Int} (hc : ∀ s o, a ≤ s → s ≤ b → U.1 s o → a ≤ o ∧ o ≤ b) (h1 : ∀ s o, a ≤ s → s ≤ b → (V.1 s o ↔ U.1 s o)) (h2 : ∀ s, a ≤ s → s ≤ b → (V.2.1 s ↔ U.2.1 s)) (h3 : ∀ s, a ≤ s → s ≤ b → V.2.2 s = U.2.2 s) : ∀ (w : List Int) (s : Int), a ≤ s → s ≤ b → (gk V w s ↔ gk U w s) := by
  intro w
  induction w with
  | nil => intro s q1 q2; exact h2 s q1 q2
  | cons x w ih =>
    intro s q1 q2
    constructor
    · rintro ⟨o, e1, e2, e3⟩
      have e1' := (h1 s o q1 q2).mp e1
      obtain ⟨c1, c2⟩ := hc s o q1 q2 e1'
      exact ⟨o, e1', by rw [← h3 o c1 c2]; exact e2, (ih o c1 c2).mp e3⟩
    · rintro ⟨o, e1, e2, e3⟩
      obtain ⟨c1, c2⟩ := hc s o q1 q2 e1
      exact ⟨o, (h1 s o q1 q2).mpr e1, by rw [h3 o c1 c2]; exact e2, (ih o c1 c2).mpr e3⟩
def Frag (U : Au) (fs : Int → Prop) (a b : Int) (A : Lg) : Prop := (1 ≤ a ∧ a ≤ b) ∧ (∀ s o, a ≤ s → s ≤ b → U.1 s o → a ≤ o ∧ o ≤ b) ∧ (∀ w, A w ↔ ∃ o, a ≤ o ∧ o ≤ b ∧ fs o ∧ ∃ u, w = U.2.2 o :: u ∧ gk U u o) ∧ (∀ s, a ≤ s → s ≤ b → ∃ w, gk U w s) ∧ ∃ w, A w
theorem Frag.cg {U V : Au} {fs gs : Int → Prop} {a b : Int} {A : Lg} (h : Frag U fs a b A) (h1 : ∀ s o, a ≤ s → s ≤ b → (V.1 s o ↔ U.1 s o)) (h2 : ∀ s, a ≤ s → s ≤ b → (V.2.1 s ↔ U.2.1 s)) (h3 : ∀ s, a ≤ s → s ≤ b → V.2.2 s = U.2.2 s) (h4 : ∀ s, a ≤ s → s ≤ b → (gs s ↔ fs s)) : Frag V gs a b A := by
  obtain ⟨a1, a2, a3, a4, a5⟩ := h
  have k := gk_cg a2 h1 h2 h3
  refine ⟨a1, fun s o q1 q2 q3 => a2 s o q1 q2 ((h1 s o q1 q2).mp q3), fun w => ?_, fun s q1 q2 => ?_, a5⟩
  · rw [a3 w]
    constructor
    · rintro ⟨o, q1, q2, q3, u, q4, q5⟩
      exact ⟨o, q1, q2, (h4 o q1 q2).mpr q3, u, by rw [h3 o q1 q2]; exact q4, (k u o q1 q2).mpr q5⟩
    · rintro ⟨o, q1, q2, q3, u, q4, q5⟩
      exact ⟨o, q1, q2, (h4 o q1 q2).mp q3, u, by rw [← h3 o q1 q2]; exact q4, (k u o q1 q2).mp q5⟩
  · obtain ⟨w, hw⟩ := a4 s q1 q2
    exact ⟨w, (k w s q1 q2).mpr hw⟩
theorem Frag.one {U : Au} {fs : Int → Prop} {a x : Int} (h0 : 1 ≤ a) (h1 : ∀ o, ¬ U.1 a o) (h2 : U.2.1 a) (h3 : U.2.2 a = x) (h4 : fs a) : Frag U fs a a (l1 x) := by
  refine ⟨⟨h0, Int.le_refl _⟩, fun s o q1 q2 q3 => ?_, fun w => ?_, fun s q1 q2 => ⟨[], ?_⟩, [x], rfl⟩
  · have : s = a := by omega
    subst this
    exact absurd q3 (h1 o)
  · constructor
    · intro h
      have : w = [x] := h
      exact ⟨a, Int.le_refl _, Int.le_refl _, h4, [], by rw [this, h3], h2⟩
    · rintro ⟨o, q1, q2, -, u, q4, q5⟩
      have : o = a := by omega
      subst this
      cases u with
      | nil => show w = [x]; rw [q4, h3]
      | cons y u => obtain ⟨m, e1, -⟩ := q5; exact absurd e1 (h1 m)
  · have : s = a := by omega
    subst this
    exact h2
theorem Frag.or {U : Au} {fs : Int → Prop} {a t b : Int} {A B : Lg} (hA : Frag U fs a (t - 1) A) (hB : Frag U fs t b B) : Frag U fs a b (lor A B) := by
  obtain ⟨a1, a2, a3, a4, a5⟩ := hA
  obtain ⟨b1, b2, b3, b4, b5⟩ := hB
  refine ⟨by omega, fun s o q1 q2 q3 => ?_, fun w => ?_, fun s q1 q2 => ?_, ?_⟩
  · by_cases q : s < t
    · have := a2 s o q1 (by omega) q3; omega
    · have := b2 s o (by omega) q2 q3; omega
  · constructor
    · rintro (h | h)
      · obtain ⟨o, q1, q2, q3⟩ := (a3 w).mp h
        exact ⟨o, q1, by omega, q3⟩
      · obtain ⟨o, q1, q2, q3⟩ := (b3 w).mp h
        exact ⟨o, by omega, q2, q3⟩
    · rintro ⟨o, q1, q2, q3⟩
      by_cases q : o < t
      · exact Or.inl ((a3 w).mpr ⟨o, q1, by omega, q3⟩)
      · exact Or.inr ((b3 w).mpr ⟨o, by omega, q2, q3⟩)
  · by_cases q : s < t
    · exact a4 s q1 (by omega)
    · exact b4 s (by omega) q2
  · obtain ⟨w, hw⟩ := a5
    exact ⟨w, Or.inl hw⟩
theorem Frag.cat {U V : Au} {fs gs : Int → Prop} {a t b : Int} {A B : Lg} (hA : Frag U fs a (t - 1) A) (hB : Frag U fs t b B) (h1 : ∀ s o, a ≤ s → s < t → (V.1 s o ↔ U.1 s o ∨ (U.2.1 s ∧ t ≤ o ∧ o ≤ b ∧ fs o))) (h2 : ∀ s, a ≤ s → s < t → ¬ V.2.1 s) (h3 : ∀ s o, t ≤ s → s ≤ b → (V.1 s o ↔ U.1 s o)) (h4 : ∀ s, t ≤ s → s ≤ b → (V.2.1 s ↔ U.2.1 s)) (h5 : ∀ s, a ≤ s → s ≤ b → V.2.2 s = U.2.2 s) (h6 : ∀ s, a ≤ s → s < t → (gs s ↔ fs s)) (h7 : ∀ s, t ≤ s → s ≤ b → ¬ gs s) : Frag V gs a b (lcat A B) := by
  obtain ⟨a1, a2, a3, a4, a5⟩ := hA
  obtain ⟨b1, b2, b3, b4, b5⟩ := hB
  have kB := gk_cg b2 h3 h4 (fun s q1 q2 => h5 s (by omega) q2)
  have kA : ∀ (w : List Int) (s : Int), a ≤ s → s < t → (gk V w s ↔ ∃ u v, w = u ++ v ∧ gk U u s ∧ B v) := by
    intro w
    induction w with
    | nil =>
      intro s q1 q2
      constructor
      · intro h; exact absurd h (h2 s q1 q2)
      · rintro ⟨u, v, e1, e2, e3⟩
        obtain ⟨rfl, rfl⟩ := List.nil_eq_append_iff.mp e1
        obtain ⟨o, -, -, -, u, e4, -⟩ := (b3 []).mp e3
        cases e4
    | cons x w ih =>
      intro s q1 q2
      constructor
      · rintro ⟨o, e1, e2, e3⟩
        rcases (h1 s o q1 q2).mp e1 with e | ⟨l1, l2, l3, l4⟩
        · obtain ⟨c1, c2⟩ := a2 s o q1 (by omega) e
          obtain ⟨u, v, r1, r2, r3⟩ := (ih o c1 (by omega)).mp e3
          exact ⟨x :: u, v, by rw [r1]; rfl, ⟨o, e, by rw [← h5 o c1 (by omega)]; exact e2, r2⟩, r3⟩
        · exact ⟨[], x :: w, rfl, l1, (b3 _).mpr ⟨o, l2, l3, l4, w, by rw [← h5 o (by omega) l3, e2], (kB w o l2 l3).mp e3⟩⟩
      · rintro ⟨u, v, e1, e2, e3⟩
        cases u with
        | nil =>
          have e1' : x :: w = v := e1
          rw [← e1'] at e3
          obtain ⟨o, l2, l3, l4, u, e4, e5⟩ := (b3 _).mp e3
          injection e4 with e6 e7
          subst e7
          exact ⟨o, (h1 s o q1 q2).mpr (Or.inr ⟨e2, l2, l3, l4⟩), by rw [h5 o (by omega) l3, e6], (kB w o l2 l3).mpr e5⟩
        | cons y u =>
          have e1' : x :: w = y :: (u ++ v) := e1
          injection e1' with e6 e7
          obtain ⟨o, f1, f2, f3⟩ := e2
          obtain ⟨c1, c2⟩ := a2 s o q1 (by omega) f1
          exact ⟨o, (h1 s o q1 q2).mpr (Or.inl f1), by rw [h5 o c1 (by omega), f2, e6], (ih o c1 (by omega)).mpr ⟨u, v, e7, f3, e3⟩⟩
  refine ⟨by omega, fun s o q1 q2 q3 => ?_, fun w => ?_, fun s q1 q2 => ?_, ?_⟩
  · by_cases q : s < t
    · rcases (h1 s o q1 q).mp q3 with e | e
      · have := a2 s o q1 (by omega) e; omega
      · omega
    · have := b2 s o (by omega) q2 ((h3 s o (by omega) q2).mp q3); omega
  · constructor
    · rintro ⟨u, v, rfl, hu, hv⟩
      obtain ⟨o, q1, q2, q3, r, q4, q5⟩ := (a3 u).mp hu
      refine ⟨o, q1, by omega, (h6 o q1 (by omega)).mpr q3, r ++ v, by rw [q4, h5 o q1 (by omega)]; rfl, ?_⟩
      exact (kA _ o q1 (by omega)).mpr ⟨r, v, rfl, q5, hv⟩
    · rintro ⟨o, q1, q2, q3, r, q4, q5⟩
      by_cases q : o < t
      · obtain ⟨u, v, e1, e2, e3⟩ := (kA r o q1 q).mp q5
        refine ⟨U.2.2 o :: u, v, by rw [q4, e1, h5 o q1 q2]; rfl, (a3 _).mpr ⟨o, q1, by omega, (h6 o q1 q).mp q3, u, rfl, e2⟩, e3⟩
      · exact absurd q3 (h7 o (by omega) q2)
  · by_cases q : s < t
    · obtain ⟨u, hu⟩ := a4 s q1 (by omega)
      obtain ⟨v, hv⟩ := b5
      exact ⟨u ++ v, (kA _ s q1 q).mpr ⟨u, v, rfl, hu, hv⟩⟩
    · obtain ⟨w, hw⟩ := b4 s (by omega) q2
      exact ⟨w, (kB w s (by omega) q2).mpr hw⟩
  · obtain ⟨u, hu⟩ := a5
    obtain ⟨v, hv⟩ := b5
    exact ⟨u ++ v, u, v, rfl, hu, hv⟩
/-- all of them: from ahead of the first -/
theorem Frag.all {U V : Au} {fs : Int → Prop} {n : Int} {A : Lg} (h : Frag U fs 1 n A) (h0 : ∀ o, (V.1 0 o ↔ 1 ≤ o ∧ o ≤ n ∧ fs o)) (h0' : ¬ V.2.1 0) (h1 : ∀ s o, 1 ≤ s → s ≤ n → (V.1 s o ↔ U.1 s o)) (h2 : ∀ s, 1 ≤ s → s ≤ n → (V.2.1 s ↔ U.2.1 s)) (h3 : ∀ s, 1 ≤ s → s ≤ n → V.2.2 s = U.2.2 s) : gL V 0 = A ∧ ∀ s, 0 ≤ s → s ≤ n → ∃ w, gk V w s := by
  obtain ⟨a1, a2, a3, a4, a5⟩ := h
  have k := gk_cg a2 h1 h2 h3
  have e : gL V 0 = A := by
    funext w
    apply propext
    rw [a3 w]
    cases w with
    | nil =>
      constructor
      · intro h; exact absurd h h0'
      · rintro ⟨o, -, -, -, u, e, -⟩; cases e
    | cons x w =>
      constructor
      · rintro ⟨o, e1, e2, e3⟩
        obtain ⟨q1, q2, q3⟩ := (h0 o).mp e1
        exact ⟨o, q1, q2, q3, w, by rw [← h3 o q1 q2, e2], (k w o q1 q2).mp e3⟩
      · rintro ⟨o, q1, q2, q3, u, e1, e2⟩
        injection e1 with e3 e4
        subst e4
        exact ⟨o, (h0 o).mpr ⟨q1, q2, q3⟩, by rw [h3 o q1 q2, e3], (k w o q1 q2).mpr e2⟩
  refine ⟨e, fun s q1 q2 => ?_⟩
  by_cases q : s = 0
  · subst q
    obtain ⟨w, hw⟩ := a5
    exact ⟨w, by rw [← e] at hw; exact hw⟩
  · obtain ⟨w, hw⟩ := a4 s (by omega) q2
    exact ⟨w, (k w s (by omega) q2).mpr hw⟩
/-! paths -/
def pth (U : Au) : List Int → Int → Int → Prop
  | [], s, o => s = o
  | x :: w, s, o => ∃ m, U.1 s m ∧ U.2.2 m = x ∧ pth U w m o
theorem pth_snoc {U : Au} {x : Int} : ∀ (u : List Int) (s o : Int), pth U (u ++ [x]) s o ↔ ∃ m, pth U u s m ∧ U.1 m o ∧ U.2.2 o = x := by
  intro u
  induction u with
  | nil =>
    intro s o
    constructor
    · rintro ⟨m, h1, h2, rfl⟩; exact ⟨s, rfl, h1, h2⟩
    · rintro ⟨m, rfl, h1, h2⟩; exact ⟨o, h1, h2, rfl⟩
  | cons y u ih =>
    intro s o
    constructor
    · rintro ⟨m, h1, h2, h3⟩
      obtain ⟨m', h4, h5, h6⟩ := (ih m o).mp h3
      exact ⟨m', ⟨m, h1, h2, h4⟩, h5, h6⟩
    · rintro ⟨m', ⟨m, h1, h2, h4⟩, h5, h6⟩
      exact ⟨m, h1, h2, (ih m o).mpr ⟨m', h4, h5, h6⟩⟩
theorem gk_app {U : Au} {t : List Int} : ∀ (u : List Int) (s : Int), gk U (u ++ t) s ↔ ∃ o, pth U u s o ∧ gk U t o := by
  intro u
  induction u with
  | nil =>
    intro s
    constructor
    · intro h; exact ⟨s, rfl, h⟩
    · rintro ⟨o, rfl, h⟩; exact h
  | cons y u ih =>
    intro s
    constructor
    · rintro ⟨m, h1, h2, h3⟩
      obtain ⟨o, h4, h5⟩ := (ih m).mp h3
      exact ⟨o, ⟨m, h1, h2, h4⟩, h5⟩
    · rintro ⟨o, ⟨m, h1, h2, h4⟩, h5⟩
      exact ⟨m, h1, h2, (ih m).mpr ⟨o, h4, h5⟩⟩
