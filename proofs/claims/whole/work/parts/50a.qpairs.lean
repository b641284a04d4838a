/-! QUESTIONS IN PAIRS: what both sides leave as it was -/
def FrQc (S S' : zS) : Prop := Dyn S S' ∧ (∀ a i, ¬ (58 ≤ a ∧ a ≤ 65) → gI S' a i = gI S a i) ∧ (∀ a i, ¬ (64 ≤ a ∧ a ≤ 67) → a ≠ 69 → gJ S' a i = gJ S a i) ∧ (∀ a i, a ≠ 58 → gQ S' a i = gQ S a i)
theorem FrQc.rf {S : zS} : FrQc S S := ⟨Dyn.rf, fun _ _ _ => rfl, fun _ _ _ _ => rfl, fun _ _ _ => rfl⟩
theorem FrQc.tr {A B C : zS} (h1 : FrQc A B) (h2 : FrQc B C) : FrQc A C := ⟨h1.1.tr h2.1, fun a i q => (h2.2.1 a i q).trans (h1.2.1 a i q), fun a i q r => (h2.2.2.1 a i q r).trans (h1.2.2.1 a i q r), fun a i q => (h2.2.2.2 a i q).trans (h1.2.2.2 a i q)⟩
theorem FrA.q {S S' : zS} (h : FrA S S') : FrQc S S' := ⟨h.1, fun a i q => h.2.1 a i (by omega), fun a i _ _ => h.2.2.1 a i, fun a i _ => h.2.2.2 a i⟩
theorem FrFw.q {S S' : zS} (h : FrFw S S') : FrQc S S' := ⟨h.1, fun a i q => h.2.1 a i (by omega) (by omega), fun a i _ _ => h.2.2.1 a i, fun a i _ => h.2.2.2 a i⟩
theorem FrLs.q {S S' : zS} (h : FrLs S S') : FrQc S S' := ⟨h.1, fun a i _ => h.2.1 a i, fun a i q _ => h.2.2.1 a i q, h.2.2.2⟩
/-- the class's rows of longs are in order -/
def FxC (S : zS) : Prop := Rows S ∧ ((gQ S 58 6 = some 66 ∧ gQ S 58 7 = some 67) ∨ (gQ S 58 6 = some 67 ∧ gQ S 58 7 = some 66))
theorem FxC.keep {S S' : zS} (h : FxC S) (hJ : ∀ a i, gJ S' a i = gJ S a i) (hQ : ∀ a i, gQ S' a i = gQ S a i) : FxC S' := by
  obtain ⟨h1, h2⟩ := h
  refine ⟨fun i q1 q2 => by rw [hJ, hJ]; exact h1 i q1 q2, by rw [hQ, hQ]; exact h2⟩
theorem Inv.fxc {P Q : zP} {S : zS} (h : Inv P Q S) : FxC S := ⟨h.2.2.2.2.2.2.2.2.2.2.2.2.2.2, h.2.2.2.2.2.2.2.1⟩
theorem Inv.qu {P Q : zP} (hG : Good P Q) {S S1 S2 : zS} (h : Inv P Q S) (hC : FrQc S S1) (hX : FxC S1) (hM : FrQm S1 S2) : Inv P Q S2 ∧ Dyn S S2 := by
  have hD := hC.1.tr hM.1
  have k : ∀ a i, ¬ (58 ≤ a ∧ a ≤ 65) → a ≠ 97 → ¬ (99 ≤ a ∧ a ≤ 109) → ¬ (a = 72 ∧ (i = 0 ∨ i = 34 ∨ i = 38 ∨ i = 40 ∨ i = 51)) → gI S2 a i = gI S a i := fun a i q1 q2 q3 q4 => (hM.2.1 a i q2 q3 q4).trans (hC.2.1 a i q1)
  have kQ : ∀ a i, a ≠ 58 → gQ S2 a i = gQ S a i := fun a i q => (hM.2.2.2 a i).trans (hC.2.2.2 a i q)
  obtain ⟨a1, a2, a3, a4, a5, a6, a7⟩ := h
  have w : ∀ a i, a ≤ 57 ∨ (71 ≤ a ∧ a ≤ 96 ∧ a ≠ 72) ∨ a = 98 ∨ 110 ≤ a → gI S2 a i = gI S a i := fun a i q => k a i (by omega) (by omega) (by omega) (by omega)
  have w72 : ∀ i, ¬ (i = 0 ∨ i = 34 ∨ i = 38 ∨ i = 40 ∨ i = 51) → gI S2 72 i = gI S 72 i := fun i q => k 72 i (by omega) (by omega) (by omega) (by omega)
  refine ⟨⟨a1.fr hG hD (fun i => w _ _ (by omega)) (fun i => w _ _ (by omega)) (fun i => w _ _ (by omega)) (fun i => w _ _ (by omega)) (fun i => w _ _ (by omega)) (fun i => kQ _ _ (by omega)) (fun i => kQ _ _ (by omega)) (fun i => w _ _ (by omega)), a2.fr (w _ _ (by omega)) (w72 _ (by omega)) (fun i => w _ _ (by omega)) (fun i => w _ _ (by omega)) (fun i => w _ _ (by omega)) (fun i => w _ _ (by omega)) (fun i => w _ _ (by omega)) (fun i _ _ => w _ _ (by omega)), a3.fr (w _ _ (by omega)) (w72 _ (by omega)) (fun i => w _ _ (by omega)) (fun i => w _ _ (by omega)), ?_, a5.fr (w72 _ (by omega)) (w _ _ (by omega)) (fun i => w _ _ (by omega)) (fun i => w _ _ (by omega)), a6.fr hG hD (fun i => w _ _ (by omega)) (fun a i q => kQ a i (by omega)) (fun i => w _ _ (by omega)), ?_⟩, hD⟩
  · unfold MsRel
    rw [w 4 17 (by omega), w 4 18 (by omega), w 4 19 (by omega), w 4 16 (by omega), w72 18 (by omega), w72 11 (by omega), w72 67 (by omega), w72 1 (by omega), w 71 0 (by omega), w 71 1 (by omega), w 71 2 (by omega), w 71 3 (by omega), w 71 4 (by omega), w 73 1 (by omega), w 73 2 (by omega), w 73 3 (by omega), w 73 5 (by omega), w 73 6 (by omega)]
    exact a4
  · obtain ⟨f1, f2, f3, f4, f5, f6, f7, f8⟩ := a7
    have kJ : ∀ a i, 70 < a → ¬ (90 ≤ a ∧ a ≤ 92) → a ≠ 72 → gJ S2 a i = gJ S a i := fun a i q1 q2 q3 => (hM.2.2.1 a i (by omega) (by omega)).trans (hC.2.2.1 a i (by omega) (by omega))
    refine ⟨by rw [hD.2.1]; exact f1, by rw [hM.2.2.2, hM.2.2.2]; exact hX.2, by rw [w72 20 (by omega)]; exact f3, ?_, ?_, ?_, ?_, ?_, fun i q1 q2 => ?_⟩
    · simp only [kJ 87 _ (by omega) (by omega) (by omega)]; exact f4
    · simp only [kJ 88 _ (by omega) (by omega) (by omega)]; exact f5
    · simp only [kJ 89 _ (by omega) (by omega) (by omega)]; exact f6
    · simp only [kJ 93 _ (by omega) (by omega) (by omega)]; exact f7
    · simp only [kJ 111 _ (by omega) (by omega) (by omega)]; exact f8.1
    · rw [hM.2.2.1 66 i (by omega) (by omega), hM.2.2.1 67 i (by omega) (by omega)]; exact hX.1 i q1 q2
theorem FrQm.th {S : zS} : FrQm S (sI S 72 0 0) := ⟨Dyn.sI (by decide) Dyn.rf, fun a i _ _ q => by rw [gI_sI, if_neg (by omega)], fun _ _ _ _ => rfl, fun _ _ => rfl⟩
/-! what holds of a line on both sides -/
theorem StRel.gb {P Q : zP} {S : zS} {s : Nat} {g : Int → Int} (h : StRel P Q S s g) : GB g := by
  obtain ⟨a1, a2, a3, a4, a5, a6, a7, a8, a9, a10⟩ := h
  exact ⟨a1.2, ⟨a6.2.2.2.1, a6.2.2.2.2.1⟩, ⟨a6.2.2.2.2.2.2.2.1, a6.2.2.2.2.2.2.2.2⟩, fun p q1 q2 => by obtain ⟨-, -, -, b1, b2, b3, b4, b5, b6⟩ := a7 p q1 q2; exact ⟨⟨b1, b2⟩, ⟨b3, b4⟩, b5, b6⟩⟩
theorem StRel.sl {P Q : zP} {S : zS} {s : Nat} {g : Int → Int} (h : StRel P Q S s g) : SLn S s g := by
  obtain ⟨a1, a2, a3, a4, a5, a6, a7, a8, a9, a10⟩ := h
  exact ⟨a1.1, a6.1, a6.2.2.1, fun p q1 q2 => by obtain ⟨b1, b2, b3, -⟩ := a7 p q1 q2; exact ⟨b1, b2, b3⟩⟩
theorem StRel.met {S : zS} {s : Nat} {g : Int → Int} (h : StRel PM QL S s g) {k : Int} (hk : 0 ≤ k ∧ k < g 1) : ∃ (a : Nat) (x : T3), gQ S (s + 5) k = some a ∧ MetC S a x ∧ MtR g (80 + 402 * k) x := by
  obtain ⟨-, -, -, -, -, -, -, -, a9, -⟩ := h
  obtain ⟨a, e1, e2⟩ := a9 k hk.1 hk.2
  obtain ⟨x, e3, e4⟩ := PM_R e2
  exact ⟨a, x, e1, e3, e4⟩
/-- a law by its number, none at -1 -/
theorem StRel.law {S : zS} {s : Nat} {g : Int → Int} (h : StRel PM QL S s g) (hs : isSt S s) {k : Int} (hk : -1 ≤ k ∧ k < g 3) : ∃ (o : Option Nat) (cls : List Cl), LawC S o cls ∧ LawR g k cls ∧ ∀ {X : zX} {d : Nat}, 0 < d → ∀ {cm cp : Nat} {L : zL} {st : List Value}, z_evc X d 78 [.ref s, .int (Int32.ofInt k)] (cm, cp, L, st, mk S) = z_ev X d (cm, cp, L, lv o :: st, mk S) := by
  obtain ⟨-, -, -, a4, -, -, -, -, -, a10⟩ := h
  by_cases q : k = -1
  · subst q
    refine ⟨none, [], ⟨fun _ h => (List.not_mem_nil h).elim, rfl⟩, ⟨⟨fun _ h => (List.not_mem_nil h).elim, fun _ h => (List.not_mem_nil h).elim⟩, Or.inl ⟨rfl, rfl⟩⟩, fun {X d} hd {cm cp L st} => ?_⟩
    exact c78b hd (-1) hs (by omega) (by omega) (by omega)
  · obtain ⟨a, e1, e2⟩ := a10 k (by omega) hk.2
    obtain ⟨cls, e3, e4, e5⟩ := QL_R e2
    refine ⟨some a, cls, e3, ⟨e5, Or.inr ⟨by omega, e4⟩⟩, fun {X d} hd {cm cp L st} => ?_⟩
    exact c78a hd k hs (by omega) (by omega) e1
