/-! WHAT HOLDS BETWEEN CALLS: the class's cells beside the reference's -/
abbrev zP : Type := zS → Nat → (Int → Int) → Prop
/-- a part of a row -/
def blk (g : Int → Int) (b n : Int) (i : Int) : Int := if 0 ≤ i ∧ i < n then g (b + i) else 0
theorem blk_eq {g g' : Int → Int} {b b' n : Int} (h : ∀ i, 0 ≤ i → i < n → g' (b' + i) = g (b + i)) : blk g' b' n = blk g b n := by
  funext i
  unfold blk
  split
  · next q => exact h i q.1 q.2
  · rfl
def StRel (P Q : zP) (S : zS) (s : Nat) (g : Int → Int) : Prop :=
  (gI S s 6 = g 0 ∧ 0 ≤ g 0 ∧ g 0 ≤ 20) ∧ (gI S s 8 = g 1 ∧ 0 ≤ g 1 ∧ g 1 ≤ 6) ∧ (gI S s 7 = g 2 ∧ 0 ≤ g 2 ∧ g 2 ≤ 6) ∧ (gI S s 9 = g 3 ∧ 0 ≤ g 3 ∧ g 3 ≤ 6) ∧ (gI S s 10 = g 4 ∧ -1 ≤ g 4 ∧ g 4 < g 3) ∧
  (gI S (s + 2) 0 = g 5 ∧ gI S (s + 2) 1 = g 6 ∧ gI S (s + 2) 2 = g 7 ∧ 0 ≤ g 5 ∧ g 5 ≤ 999 ∧ 0 ≤ g 6 ∧ g 6 ≤ 10 ∧ 0 ≤ g 7 ∧ g 7 ≤ 9) ∧
  (∀ p : Int, 0 ≤ p → p < 20 → gI S (s + 1) (3 * p) = g (8 + p) ∧ gI S (s + 1) (3 * p + 1) = g (28 + p) ∧ gI S (s + 1) (3 * p + 2) = g (48 + p) ∧ 0 ≤ g (8 + p) ∧ g (8 + p) ≤ 2 ∧ 0 ≤ g (28 + p) ∧ g (28 + p) ≤ 1 ∧ 0 ≤ g (48 + p) ∧ g (48 + p) ≤ 1) ∧
  (∀ k : Int, 0 ≤ k → k < g 2 → gI S (s + 3) k = g (68 + 2 * k) ∧ gI S (s + 4) k = g (69 + 2 * k) ∧ 0 ≤ g (68 + 2 * k) ∧ g (68 + 2 * k) < 20 ∧ 0 ≤ g (69 + 2 * k) ∧ g (69 + 2 * k) ≤ 2) ∧
  (∀ k : Int, 0 ≤ k → k < g 1 → ∃ a, gQ S (s + 5) k = some a ∧ P S a (blk g (80 + 402 * k) 402)) ∧
  (∀ k : Int, 0 ≤ k → k < g 3 → ∃ a, gQ S (s + 6) k = some a ∧ Q S a (blk g (2492 + 900 * k) 900))
/-- what is ahead of a change, out of what is behind it (0 .. 62: terms, weights, ends, meets) -/
def undoAt (K s w : Int) (T : Int → Int) (i : Int) : Int :=
  if K = 0 then (if i = 3 + s then w else T i) else if K = 3 then (if i = 0 then T 0 - 1 else T i) else if K = 1 then (if i = 23 + s then 1 - T i else T i) else (if i = 43 + s then 1 - T i else T i)
def snap (S : zS) (k i : Int) : Int := if k < gI S 72 8 then gI S 77 (63 * k + i) else gI S 74 (5 + i)
def HiRel (S : zS) : Prop := (gI S 27 3 = gI S 72 8 ∧ 0 ≤ gI S 72 8 ∧ gI S 72 8 ≤ 16) ∧
  ∀ k : Int, 0 ≤ k → k < gI S 72 8 → gI S 28 k = gI S 78 k ∧ 0 ≤ gI S 78 k ∧ gI S 78 k ≤ 3 ∧ (gI S 78 k ≠ 3 → 0 ≤ gI S 29 k ∧ gI S 29 k < 20) ∧ (gI S 78 k = 0 → 0 ≤ gI S 30 k ∧ gI S 30 k ≤ 2) ∧ (gI S 78 k = 3 → 1 ≤ snap S (k + 1) 0) ∧ ∀ i : Int, 0 ≤ i → i < 63 → snap S k i = undoAt (gI S 28 k) (gI S 29 k) (gI S 30 k) (snap S (k + 1)) i
def TpRel (S : zS) : Prop := (gI S 35 1 = gI S 72 13 ∧ 0 ≤ gI S 72 13 ∧ gI S 72 13 ≤ 400) ∧ ∀ i : Int, 0 ≤ i → i < gI S 72 13 → gI S 36 i = gI S 81 i ∧ 0 ≤ gI S 81 i ∧ gI S 81 i ≤ 255
def MsRel (S : zS) : Prop := gI S 4 17 = gI S 72 18 ∧ gI S 4 18 = gI S 72 11 ∧ gI S 4 19 = gI S 72 67 ∧ gI S 4 16 = gI S 72 1 ∧ gI S 71 0 = gI S 73 1 ∧ gI S 71 1 = gI S 73 2 ∧ gI S 71 2 = gI S 73 3 ∧ gI S 71 3 = gI S 73 5 ∧ gI S 71 4 = gI S 73 6
def DrRel (S : zS) : Prop := (gI S 72 71 = -1 ∧ gI S 19 6 = 0) ∨ (gI S 72 71 = gI S 19 6 ∧ 0 ≤ gI S 19 6 ∧ gI S 19 6 ≤ 20 ∧ ∀ p : Int, 0 ≤ p → p < 20 → gI S 20 (3 * p) = gI S 113 (3 + p) ∧ gI S 20 (3 * p + 1) = gI S 113 (23 + p) ∧ gI S 20 (3 * p + 2) = gI S 113 (43 + p))
/-- references to metres and laws are such -/
def RefOK (S : zS) (s : Nat) : Prop := (∀ (k : Int) (a : Nat), 0 ≤ k → k < 6 → gQ S (s + 5) k = some a → 114 ≤ a ∧ gH S a = some (.inl 3)) ∧ (∀ (k : Int) (a : Nat), 0 ≤ k → k < 6 → gQ S (s + 6) k = some a → 114 ≤ a ∧ gH S a = some (.inl 1))
def ImRel (P Q : zP) (S : zS) : Prop := RefOK S 5 ∧ ((∀ b : Nat, 114 ≤ b → gN S ≤ b → gH S b = none) ∧ ∀ s : Nat, gQ S 26 0 = some s → gQ S 26 1 ≠ some s) ∧ ∀ k : Int, 0 ≤ k → k < 2 → (gI S 76 k = 0 ∧ gQ S 26 k = none) ∨ (gI S 76 k = 1 ∧ ∃ s, gQ S 26 k = some s ∧ 114 ≤ s ∧ s + 6 < gN S ∧ isSt S s ∧ RefOK S s ∧ StRel P Q S s (fun i => gI S 75 (7892 * k + i)))
/-- the class's two rows of longs hold prices -/
def Rows (S : zS) : Prop := ∀ i : Int, 0 ≤ i → i < 400 → (0 ≤ gJ S 66 i ∧ gJ S 66 i ≤ 1152921504606846976) ∧ (0 ≤ gJ S 67 i ∧ gJ S 67 i ≤ 1152921504606846976)
/-- constants of the reference, the class's two rows that change places, and that orders are read by orders alone -/
def FxRel (S : zS) : Prop := 114 ≤ gN S ∧ ((gQ S 58 6 = some 66 ∧ gQ S 58 7 = some 67) ∨ (gQ S 58 6 = some 67 ∧ gQ S 58 7 = some 66)) ∧ gI S 72 20 = 0 ∧
  (gJ S 87 0 = 17171557 ∧ gJ S 87 1 = 777297172 ∧ gJ S 87 2 = 51 ∧ gJ S 87 3 = 178323 ∧ gJ S 87 4 = 13801107 ∧ gJ S 87 5 = 3659220 ∧ gJ S 87 6 = 4153 ∧ gJ S 87 7 = 441828) ∧
  (gJ S 88 0 = 4153 ∧ gJ S 88 1 = 146885 ∧ gJ S 88 2 = 404362868 ∧ gJ S 88 3 = 3659220 ∧ gJ S 88 4 = 777297172 ∧ gJ S 88 5 = 20022739) ∧
  (gJ S 89 0 = 3657363 ∧ gJ S 89 1 = 46546675 ∧ gJ S 89 2 = 67155) ∧ (gJ S 93 0 = 409031 ∧ gJ S 93 1 = 20201044 ∧ gJ S 93 2 = 1497 ∧ gJ S 93 3 = 3764) ∧ (gJ S 111 0 = 24290536 ∧ gJ S 111 1 = 5572 ∧ gJ S 111 2 = 431284 ∧ gJ S 111 3 = 525939) ∧ Rows S
def Inv (P Q : zP) (S : zS) : Prop := StRel P Q S 5 (gI S 74) ∧ HiRel S ∧ TpRel S ∧ MsRel S ∧ DrRel S ∧ ImRel P Q S ∧ FxRel S
/-- what lies in cells that are made later is the same, and what they are -/
def Dyn (S T : zS) : Prop := (∀ a : Nat, 114 ≤ a → (∀ i, gI T a i = gI S a i) ∧ (∀ i, gQ T a i = gQ S a i) ∧ gH T a = gH S a) ∧ gN T = gN S ∧ gW T = gW S
/-- a property of such cells alone -/
def Loc (P : zP) : Prop := ∀ (S T : zS) (a : Nat) (r : Int → Int), (∀ b : Nat, a ≤ b → b < gN S → (∀ i, gI T b i = gI S b i) ∧ (∀ i, gQ T b i = gQ S b i) ∧ gH T b = gH S b) → gN S ≤ gN T → P S a r → P T a r
section
variable {P Q : zP} {S T : zS}
theorem Loc.dyn (h : Loc P) (h1 : ∀ S a r, P S a r → 114 ≤ a) (hD : Dyn S T) {a : Nat} {r : Int → Int} (hp : P S a r) : P T a r :=
  h S T a r (fun b hb _ => hD.1 b (by have := h1 S a r hp; omega)) (Nat.le_of_eq hD.2.1.symm) hp
end
/-- what is asked of the two relations -/
def Good (P Q : zP) : Prop := (∀ (S T : zS) (a : Nat) (r : Int → Int), P S a r → Dyn S T → P T a r) ∧ (∀ (S T : zS) (a : Nat) (r : Int → Int), Q S a r → Dyn S T → Q T a r)
section
variable {P Q : zP} {S T : zS}
theorem StRel.fr (hG : Good P Q) (hD : Dyn S T) {s : Nat} {g : Int → Int} (h : StRel P Q S s g) (h0 : ∀ i, gI T s i = gI S s i) (h1 : ∀ i, gI T (s + 1) i = gI S (s + 1) i) (h2 : ∀ i, gI T (s + 2) i = gI S (s + 2) i) (h3 : ∀ i, gI T (s + 3) i = gI S (s + 3) i) (h4 : ∀ i, gI T (s + 4) i = gI S (s + 4) i) (h5 : ∀ i, gQ T (s + 5) i = gQ S (s + 5) i) (h6 : ∀ i, gQ T (s + 6) i = gQ S (s + 6) i) {g' : Int → Int} (hg : ∀ i, g' i = g i) : StRel P Q T s g' := by
  have : g' = g := funext hg
  subst this
  obtain ⟨a1, a2, a3, a4, a5, a6, a7, a8, a9, a10⟩ := h
  unfold StRel
  simp only [h0, h1, h2, h3, h4, h5, h6]
  exact ⟨a1, a2, a3, a4, a5, a6, a7, a8, fun k q1 q2 => by obtain ⟨a, e1, e2⟩ := a9 k q1 q2; exact ⟨a, e1, hG.1 S T a _ e2 hD⟩, fun k q1 q2 => by obtain ⟨a, e1, e2⟩ := a10 k q1 q2; exact ⟨a, e1, hG.2 S T a _ e2 hD⟩⟩
theorem RefOK.fr (hD : Dyn S T) {s : Nat} (h : RefOK S s) (h5 : ∀ i, gQ T (s + 5) i = gQ S (s + 5) i) (h6 : ∀ i, gQ T (s + 6) i = gQ S (s + 6) i) : RefOK T s :=
  ⟨fun k a q1 q2 q3 => by rw [h5] at q3; obtain ⟨w1, w2⟩ := h.1 k a q1 q2 q3; exact ⟨w1, by rw [(hD.1 a w1).2.2]; exact w2⟩, fun k a q1 q2 q3 => by rw [h6] at q3; obtain ⟨w1, w2⟩ := h.2 k a q1 q2 q3; exact ⟨w1, by rw [(hD.1 a w1).2.2]; exact w2⟩⟩
theorem isSt.fr (hD : Dyn S T) {s : Nat} (e3 : 114 ≤ s) (e5 : isSt S s) : isSt T s := by
  rcases e5 with q | ⟨w1, w2, w3, w4, w5, w6, w7, w8, w9⟩
  · exact Or.inl q
  · exact Or.inr ⟨w1, by rw [(hD.1 s e3).2.2]; exact w2, fun j hj => by rw [(hD.1 s e3).2.1]; exact w3 j hj, by rw [(hD.1 (s + 1) (by omega)).2.2]; exact w4, by rw [(hD.1 (s + 2) (by omega)).2.2]; exact w5, by rw [(hD.1 (s + 3) (by omega)).2.2]; exact w6, by rw [(hD.1 (s + 4) (by omega)).2.2]; exact w7, by rw [(hD.1 (s + 5) (by omega)).2.2]; exact w8, by rw [(hD.1 (s + 6) (by omega)).2.2]; exact w9⟩
theorem ImRel.fr (hG : Good P Q) (hD : Dyn S T) (h : ImRel P Q S) (h1 : ∀ i, gI T 76 i = gI S 76 i) (h2 : ∀ a i, a = 26 ∨ a = 10 ∨ a = 11 → gQ T a i = gQ S a i) (h3 : ∀ i, gI T 75 i = gI S 75 i) : ImRel P Q T := by
  refine ⟨h.1.fr hD (fun i => h2 _ _ (by omega)) (fun i => h2 _ _ (by omega)), ⟨fun b q1 q2 => by rw [(hD.1 b q1).2.2]; exact h.2.1.1 b q1 (by rw [← hD.2.1]; exact q2), fun s => by rw [h2 26 0 (by omega), h2 26 1 (by omega)]; exact h.2.1.2 s⟩, ?_⟩
  intro k q1 q2
  rw [h1, h2 26 _ (by omega)]
  rcases h.2.2 k q1 q2 with e | ⟨e1, s, e2, e3, e4, e5, e7, e6⟩
  · exact Or.inl e
  · refine Or.inr ⟨e1, s, e2, e3, by rw [hD.2.1]; exact e4, e5.fr hD e3, e7.fr hD (hD.1 (s + 5) (by omega)).2.1 (hD.1 (s + 6) (by omega)).2.1, ?_⟩
    exact e6.fr hG hD (hD.1 s e3).1 (hD.1 (s + 1) (by omega)).1 (hD.1 (s + 2) (by omega)).1 (hD.1 (s + 3) (by omega)).1 (hD.1 (s + 4) (by omega)).1 (hD.1 (s + 5) (by omega)).2.1 (hD.1 (s + 6) (by omega)).2.1 (fun i => h3 _)
theorem HiRel.fr (h : HiRel S) (h1 : gI T 27 3 = gI S 27 3) (h2 : gI T 72 8 = gI S 72 8) (h3 : ∀ i, gI T 28 i = gI S 28 i) (h4 : ∀ i, gI T 29 i = gI S 29 i) (h5 : ∀ i, gI T 30 i = gI S 30 i) (h6 : ∀ i, gI T 77 i = gI S 77 i) (h7 : ∀ i, gI T 78 i = gI S 78 i) (h8 : ∀ i, 5 ≤ i → i < 68 → gI T 74 i = gI S 74 i) : HiRel T := by
  have hs : ∀ k i, 0 ≤ i → i < 63 → snap T k i = snap S k i := fun k i q1 q2 => by unfold snap; rw [h2, h6, h8 _ (by omega) (by omega)]
  obtain ⟨a1, a2⟩ := h
  refine ⟨by rw [h1, h2]; exact a1, fun k q1 q2 => ?_⟩
  rw [h2] at q2
  obtain ⟨b1, b2, b3, b4, b5, b6, b7⟩ := a2 k q1 q2
  refine ⟨by rw [h3, h7]; exact b1, by rw [h7]; exact b2, by rw [h7]; exact b3, by rw [h7, h4]; exact b4, by rw [h7, h5]; exact b5, by rw [h7, hs _ _ (by omega) (by omega)]; exact b6, fun i q3 q4 => ?_⟩
  rw [hs _ _ q3 q4, b7 i q3 q4, h3, h4, h5]
  unfold undoAt
  rw [hs _ _ q3 q4, hs (k + 1) 0 (by omega) (by omega)]
theorem TpRel.fr (h : TpRel S) (h1 : gI T 35 1 = gI S 35 1) (h2 : gI T 72 13 = gI S 72 13) (h3 : ∀ i, gI T 36 i = gI S 36 i) (h4 : ∀ i, gI T 81 i = gI S 81 i) : TpRel T := by
  unfold TpRel; simp only [h1, h2, h3, h4]; exact h
theorem DrRel.fr (h : DrRel S) (h1 : gI T 72 71 = gI S 72 71) (h2 : gI T 19 6 = gI S 19 6) (h3 : ∀ i, gI T 20 i = gI S 20 i) (h4 : ∀ i, gI T 113 i = gI S 113 i) : DrRel T := by
  unfold DrRel; simp only [h1, h2, h3, h4]; exact h
theorem FxRel.fr (h : FxRel S) (h0 : gN T = gN S) (h1 : gQ T 58 6 = gQ S 58 6) (h2 : gQ T 58 7 = gQ S 58 7) (h3 : gI T 72 20 = gI S 72 20) (h4 : ∀ i, gJ T 87 i = gJ S 87 i) (h5 : ∀ i, gJ T 88 i = gJ S 88 i) (h6 : ∀ i, gJ T 89 i = gJ S 89 i) (h7 : ∀ i, gJ T 93 i = gJ S 93 i) (h8 : ∀ i, gJ T 111 i = gJ S 111 i)  (h9 : ∀ a i, a = 66 ∨ a = 67 → gJ T a i = gJ S a i) : FxRel T := by
  unfold FxRel Rows; simp only [h9 66 _ (Or.inl rfl), h9 67 _ (Or.inr rfl), h0, h1, h2, h3, h4, h5, h6, h7, h8]; exact h
end
/-- what is asked of the two relations, in full: they look at their own cells alone, and say what these are -/
def Good2 (P Q : zP) : Prop :=
  (∀ (S T : zS) (a : Nat) (r : Int → Int), P S a r → (∀ j : Nat, j < 4 → (∀ i, gI T (a + j) i = gI S (a + j) i) ∧ (∀ i, gQ T (a + j) i = gQ S (a + j) i) ∧ gH T (a + j) = gH S (a + j)) → P T a r) ∧
  (∀ (S T : zS) (a : Nat) (r : Int → Int), Q S a r → (∀ j : Nat, j < 3 → (∀ i, gI T (a + j) i = gI S (a + j) i) ∧ (∀ i, gQ T (a + j) i = gQ S (a + j) i) ∧ gH T (a + j) = gH S (a + j)) → Q T a r) ∧
  (∀ (S : zS) (a : Nat) (r : Int → Int), P S a r → 114 ≤ a ∧ gH S a = some (.inl 3) ∧ ∀ j : Nat, 1 ≤ j → j < 4 → ∃ n, gH S (a + j) = some (.inr (0, n))) ∧
  (∀ (S : zS) (a : Nat) (r : Int → Int), Q S a r → 114 ≤ a ∧ gH S a = some (.inl 1) ∧ ∀ j : Nat, 1 ≤ j → j < 3 → ∃ n, gH S (a + j) = some (.inr (0, n)))
theorem Good2.g {P Q : zP} (h : Good2 P Q) : Good P Q :=
  ⟨fun S T a r hp hD => h.1 S T a r hp (fun j _ => hD.1 (a + j) (by have := (h.2.2.1 S a r hp).1; omega)), fun S T a r hp hD => h.2.1 S T a r hp (fun j _ => hD.1 (a + j) (by have := (h.2.2.2 S a r hp).1; omega))⟩
/-- a metre's cells are none of a state's -/
theorem Good2.offP {P Q : zP} (h : Good2 P Q) {S : zS} {a s : Nat} {r : Int → Int} (hp : P S a r) (hs : isSt S s) (h1 : 114 ≤ s) {j k : Nat} (hj : j < 4) (hk : k < 7) : a + j ≠ s + k := by
  obtain ⟨p1, p2, p3⟩ := h.2.2.1 S a r hp
  rcases hs with q | ⟨w1, w2, w3, w4, w5, w6, w7, w8, w9⟩
  · omega
  · intro he
    -- the head of one lies in the other
    have harr : ∀ i : Nat, 1 ≤ i → i < 7 → ∃ q, gH S (s + i) = some (.inr q) := by
      intro i i1 i2
      rcases (show i = 1 ∨ i = 2 ∨ i = 3 ∨ i = 4 ∨ i = 5 ∨ i = 6 by omega) with rfl | rfl | rfl | rfl | rfl | rfl
      · exact ⟨_, w4⟩
      · exact ⟨_, w5⟩
      · exact ⟨_, w6⟩
      · exact ⟨_, w7⟩
      · exact ⟨_, w8⟩
      · exact ⟨_, w9⟩
    by_cases q : k ≤ j
    · -- s lies at a + (j - k)
      have e : s = a + (j - k) := by omega
      by_cases q2 : j = k
      · rw [q2, Nat.sub_self, Nat.add_zero] at e
        rw [e, p2] at w2; cases w2
      · obtain ⟨n, hn⟩ := p3 (j - k) (by omega) (by omega)
        rw [← e, w2] at hn; cases hn
    · have e : a = s + (k - j) := by omega
      obtain ⟨n, hn⟩ := harr (k - j) (by omega) (by omega)
      rw [← e, p2] at hn; cases hn
theorem Good2.offQ {P Q : zP} (h : Good2 P Q) {S : zS} {a s : Nat} {r : Int → Int} (hp : Q S a r) (hs : isSt S s) (h1 : 114 ≤ s) {j k : Nat} (hj : j < 3) (hk : k < 7) : a + j ≠ s + k := by
  obtain ⟨p1, p2, p3⟩ := h.2.2.2 S a r hp
  rcases hs with q | ⟨w1, w2, w3, w4, w5, w6, w7, w8, w9⟩
  · omega
  · intro he
    have harr : ∀ i : Nat, 1 ≤ i → i < 7 → ∃ q, gH S (s + i) = some (.inr q) := by
      intro i i1 i2
      rcases (show i = 1 ∨ i = 2 ∨ i = 3 ∨ i = 4 ∨ i = 5 ∨ i = 6 by omega) with rfl | rfl | rfl | rfl | rfl | rfl
      · exact ⟨_, w4⟩
      · exact ⟨_, w5⟩
      · exact ⟨_, w6⟩
      · exact ⟨_, w7⟩
      · exact ⟨_, w8⟩
      · exact ⟨_, w9⟩
    by_cases q : k ≤ j
    · have e : s = a + (j - k) := by omega
      by_cases q2 : j = k
      · rw [q2, Nat.sub_self, Nat.add_zero] at e
        rw [e, p2] at w2; cases w2
      · obtain ⟨n, hn⟩ := p3 (j - k) (by omega) (by omega)
        rw [← e, w2] at hn; cases hn
    · have e : a = s + (k - j) := by omega
      obtain ⟨n, hn⟩ := harr (k - j) (by omega) (by omega)
      rw [← e, p2] at hn; cases hn
