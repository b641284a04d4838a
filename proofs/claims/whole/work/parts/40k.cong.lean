/-! tokens by the bytes that are on the tape alone -/
section
variable {b b' : Int → Int} {n : Int}
theorem run_cg {p : Int → Prop} (h : ∀ j, 0 ≤ j → j < n → b j = b' j) : ∀ (m : Nat) (i : Int), (n - i).toNat = m → 0 ≤ i → run p b n i = run p b' n i := by
  intro m
  induction m with
  | zero => intro i h1 h2; rw [run_f (Or.inl (by omega)), run_f (Or.inl (by omega))]
  | succ m ih =>
    intro i h1 h2
    have e := h i h2 (by omega)
    by_cases q : p (b i)
    · rw [run_t (by omega) q, run_t (b := b') (by omega) (by rw [← e]; exact q)]
      exact ih (i + 1) (by omega) (by omega)
    · rw [run_f (Or.inr q), run_f (b := b') (Or.inr (by rw [← e]; exact q))]
theorem tE_cg (h : ∀ j, 0 ≤ j → j < n → b j = b' j) {i : Int} (h0 : 0 ≤ i) (h1 : i < n) : tE b n i = tE b' n i := by
  unfold tE
  rw [h i h0 h1, run_cg h _ (i + 1) rfl (by omega), run_cg h _ (i + 1) rfl (by omega)]
theorem tpos_cg (hn : 0 ≤ n) (h : ∀ j, 0 ≤ j → j < n → b j = b' j) : ∀ t : Nat, tpos b n t = tpos b' n t := by
  intro t
  induction t with
  | zero => show skp b n 0 = skp b' n 0; exact run_cg h _ 0 rfl (by omega)
  | succ t ih =>
    have hr := tpos_rng (b := b) hn t
    show @ite _ (tpos b n t < n) (Classical.propDecidable _) (skp b n (tE b n (tpos b n t))) n = @ite _ (tpos b' n t < n) (Classical.propDecidable _) (skp b' n (tE b' n (tpos b' n t))) n
    rw [← ih]
    by_cases q : tpos b n t < n
    · rw [if_pos q, if_pos q, ← tE_cg h hr.1 q]
      have := tE_rng (b := b) q
      exact run_cg h _ _ rfl (by omega)
    · rw [if_neg q, if_neg q]
theorem wl_cg (h : ∀ j, 0 ≤ j → j < n → b j = b' j) {i e : Int} (h0 : 0 ≤ i) (he : e ≤ n) : ∀ (l : List Nat) (c nx al : Int), 0 ≤ nx → wl b i e l c nx al = wl b' i e l c nx al := by
  intro l
  induction l with
  | nil => intro c nx al _; rfl
  | cons x l ih =>
    intro c nx al hx
    rw [wl, wl]
    have ec : (al ≠ 0 ∧ nx < e ∧ b nx = (x : Int)) = (al ≠ 0 ∧ nx < e ∧ b' nx = (x : Int)) := by
      apply propext
      constructor
      · rintro ⟨a1, a2, a3⟩; exact ⟨a1, a2, by rw [← h nx hx (by omega)]; exact a3⟩
      · rintro ⟨a1, a2, a3⟩; exact ⟨a1, a2, by rw [h nx hx (by omega)]; exact a3⟩
    have eb : b01 (al ≠ 0 ∧ nx < e ∧ b nx = (x : Int)) = b01 (al ≠ 0 ∧ nx < e ∧ b' nx = (x : Int)) := by
      unfold b01; by_cases q : al ≠ 0 ∧ nx < e ∧ b nx = (x : Int)
      · rw [if_pos q, if_pos (by rw [← ec]; exact q)]
      · rw [if_neg q, if_neg (by rw [← ec]; exact q)]
    split
    · rw [eb]; exact ih _ _ _ (by omega)
    · split
      · rfl
      · exact ih _ _ _ h0
theorem nv_cg (h : ∀ j, 0 ≤ j → j < n → b j = b' j) : ∀ (m : Nat) (i v : Int), 0 ≤ i → i + m ≤ n → nv b m i v = nv b' m i v := by
  intro m
  induction m with
  | zero => intro i v _ _; rfl
  | succ m ih =>
    intro i v h0 h1
    rw [nv, nv, h i h0 (by omega)]
    exact ih _ _ (by omega) (by omega)
theorem tcode_cg (h : ∀ j, 0 ≤ j → j < n → b j = b' j) {i : Int} (h0 : 0 ≤ i) (h1 : i < n) : tcode b n i = tcode b' n i := by
  have := tE_rng (b := b) h1
  unfold tcode
  rw [← tE_cg h h0 h1, wl_cg h h0 this.2 z_words 256 i 1 h0, h i h0 h1]
theorem tval_cg (h : ∀ j, 0 ≤ j → j < n → b j = b' j) {i : Int} (h0 : 0 ≤ i) (h1 : i < n) : tval b n i = tval b' n i := by
  have := tE_rng (b := b) h1
  unfold tval
  rw [← tE_cg h h0 h1, nv_cg h _ i 0 h0 (by omega), h i h0 h1]
theorem TokAll.cg (hn : 0 ≤ n) (h : ∀ j, 0 ≤ j → j < n → b j = b' j) {S : zS} {T : Nat} (hT : TokAll S b n T) : TokAll S b' n T := by
  obtain ⟨a1, a2, a3⟩ := hT
  refine ⟨fun j hj => ?_, by rw [← tpos_cg hn h]; exact a2, a3⟩
  obtain ⟨b1, b2, b3, b4⟩ := a1 j hj
  have hr := tpos_rng (b := b) hn j
  rw [← tpos_cg hn h j]
  exact ⟨b1, b2, by rw [b3]; exact tcode_cg h hr.1 b1, by rw [b4]; exact tval_cg h hr.1 b1⟩
end
/-- what holds between calls, out of its parts -/
theorem Inv.gen {P Q : zP} {S T : zS} (hI : Inv P Q S) (hK : Keep P Q S T) (hSt : StRel P Q T 5 (gI T 74)) (hHi : HiRel T) (hTp : TpRel T) (hMs : MsRel T) (hDr : DrRel T) (hRef : RefOK T 5) (k75 : ∀ i, gI T 75 i = gI S 75 i) (k76 : ∀ i, gI T 76 i = gI S 76 i) (k26 : ∀ i, gQ T 26 i = gQ S 26 i) (kD : ∀ b, 114 ≤ b → b < gN S → (∀ i, gI T b i = gI S b i) ∧ (∀ i, gQ T b i = gQ S b i) ∧ gH T b = gH S b) (kN : gN S ≤ gN T) (kF : ∀ b, 114 ≤ b → gN T ≤ b → gH T b = none) (kJ : ∀ b i, b = 87 ∨ b = 88 ∨ b = 89 ∨ b = 93 ∨ b = 111 ∨ b = 66 ∨ b = 67 → gJ T b i = gJ S b i) (k58 : (gQ T 58 6 = some 66 ∧ gQ T 58 7 = some 67) ∨ (gQ T 58 6 = some 67 ∧ gQ T 58 7 = some 66)) (k20 : gI T 72 20 = 0) : Inv P Q T := by
  obtain ⟨a1, a2, a3, a4, a5, a6, a7⟩ := hI
  have hH : ∀ b x, 114 ≤ b → gH S b = some x → gH T b = some x := fun b x q1 q2 => by
    have hb : b < gN S := by
      apply Classical.byContradiction; intro hq; rw [a6.2.1.1 b q1 (by omega)] at q2; cases q2
    rw [(kD b q1 hb).2.2]; exact q2
  refine ⟨hSt, hHi, hTp, hMs, hDr, ⟨hRef, ⟨kF, fun s => by rw [k26, k26]; exact a6.2.1.2 s⟩, fun k q1 q2 => ?_⟩, ?_⟩
  · rw [k76, k26]
    rcases a6.2.2 k q1 q2 with w | ⟨w1, s', w2, w3, w4, w5, w6, w7⟩
    · exact Or.inl w
    · have hc := fun (j : Nat) (hj : j < 7) => kD (s' + j) (by omega) (by omega)
      refine Or.inr ⟨w1, s', w2, w3, by omega, w5.mono hH (fun _ i => (hc 0 (by omega)).2.1 i), w6.lt (fun j i q => (hc j (by omega)).2.1 i) hH, w7.kp hK (fun j i q => (hc j (by omega)).1 i) (fun j i q => (hc j (by omega)).2.1 i) (fun i q3 q4 => k75 _)⟩
  · obtain ⟨f1, f2, f3, f4, f5, f6, f7, f8⟩ := a7
    unfold FxRel
    rw [kJ 87 _ (by omega), kJ 87 _ (by omega), kJ 87 _ (by omega), kJ 87 _ (by omega), kJ 87 _ (by omega), kJ 87 _ (by omega), kJ 87 _ (by omega), kJ 87 _ (by omega), kJ 88 _ (by omega), kJ 88 _ (by omega), kJ 88 _ (by omega), kJ 88 _ (by omega), kJ 88 _ (by omega), kJ 88 _ (by omega), kJ 89 _ (by omega), kJ 89 _ (by omega), kJ 89 _ (by omega), kJ 93 _ (by omega), kJ 93 _ (by omega), kJ 93 _ (by omega), kJ 93 _ (by omega), kJ 111 _ (by omega), kJ 111 _ (by omega), kJ 111 _ (by omega), kJ 111 _ (by omega)]
    exact ⟨by omega, k58, k20, f4, f5, f6, f7, f8.1, fun i q1 q2 => by rw [kJ 66 i (by omega), kJ 67 i (by omega)]; exact f8.2 i q1 q2⟩
