/-! BITS of numbers -/
def bt (x : Int) (p : Nat) : Bool := (Int32.ofInt x).toBitVec.getLsbD p
theorem bt_to (y : Int32) (p : Nat) : bt y.toInt p = y.toBitVec.getLsbD p := by unfold bt; rw [i_toInt]
theorem bt_i32 (x : Int) (p : Nat) : bt (i32 x) p = bt x p := by unfold bt; rw [i32_of]
theorem sh_and : ∀ s : Fin 32, Int32.ofInt (s.val : Int) &&& Int32.ofInt 31 = Int32.ofInt (s.val : Int) := by decide
theorem sh_mod : ∀ s : Fin 32, ((Int32.ofInt (s.val : Int)).toBitVec.smod 32).toNat = s.val := by decide
theorem shr_b (y : Int32) {s : Nat} (hs : s < 32) (i : Nat) (hi : s + i < 32) : (y >>> (Int32.ofInt (s : Int) &&& Int32.ofInt 31)).toBitVec.getLsbD i = y.toBitVec.getLsbD (s + i) := by
  rw [sh_and ⟨s, hs⟩]
  show (y.toBitVec.sshiftRight' ((Int32.ofInt (s : Int)).toBitVec.smod 32)).getLsbD i = _
  rw [BitVec.sshiftRight_eq', sh_mod ⟨s, hs⟩, BitVec.getLsbD_sshiftRight]
  simp only [hi, ↓reduceIte]
  rw [decide_eq_false (by omega)]; rfl
theorem shl_b (y : Int32) {s : Nat} (hs : s < 32) (i : Nat) : (y <<< (Int32.ofInt (s : Int) &&& Int32.ofInt 31)).toBitVec.getLsbD i = (decide (i < 32) && !decide (i < s) && y.toBitVec.getLsbD (i - s)) := by
  rw [sh_and ⟨s, hs⟩]
  show (y.toBitVec <<< ((Int32.ofInt (s : Int)).toBitVec.smod 32)).getLsbD i = _
  rw [BitVec.shiftLeft_eq', sh_mod ⟨s, hs⟩, BitVec.getLsbD_shiftLeft]
theorem and1_b (y : Int32) : (y &&& Int32.ofInt 1).toInt = if y.toBitVec.getLsbD 0 then 1 else 0 := by
  have h1 : (y &&& Int32.ofInt 1).toInt = ((y.toBitVec &&& 1#32).toInt) := by
    rw [← Int32.toInt_toBitVec, Int32.toBitVec_and]; rfl
  rw [h1, BitVec.and_one_eq_setWidth_ofBool_getLsbD]
  cases y.toBitVec.getLsbD 0 <;> rfl
theorem bit1_bt (x : Int) {s : Nat} (hs : s < 32) : bit1 x (s : Int) = if bt x s then 1 else 0 := by
  unfold bit1
  rw [and1_b, shr_b _ hs 0 (by omega)]
  rfl
/-- one bit alone -/
theorem one_b {s : Nat} (hs : s < 32) (i : Nat) : (Int32.ofInt 1 <<< (Int32.ofInt (s : Int) &&& Int32.ofInt 31)).toBitVec.getLsbD i = decide (i = s ∧ i < 32) := by
  rw [shl_b _ hs]
  rw [show (Int32.ofInt 1).toBitVec = 1#32 from rfl, BitVec.getLsbD_one]
  by_cases h1 : i < 32
  · by_cases h2 : i < s
    · rw [decide_eq_true h1, decide_eq_true h2, decide_eq_false (show ¬ (i = s ∧ i < 32) by omega)]; rfl
    · by_cases h3 : i = s
      · subst h3
        rw [decide_eq_true h1, decide_eq_false h2, decide_eq_true (show i = i ∧ i < 32 from ⟨rfl, h1⟩), Nat.sub_self]; rfl
      · rw [decide_eq_true h1, decide_eq_false h2, decide_eq_false (show ¬ (i = s ∧ i < 32) by omega), decide_eq_false (show ¬ (i - s = 0) by omega)]; rfl
  · rw [decide_eq_false h1, decide_eq_false (show ¬ (i = s ∧ i < 32) by omega)]; rfl
theorem zero_b (i : Nat) : (Int32.ofInt 0).toBitVec.getLsbD i = false := by
  rw [show (Int32.ofInt 0).toBitVec = 0#32 from rfl, BitVec.getLsbD_zero]
theorem or_b (x y : Int32) (i : Nat) : (x ||| y).toBitVec.getLsbD i = (x.toBitVec.getLsbD i || y.toBitVec.getLsbD i) := by
  rw [Int32.toBitVec_or, BitVec.getLsbD_or]
theorem and_b (x y : Int32) (i : Nat) : (x &&& y).toBitVec.getLsbD i = (x.toBitVec.getLsbD i && y.toBitVec.getLsbD i) := by
  rw [Int32.toBitVec_and, BitVec.getLsbD_and]
theorem xor_b (x y : Int32) (i : Nat) : (x ^^^ y).toBitVec.getLsbD i = (x.toBitVec.getLsbD i ^^ y.toBitVec.getLsbD i) := by
  rw [Int32.toBitVec_xor, BitVec.getLsbD_xor]
theorem m1_b {i : Nat} (h : i < 32) : (Int32.ofInt (-1)).toBitVec.getLsbD i = true := by
  rw [show (Int32.ofInt (-1)).toBitVec = BitVec.allOnes 32 from rfl, BitVec.getLsbD_allOnes, decide_eq_true h]
/-- the sum carries a place through those that follow it without a gap -/
theorem carry_el (P E : Int32) : ∀ i : Nat, i < 32 → (((P &&& E) + E ^^^ E) ||| P).toBitVec.getLsbD i = (P.toBitVec.getLsbD i || BitVec.carry i (P &&& E).toBitVec E.toBitVec false) := by
  intro i hi
  rw [or_b, xor_b, Int32.toBitVec_add, BitVec.getLsbD_add hi, and_b]
  cases P.toBitVec.getLsbD i <;> cases E.toBitVec.getLsbD i <;> cases BitVec.carry i (P &&& E).toBitVec E.toBitVec false <;> rfl
theorem elided_b (P E : Int32) : ∀ i : Nat, i < 31 → (((P &&& E) + E ^^^ E) ||| P).toBitVec.getLsbD (i + 1) = (P.toBitVec.getLsbD (i + 1) || (E.toBitVec.getLsbD i && (((P &&& E) + E ^^^ E) ||| P).toBitVec.getLsbD i)) := by
  intro i hi
  rw [carry_el P E (i + 1) (by omega), carry_el P E i (by omega), BitVec.carry_succ, and_b]
  cases P.toBitVec.getLsbD i <;> cases E.toBitVec.getLsbD i <;> cases BitVec.carry i (P &&& E).toBitVec E.toBitVec false <;> rfl
theorem elided_0 (P E : Int32) : (((P &&& E) + E ^^^ E) ||| P).toBitVec.getLsbD 0 = P.toBitVec.getLsbD 0 := by
  rw [carry_el P E 0 (by omega), BitVec.carry_zero, Bool.or_false]
/-- places of which some were there, all between being elided -/
theorem elided_all (P E : Int32) : ∀ q : Nat, q < 32 → ((((P &&& E) + E ^^^ E) ||| P).toBitVec.getLsbD q = true ↔ ∃ p, p ≤ q ∧ P.toBitVec.getLsbD p = true ∧ ∀ i, p ≤ i → i < q → E.toBitVec.getLsbD i = true) := by
  intro q
  induction q with
  | zero =>
    intro _
    rw [elided_0]
    constructor
    · intro h; exact ⟨0, Nat.le_refl _, h, fun i h1 h2 => by omega⟩
    · rintro ⟨p, h1, h2, -⟩
      have : p = 0 := by omega
      subst this; exact h2
  | succ q ih =>
    intro hq
    rw [elided_b P E q (by omega), Bool.or_eq_true, Bool.and_eq_true, ih (by omega)]
    constructor
    · rintro (h | ⟨h1, p, h2, h3, h4⟩)
      · exact ⟨q + 1, Nat.le_refl _, h, fun i h1 h2 => by omega⟩
      · refine ⟨p, by omega, h3, fun i w1 w2 => ?_⟩
        by_cases e : i = q
        · subst e; exact h1
        · exact h4 i w1 (by omega)
    · rintro ⟨p, h1, h2, h3⟩
      by_cases e : p = q + 1
      · subst e; exact Or.inl h2
      · exact Or.inr ⟨h3 q (by omega) (by omega), p, by omega, h2, fun i w1 w2 => h3 i w1 (by omega)⟩
