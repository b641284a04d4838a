/-! THE LOOP of the law: call after call -/
abbrev L283 (z : Int) : zL := [some (.ref 2), some (.ref 4), some (.ref 72), some (.int (Int32.ofInt z))]
/-- a number of the script -/
def xw (X : zX) (i : Int) : Int := (X.2 i.toNat).toInt
theorem xw_r (X : zX) (i : Int) : r32 (xw X i) := by
  have := i32_rng (xw X i)
  rw [show i32 (xw X i) = xw X i from i32_in _] at this
  exact this
theorem xw_at {X : zX} {z : Int} (hz : 0 ≤ z ∧ z < X.1 ∧ X.1 ≤ 3072) {M : zM} {k : Int32 → Option zR} : z_ald X none M 0 2 (Int32.ofInt z) k = k (Int32.ofInt (xw X z)) := by
  have e1 : (Int32.ofInt z).toNatClampNeg = z.toNat := by rw [i_nat, i32_id (by omega) (by omega)]
  have e2 : (0 : Int32) ≤ Int32.ofInt z := by
    rw [Int32.le_iff_toInt_le, i32_to, i32_id (by omega) (by omega)]
    show (0 : Int) ≤ z
    omega
  show (if 0 = 0 ∧ z_in (Int32.ofInt z) X.1 then k (X.2 (Int32.ofInt z).toNatClampNeg) else none) = _
  rw [if_pos ⟨rfl, e2, by rw [e1]; omega⟩, e1]
  unfold xw
  rw [i_toInt]
theorem int_of {X : zX} {d mi : Nat} {as : List Value} {M M' : zM} {r : Value} (h : z_ev X d (z_entry mi as M) = some (some r, M')) (hk : okb mi = true) : ∃ x, r = .int x := by
  obtain ⟨n, hn⟩ := (z_ev_iff _ _ _ _).mp h
  have := int_ret X n d _ _ hn hk
  cases r with
  | int x => exact ⟨x, rfl⟩
  | _ => exact absurd this (fun q => q)
theorem lg_self (x : Int64) : lg_cmp x x = 0 := by
  unfold lg_cmp
  simp
def StepR (X : zX) (z : Int) (pc : Nat) (S : zS) : Prop := ∃ S2 : zS, z_ev X 1000 (283, pc, L283 z, [], mk S) = z_ev X 1000 (283, 1078, L283 z, [], mk S2) ∧ Inv PM QL S2 ∧ gN S2 ≤ gN S + 10 ∧ gW S2 ≤ gW S + 1400
section
variable {X : zX} {z : Int} {S : zS}
theorem st283_0 (hz : 0 ≤ z ∧ z + 6 ≤ X.1 ∧ X.1 ≤ 3072) (hI : Inv PM QL S) : StepR X z 196 S := by
  obtain ⟨r, S1, S2, h1, h2, hI2, hn, hw, -⟩ : PairAt PM QL X 97 165 [.int (Int32.ofInt (xw X (z + 1))), .int (Int32.ofInt (xw X (z + 2))), .int (Int32.ofInt (xw X (z + 3)))] S 900 := p_syllable good2.g (xw_r X (z + 1)) (xw_r X (z + 2)) (xw_r X (z + 3)) (by omega) hI
  obtain ⟨x, rfl⟩ := int_of h1 rfl
  have a1 : ∀ {M : zM} {k : Int32 → Option zR}, z_ald X none M 0 2 (Int32.ofInt z + 1) k = k (Int32.ofInt (xw X (z + 1))) := fun {M k} => by
    rw [show Int32.ofInt z + 1 = Int32.ofInt (z + 1) from Int32.ofInt_add z 1 ▸ rfl]; exact xw_at (by omega)
  have a2 : ∀ {M : zM} {k : Int32 → Option zR}, z_ald X none M 0 2 (Int32.ofInt z + 2) k = k (Int32.ofInt (xw X (z + 2))) := fun {M k} => by
    rw [show Int32.ofInt z + 2 = Int32.ofInt (z + 2) from Int32.ofInt_add z 2 ▸ rfl]; exact xw_at (by omega)
  have a3 : ∀ {M : zM} {k : Int32 → Option zR}, z_ald X none M 0 2 (Int32.ofInt z + 3) k = k (Int32.ofInt (xw X (z + 3))) := fun {M k} => by
    rw [show Int32.ofInt z + 3 = Int32.ofInt (z + 3) from Int32.ofInt_add z 3 ▸ rfl]; exact xw_at (by omega)
  have c1 : ∀ {cm cp : Nat} {L : zL} {st : List Value}, z_evc X 1000 97 [.ref 4, .int (Int32.ofInt (xw X (z + 1))), .int (Int32.ofInt (xw X (z + 2))), .int (Int32.ofInt (xw X (z + 3)))] (cm, cp, L, st, mk S) = z_ev X 1000 (cm, cp, L, .int x :: st, mk S1) := fun {cm cp L st} => z_evc_of (r := (some (.int x), mk S1)) (ck := (cm, cp, L, st, mk S)) (by omega) h1
  have c2 : ∀ {cm cp : Nat} {L : zL} {st : List Value}, z_evc X 1000 165 [.ref 72, .int (Int32.ofInt (xw X (z + 1))), .int (Int32.ofInt (xw X (z + 2))), .int (Int32.ofInt (xw X (z + 3)))] (cm, cp, L, st, mk S1) = z_ev X 1000 (cm, cp, L, .int x :: st, mk S2) := fun {cm cp L st} => z_evc_of (r := (some (.int x), mk S2)) (ck := (cm, cp, L, st, mk S1)) (by omega) h2
  refine ⟨S2, ?_, hI2, hn, hw⟩
  simp only [↓B283_196, ↓B283_215, ↓B283_234, a1, a2, a3, ↓o_4, ↓o_72, c1, c2, ↓reduceIte]
theorem st283_1 (hz : 0 ≤ z ∧ z + 6 ≤ X.1 ∧ X.1 ≤ 3072) (hI : Inv PM QL S) : StepR X z 239 S := by
  obtain ⟨r, S1, S2, h1, h2, hI2, hn, hw, -⟩ : PairAt PM QL X 98 166 [.int (Int32.ofInt (xw X (z + 1))), .int (Int32.ofInt (xw X (z + 2)))] S 900 := p_of (xw_r X (z + 1)) (xw_r X (z + 2)) (by omega) hI
  obtain ⟨x, rfl⟩ := int_of h1 rfl
  have a1 : ∀ {M : zM} {k : Int32 → Option zR}, z_ald X none M 0 2 (Int32.ofInt z + 1) k = k (Int32.ofInt (xw X (z + 1))) := fun {M k} => by
    rw [show Int32.ofInt z + 1 = Int32.ofInt (z + 1) from Int32.ofInt_add z 1 ▸ rfl]; exact xw_at (by omega)
  have a2 : ∀ {M : zM} {k : Int32 → Option zR}, z_ald X none M 0 2 (Int32.ofInt z + 2) k = k (Int32.ofInt (xw X (z + 2))) := fun {M k} => by
    rw [show Int32.ofInt z + 2 = Int32.ofInt (z + 2) from Int32.ofInt_add z 2 ▸ rfl]; exact xw_at (by omega)
  have c1 : ∀ {cm cp : Nat} {L : zL} {st : List Value}, z_evc X 1000 98 [.ref 4, .int (Int32.ofInt (xw X (z + 1))), .int (Int32.ofInt (xw X (z + 2)))] (cm, cp, L, st, mk S) = z_ev X 1000 (cm, cp, L, .int x :: st, mk S1) := fun {cm cp L st} => z_evc_of (r := (some (.int x), mk S1)) (ck := (cm, cp, L, st, mk S)) (by omega) h1
  have c2 : ∀ {cm cp : Nat} {L : zL} {st : List Value}, z_evc X 1000 166 [.ref 72, .int (Int32.ofInt (xw X (z + 1))), .int (Int32.ofInt (xw X (z + 2)))] (cm, cp, L, st, mk S1) = z_ev X 1000 (cm, cp, L, .int x :: st, mk S2) := fun {cm cp L st} => z_evc_of (r := (some (.int x), mk S2)) (ck := (cm, cp, L, st, mk S1)) (by omega) h2
  refine ⟨S2, ?_, hI2, hn, hw⟩
  simp only [↓B283_239, ↓B283_253, ↓B283_267, a1, a2, ↓o_4, ↓o_72, c1, c2, ↓reduceIte]
theorem st283_2 (hz : 0 ≤ z ∧ z + 6 ≤ X.1 ∧ X.1 ≤ 3072) (hI : Inv PM QL S) : StepR X z 272 S := by
  obtain ⟨r, S1, S2, h1, h2, hI2, hn, hw, -⟩ : PairAt PM QL X 99 167 [.int (Int32.ofInt (xw X (z + 1))), .int (Int32.ofInt (xw X (z + 2)))] S 900 := p_terms good2.g (xw_r X (z + 1)) (xw_r X (z + 2)) (by omega) hI
  obtain ⟨x, rfl⟩ := int_of h1 rfl
  have a1 : ∀ {M : zM} {k : Int32 → Option zR}, z_ald X none M 0 2 (Int32.ofInt z + 1) k = k (Int32.ofInt (xw X (z + 1))) := fun {M k} => by
    rw [show Int32.ofInt z + 1 = Int32.ofInt (z + 1) from Int32.ofInt_add z 1 ▸ rfl]; exact xw_at (by omega)
  have a2 : ∀ {M : zM} {k : Int32 → Option zR}, z_ald X none M 0 2 (Int32.ofInt z + 2) k = k (Int32.ofInt (xw X (z + 2))) := fun {M k} => by
    rw [show Int32.ofInt z + 2 = Int32.ofInt (z + 2) from Int32.ofInt_add z 2 ▸ rfl]; exact xw_at (by omega)
  have c1 : ∀ {cm cp : Nat} {L : zL} {st : List Value}, z_evc X 1000 99 [.ref 4, .int (Int32.ofInt (xw X (z + 1))), .int (Int32.ofInt (xw X (z + 2)))] (cm, cp, L, st, mk S) = z_ev X 1000 (cm, cp, L, .int x :: st, mk S1) := fun {cm cp L st} => z_evc_of (r := (some (.int x), mk S1)) (ck := (cm, cp, L, st, mk S)) (by omega) h1
  have c2 : ∀ {cm cp : Nat} {L : zL} {st : List Value}, z_evc X 1000 167 [.ref 72, .int (Int32.ofInt (xw X (z + 1))), .int (Int32.ofInt (xw X (z + 2)))] (cm, cp, L, st, mk S1) = z_ev X 1000 (cm, cp, L, .int x :: st, mk S2) := fun {cm cp L st} => z_evc_of (r := (some (.int x), mk S2)) (ck := (cm, cp, L, st, mk S1)) (by omega) h2
  refine ⟨S2, ?_, hI2, hn, hw⟩
  simp only [↓B283_272, ↓B283_286, ↓B283_300, a1, a2, ↓o_4, ↓o_72, c1, c2, ↓reduceIte]
theorem st283_3 (hz : 0 ≤ z ∧ z + 6 ≤ X.1 ∧ X.1 ≤ 3072) (hI : Inv PM QL S) : StepR X z 305 S := by
  obtain ⟨r, S1, S2, h1, h2, hI2, hn, hw, -⟩ : PairAt PM QL X 100 171 [.int (Int32.ofInt (xw X (z + 1))), .int (Int32.ofInt (xw X (z + 2))), .int (Int32.ofInt (xw X (z + 3))), .int (Int32.ofInt (xw X (z + 4))), .int (Int32.ofInt (xw X (z + 5)))] S 900 := p_feed good2.g (x1 := (xw X (z + 1))) (x2 := (xw X (z + 2))) (x3 := (xw X (z + 3))) (x4 := (xw X (z + 4))) (x5 := (xw X (z + 5))) (by omega) hI
  obtain ⟨x, rfl⟩ := int_of h1 rfl
  have a1 : ∀ {M : zM} {k : Int32 → Option zR}, z_ald X none M 0 2 (Int32.ofInt z + 1) k = k (Int32.ofInt (xw X (z + 1))) := fun {M k} => by
    rw [show Int32.ofInt z + 1 = Int32.ofInt (z + 1) from Int32.ofInt_add z 1 ▸ rfl]; exact xw_at (by omega)
  have a2 : ∀ {M : zM} {k : Int32 → Option zR}, z_ald X none M 0 2 (Int32.ofInt z + 2) k = k (Int32.ofInt (xw X (z + 2))) := fun {M k} => by
    rw [show Int32.ofInt z + 2 = Int32.ofInt (z + 2) from Int32.ofInt_add z 2 ▸ rfl]; exact xw_at (by omega)
  have a3 : ∀ {M : zM} {k : Int32 → Option zR}, z_ald X none M 0 2 (Int32.ofInt z + 3) k = k (Int32.ofInt (xw X (z + 3))) := fun {M k} => by
    rw [show Int32.ofInt z + 3 = Int32.ofInt (z + 3) from Int32.ofInt_add z 3 ▸ rfl]; exact xw_at (by omega)
  have a4 : ∀ {M : zM} {k : Int32 → Option zR}, z_ald X none M 0 2 (Int32.ofInt z + 4) k = k (Int32.ofInt (xw X (z + 4))) := fun {M k} => by
    rw [show Int32.ofInt z + 4 = Int32.ofInt (z + 4) from Int32.ofInt_add z 4 ▸ rfl]; exact xw_at (by omega)
  have a5 : ∀ {M : zM} {k : Int32 → Option zR}, z_ald X none M 0 2 (Int32.ofInt z + 5) k = k (Int32.ofInt (xw X (z + 5))) := fun {M k} => by
    rw [show Int32.ofInt z + 5 = Int32.ofInt (z + 5) from Int32.ofInt_add z 5 ▸ rfl]; exact xw_at (by omega)
  have c1 : ∀ {cm cp : Nat} {L : zL} {st : List Value}, z_evc X 1000 100 [.ref 4, .int (Int32.ofInt (xw X (z + 1))), .int (Int32.ofInt (xw X (z + 2))), .int (Int32.ofInt (xw X (z + 3))), .int (Int32.ofInt (xw X (z + 4))), .int (Int32.ofInt (xw X (z + 5)))] (cm, cp, L, st, mk S) = z_ev X 1000 (cm, cp, L, .int x :: st, mk S1) := fun {cm cp L st} => z_evc_of (r := (some (.int x), mk S1)) (ck := (cm, cp, L, st, mk S)) (by omega) h1
  have c2 : ∀ {cm cp : Nat} {L : zL} {st : List Value}, z_evc X 1000 171 [.ref 72, .int (Int32.ofInt (xw X (z + 1))), .int (Int32.ofInt (xw X (z + 2))), .int (Int32.ofInt (xw X (z + 3))), .int (Int32.ofInt (xw X (z + 4))), .int (Int32.ofInt (xw X (z + 5)))] (cm, cp, L, st, mk S1) = z_ev X 1000 (cm, cp, L, .int x :: st, mk S2) := fun {cm cp L st} => z_evc_of (r := (some (.int x), mk S2)) (ck := (cm, cp, L, st, mk S1)) (by omega) h2
  refine ⟨S2, ?_, hI2, hn, hw⟩
  simp only [↓B283_305, ↓B283_334, ↓B283_363, a1, a2, a3, a4, a5, ↓o_4, ↓o_72, c1, c2, ↓reduceIte]
theorem st283_4 (hz : 0 ≤ z ∧ z + 6 ≤ X.1 ∧ X.1 ≤ 3072) (hI : Inv PM QL S) : StepR X z 368 S := by
  obtain ⟨r, S1, S2, h1, h2, hI2, hn, hw, -⟩ : PairAt PM QL X 101 172 [.int (Int32.ofInt (xw X (z + 1)))] S 900 := p_end good2.g (xw_r X (z + 1)) hI
  obtain ⟨x, rfl⟩ := int_of h1 rfl
  have a1 : ∀ {M : zM} {k : Int32 → Option zR}, z_ald X none M 0 2 (Int32.ofInt z + 1) k = k (Int32.ofInt (xw X (z + 1))) := fun {M k} => by
    rw [show Int32.ofInt z + 1 = Int32.ofInt (z + 1) from Int32.ofInt_add z 1 ▸ rfl]; exact xw_at (by omega)
  have c1 : ∀ {cm cp : Nat} {L : zL} {st : List Value}, z_evc X 1000 101 [.ref 4, .int (Int32.ofInt (xw X (z + 1)))] (cm, cp, L, st, mk S) = z_ev X 1000 (cm, cp, L, .int x :: st, mk S1) := fun {cm cp L st} => z_evc_of (r := (some (.int x), mk S1)) (ck := (cm, cp, L, st, mk S)) (by omega) h1
  have c2 : ∀ {cm cp : Nat} {L : zL} {st : List Value}, z_evc X 1000 172 [.ref 72, .int (Int32.ofInt (xw X (z + 1)))] (cm, cp, L, st, mk S1) = z_ev X 1000 (cm, cp, L, .int x :: st, mk S2) := fun {cm cp L st} => z_evc_of (r := (some (.int x), mk S2)) (ck := (cm, cp, L, st, mk S1)) (by omega) h2
  refine ⟨S2, ?_, hI2, hn, hw⟩
  simp only [↓B283_368, ↓B283_377, ↓B283_386, a1, ↓o_4, ↓o_72, c1, c2, ↓reduceIte]
theorem st283_5 (hz : 0 ≤ z ∧ z + 6 ≤ X.1 ∧ X.1 ≤ 3072) (hI : Inv PM QL S) : StepR X z 391 S := by
  obtain ⟨r, S1, S2, h1, h2, hI2, hn, hw, -⟩ : PairAt PM QL X 102 168 [] S 900 := p_row good2.g (by omega) hI
  obtain ⟨x, rfl⟩ := int_of h1 rfl
  have c1 : ∀ {cm cp : Nat} {L : zL} {st : List Value}, z_evc X 1000 102 [.ref 4] (cm, cp, L, st, mk S) = z_ev X 1000 (cm, cp, L, .int x :: st, mk S1) := fun {cm cp L st} => z_evc_of (r := (some (.int x), mk S1)) (ck := (cm, cp, L, st, mk S)) (by omega) h1
  have c2 : ∀ {cm cp : Nat} {L : zL} {st : List Value}, z_evc X 1000 168 [.ref 72] (cm, cp, L, st, mk S1) = z_ev X 1000 (cm, cp, L, .int x :: st, mk S2) := fun {cm cp L st} => z_evc_of (r := (some (.int x), mk S2)) (ck := (cm, cp, L, st, mk S1)) (by omega) h2
  refine ⟨S2, ?_, hI2, hn, hw⟩
  simp only [↓B283_391, ↓B283_395, ↓B283_399, ↓o_4, ↓o_72, c1, c2, ↓reduceIte]
theorem st283_6 (hz : 0 ≤ z ∧ z + 6 ≤ X.1 ∧ X.1 ≤ 3072) (hI : Inv PM QL S) : StepR X z 404 S := by
  obtain ⟨r, S1, S2, h1, h2, hI2, hn, hw, -⟩ : PairAt PM QL X 103 169 [] S 900 := p_mutes good2.g hI
  obtain ⟨x, rfl⟩ := int_of h1 rfl
  have c1 : ∀ {cm cp : Nat} {L : zL} {st : List Value}, z_evc X 1000 103 [.ref 4] (cm, cp, L, st, mk S) = z_ev X 1000 (cm, cp, L, .int x :: st, mk S1) := fun {cm cp L st} => z_evc_of (r := (some (.int x), mk S1)) (ck := (cm, cp, L, st, mk S)) (by omega) h1
  have c2 : ∀ {cm cp : Nat} {L : zL} {st : List Value}, z_evc X 1000 169 [.ref 72] (cm, cp, L, st, mk S1) = z_ev X 1000 (cm, cp, L, .int x :: st, mk S2) := fun {cm cp L st} => z_evc_of (r := (some (.int x), mk S2)) (ck := (cm, cp, L, st, mk S1)) (by omega) h2
  refine ⟨S2, ?_, hI2, hn, hw⟩
  simp only [↓B283_404, ↓B283_408, ↓B283_412, ↓o_4, ↓o_72, c1, c2, ↓reduceIte]
theorem st283_7 (hz : 0 ≤ z ∧ z + 6 ≤ X.1 ∧ X.1 ≤ 3072) (hI : Inv PM QL S) : StepR X z 417 S := by
  obtain ⟨r, S1, S2, h1, h2, hI2, hn, hw, -⟩ : PairAt PM QL X 104 219 [] S 900 := p_metre good2 (by omega) hI
  obtain ⟨x, rfl⟩ := int_of h1 rfl
  have c1 : ∀ {cm cp : Nat} {L : zL} {st : List Value}, z_evc X 1000 104 [.ref 4] (cm, cp, L, st, mk S) = z_ev X 1000 (cm, cp, L, .int x :: st, mk S1) := fun {cm cp L st} => z_evc_of (r := (some (.int x), mk S1)) (ck := (cm, cp, L, st, mk S)) (by omega) h1
  have c2 : ∀ {cm cp : Nat} {L : zL} {st : List Value}, z_evc X 1000 219 [.ref 72] (cm, cp, L, st, mk S1) = z_ev X 1000 (cm, cp, L, .int x :: st, mk S2) := fun {cm cp L st} => z_evc_of (r := (some (.int x), mk S2)) (ck := (cm, cp, L, st, mk S1)) (by omega) h2
  refine ⟨S2, ?_, hI2, hn, hw⟩
  simp only [↓B283_417, ↓B283_421, ↓B283_425, ↓o_4, ↓o_72, c1, c2, ↓reduceIte]
theorem st283_8 (hz : 0 ≤ z ∧ z + 6 ≤ X.1 ∧ X.1 ≤ 3072) (hI : Inv PM QL S) : StepR X z 430 S := by
  obtain ⟨r, S1, S2, h1, h2, hI2, hn, hw, -⟩ : PairAt PM QL X 105 200 [] S 900 := p_law good2 (by omega) hI
  obtain ⟨x, rfl⟩ := int_of h1 rfl
  have c1 : ∀ {cm cp : Nat} {L : zL} {st : List Value}, z_evc X 1000 105 [.ref 4] (cm, cp, L, st, mk S) = z_ev X 1000 (cm, cp, L, .int x :: st, mk S1) := fun {cm cp L st} => z_evc_of (r := (some (.int x), mk S1)) (ck := (cm, cp, L, st, mk S)) (by omega) h1
  have c2 : ∀ {cm cp : Nat} {L : zL} {st : List Value}, z_evc X 1000 200 [.ref 72] (cm, cp, L, st, mk S1) = z_ev X 1000 (cm, cp, L, .int x :: st, mk S2) := fun {cm cp L st} => z_evc_of (r := (some (.int x), mk S2)) (ck := (cm, cp, L, st, mk S1)) (by omega) h2
  refine ⟨S2, ?_, hI2, hn, hw⟩
  simp only [↓B283_430, ↓B283_434, ↓B283_438, ↓o_4, ↓o_72, c1, c2, ↓reduceIte]
theorem st283_9 (hz : 0 ≤ z ∧ z + 6 ≤ X.1 ∧ X.1 ≤ 3072) (hI : Inv PM QL S) : StepR X z 443 S := by
  obtain ⟨r, S1, S2, h1, h2, hI2, hn, hw, -⟩ : PairAt PM QL X 106 264 [] S 900 := p_orders (by omega) hI
  obtain ⟨x, rfl⟩ := int_of h1 rfl
  have c1 : ∀ {cm cp : Nat} {L : zL} {st : List Value}, z_evc X 1000 106 [.ref 4] (cm, cp, L, st, mk S) = z_ev X 1000 (cm, cp, L, .int x :: st, mk S1) := fun {cm cp L st} => z_evc_of (r := (some (.int x), mk S1)) (ck := (cm, cp, L, st, mk S)) (by omega) h1
  have c2 : ∀ {cm cp : Nat} {L : zL} {st : List Value}, z_evc X 1000 264 [.ref 72] (cm, cp, L, st, mk S1) = z_ev X 1000 (cm, cp, L, .int x :: st, mk S2) := fun {cm cp L st} => z_evc_of (r := (some (.int x), mk S2)) (ck := (cm, cp, L, st, mk S1)) (by omega) h2
  refine ⟨S2, ?_, hI2, hn, hw⟩
  simp only [↓B283_443, ↓B283_447, ↓B283_451, ↓o_4, ↓o_72, c1, c2, ↓reduceIte]
theorem st283_10 (hz : 0 ≤ z ∧ z + 6 ≤ X.1 ∧ X.1 ≤ 3072) (hI : Inv PM QL S) : StepR X z 456 S := by
  obtain ⟨r, S1, S2, h1, h2, hI2, hn, hw, -⟩ : PairAt PM QL X 107 181 [] S 900 := p_fault good2.g hI
  obtain ⟨x, rfl⟩ := int_of h1 rfl
  have c1 : ∀ {cm cp : Nat} {L : zL} {st : List Value}, z_evc X 1000 107 [.ref 4] (cm, cp, L, st, mk S) = z_ev X 1000 (cm, cp, L, .int x :: st, mk S1) := fun {cm cp L st} => z_evc_of (r := (some (.int x), mk S1)) (ck := (cm, cp, L, st, mk S)) (by omega) h1
  have c2 : ∀ {cm cp : Nat} {L : zL} {st : List Value}, z_evc X 1000 181 [.ref 72] (cm, cp, L, st, mk S1) = z_ev X 1000 (cm, cp, L, .int x :: st, mk S2) := fun {cm cp L st} => z_evc_of (r := (some (.int x), mk S2)) (ck := (cm, cp, L, st, mk S1)) (by omega) h2
  refine ⟨S2, ?_, hI2, hn, hw⟩
  simp only [↓B283_456, ↓B283_460, ↓B283_464, ↓o_4, ↓o_72, c1, c2, ↓reduceIte]
theorem st283_11 (hz : 0 ≤ z ∧ z + 6 ≤ X.1 ∧ X.1 ≤ 3072) (hI : Inv PM QL S) : StepR X z 469 S := by
  obtain ⟨r, S1, S2, h1, h2, hI2, hn, hw, -⟩ : PairAt PM QL X 108 266 [] S 900 := p_stopped good2.g hI
  obtain ⟨x, rfl⟩ := int_of h1 rfl
  have c1 : ∀ {cm cp : Nat} {L : zL} {st : List Value}, z_evc X 1000 108 [.ref 4] (cm, cp, L, st, mk S) = z_ev X 1000 (cm, cp, L, .int x :: st, mk S1) := fun {cm cp L st} => z_evc_of (r := (some (.int x), mk S1)) (ck := (cm, cp, L, st, mk S)) (by omega) h1
  have c2 : ∀ {cm cp : Nat} {L : zL} {st : List Value}, z_evc X 1000 266 [.ref 72] (cm, cp, L, st, mk S1) = z_ev X 1000 (cm, cp, L, .int x :: st, mk S2) := fun {cm cp L st} => z_evc_of (r := (some (.int x), mk S2)) (ck := (cm, cp, L, st, mk S1)) (by omega) h2
  refine ⟨S2, ?_, hI2, hn, hw⟩
  simp only [↓B283_469, ↓B283_473, ↓B283_477, ↓o_4, ↓o_72, c1, c2, ↓reduceIte]
theorem st283_12 (hz : 0 ≤ z ∧ z + 6 ≤ X.1 ∧ X.1 ≤ 3072) (hI : Inv PM QL S) : StepR X z 482 S := by
  obtain ⟨r, S1, S2, h1, h2, hI2, hn, hw, -⟩ : PairAt PM QL X 109 202 [.int (Int32.ofInt (xw X (z + 1)))] S 900 := p_force good2.g (xw_r X (z + 1)) (by omega) hI
  obtain ⟨x, rfl⟩ := int_of h1 rfl
  have a1 : ∀ {M : zM} {k : Int32 → Option zR}, z_ald X none M 0 2 (Int32.ofInt z + 1) k = k (Int32.ofInt (xw X (z + 1))) := fun {M k} => by
    rw [show Int32.ofInt z + 1 = Int32.ofInt (z + 1) from Int32.ofInt_add z 1 ▸ rfl]; exact xw_at (by omega)
  have c1 : ∀ {cm cp : Nat} {L : zL} {st : List Value}, z_evc X 1000 109 [.ref 4, .int (Int32.ofInt (xw X (z + 1)))] (cm, cp, L, st, mk S) = z_ev X 1000 (cm, cp, L, .int x :: st, mk S1) := fun {cm cp L st} => z_evc_of (r := (some (.int x), mk S1)) (ck := (cm, cp, L, st, mk S)) (by omega) h1
  have c2 : ∀ {cm cp : Nat} {L : zL} {st : List Value}, z_evc X 1000 202 [.ref 72, .int (Int32.ofInt (xw X (z + 1)))] (cm, cp, L, st, mk S1) = z_ev X 1000 (cm, cp, L, .int x :: st, mk S2) := fun {cm cp L st} => z_evc_of (r := (some (.int x), mk S2)) (ck := (cm, cp, L, st, mk S1)) (by omega) h2
  refine ⟨S2, ?_, hI2, hn, hw⟩
  simp only [↓B283_482, ↓B283_491, ↓B283_500, a1, ↓o_4, ↓o_72, c1, c2, ↓reduceIte]
theorem st283_13 (hz : 0 ≤ z ∧ z + 6 ≤ X.1 ∧ X.1 ≤ 3072) (hI : Inv PM QL S) : StepR X z 505 S := by
  obtain ⟨r, S1, S2, h1, h2, hI2, hn, hw, -⟩ : PairAt PM QL X 110 245 [.int (Int32.ofInt (xw X (z + 1))), .int (Int32.ofInt (xw X (z + 2)))] S 900 := p_weigh good2.g (xw_r X (z + 1)) (xw_r X (z + 2)) (by omega) hI
  obtain ⟨x, rfl⟩ := int_of h1 rfl
  have a1 : ∀ {M : zM} {k : Int32 → Option zR}, z_ald X none M 0 2 (Int32.ofInt z + 1) k = k (Int32.ofInt (xw X (z + 1))) := fun {M k} => by
    rw [show Int32.ofInt z + 1 = Int32.ofInt (z + 1) from Int32.ofInt_add z 1 ▸ rfl]; exact xw_at (by omega)
  have a2 : ∀ {M : zM} {k : Int32 → Option zR}, z_ald X none M 0 2 (Int32.ofInt z + 2) k = k (Int32.ofInt (xw X (z + 2))) := fun {M k} => by
    rw [show Int32.ofInt z + 2 = Int32.ofInt (z + 2) from Int32.ofInt_add z 2 ▸ rfl]; exact xw_at (by omega)
  have c1 : ∀ {cm cp : Nat} {L : zL} {st : List Value}, z_evc X 1000 110 [.ref 4, .int (Int32.ofInt (xw X (z + 1))), .int (Int32.ofInt (xw X (z + 2)))] (cm, cp, L, st, mk S) = z_ev X 1000 (cm, cp, L, .int x :: st, mk S1) := fun {cm cp L st} => z_evc_of (r := (some (.int x), mk S1)) (ck := (cm, cp, L, st, mk S)) (by omega) h1
  have c2 : ∀ {cm cp : Nat} {L : zL} {st : List Value}, z_evc X 1000 245 [.ref 72, .int (Int32.ofInt (xw X (z + 1))), .int (Int32.ofInt (xw X (z + 2)))] (cm, cp, L, st, mk S1) = z_ev X 1000 (cm, cp, L, .int x :: st, mk S2) := fun {cm cp L st} => z_evc_of (r := (some (.int x), mk S2)) (ck := (cm, cp, L, st, mk S1)) (by omega) h2
  refine ⟨S2, ?_, hI2, hn, hw⟩
  simp only [↓B283_505, ↓B283_519, ↓B283_533, a1, a2, ↓o_4, ↓o_72, c1, c2, ↓reduceIte]
theorem st283_14 (hz : 0 ≤ z ∧ z + 6 ≤ X.1 ∧ X.1 ≤ 3072) (hI : Inv PM QL S) : StepR X z 538 S := by
  obtain ⟨r, S1, S2, h1, h2, hI2, hn, hw, -⟩ : PairAt PM QL X 111 247 [.int (Int32.ofInt (xw X (z + 1)))] S 900 := p_ends good2.g (xw_r X (z + 1)) (by omega) hI
  obtain ⟨x, rfl⟩ := int_of h1 rfl
  have a1 : ∀ {M : zM} {k : Int32 → Option zR}, z_ald X none M 0 2 (Int32.ofInt z + 1) k = k (Int32.ofInt (xw X (z + 1))) := fun {M k} => by
    rw [show Int32.ofInt z + 1 = Int32.ofInt (z + 1) from Int32.ofInt_add z 1 ▸ rfl]; exact xw_at (by omega)
  have c1 : ∀ {cm cp : Nat} {L : zL} {st : List Value}, z_evc X 1000 111 [.ref 4, .int (Int32.ofInt (xw X (z + 1)))] (cm, cp, L, st, mk S) = z_ev X 1000 (cm, cp, L, .int x :: st, mk S1) := fun {cm cp L st} => z_evc_of (r := (some (.int x), mk S1)) (ck := (cm, cp, L, st, mk S)) (by omega) h1
  have c2 : ∀ {cm cp : Nat} {L : zL} {st : List Value}, z_evc X 1000 247 [.ref 72, .int (Int32.ofInt (xw X (z + 1)))] (cm, cp, L, st, mk S1) = z_ev X 1000 (cm, cp, L, .int x :: st, mk S2) := fun {cm cp L st} => z_evc_of (r := (some (.int x), mk S2)) (ck := (cm, cp, L, st, mk S1)) (by omega) h2
  refine ⟨S2, ?_, hI2, hn, hw⟩
  simp only [↓B283_538, ↓B283_547, ↓B283_556, a1, ↓o_4, ↓o_72, c1, c2, ↓reduceIte]
theorem st283_15 (hz : 0 ≤ z ∧ z + 6 ≤ X.1 ∧ X.1 ≤ 3072) (hI : Inv PM QL S) : StepR X z 561 S := by
  obtain ⟨r, S1, S2, h1, h2, hI2, hn, hw, -⟩ : PairAt PM QL X 112 248 [.int (Int32.ofInt (xw X (z + 1)))] S 900 := p_meets good2.g (xw_r X (z + 1)) (by omega) hI
  obtain ⟨x, rfl⟩ := int_of h1 rfl
  have a1 : ∀ {M : zM} {k : Int32 → Option zR}, z_ald X none M 0 2 (Int32.ofInt z + 1) k = k (Int32.ofInt (xw X (z + 1))) := fun {M k} => by
    rw [show Int32.ofInt z + 1 = Int32.ofInt (z + 1) from Int32.ofInt_add z 1 ▸ rfl]; exact xw_at (by omega)
  have c1 : ∀ {cm cp : Nat} {L : zL} {st : List Value}, z_evc X 1000 112 [.ref 4, .int (Int32.ofInt (xw X (z + 1)))] (cm, cp, L, st, mk S) = z_ev X 1000 (cm, cp, L, .int x :: st, mk S1) := fun {cm cp L st} => z_evc_of (r := (some (.int x), mk S1)) (ck := (cm, cp, L, st, mk S)) (by omega) h1
  have c2 : ∀ {cm cp : Nat} {L : zL} {st : List Value}, z_evc X 1000 248 [.ref 72, .int (Int32.ofInt (xw X (z + 1)))] (cm, cp, L, st, mk S1) = z_ev X 1000 (cm, cp, L, .int x :: st, mk S2) := fun {cm cp L st} => z_evc_of (r := (some (.int x), mk S2)) (ck := (cm, cp, L, st, mk S1)) (by omega) h2
  refine ⟨S2, ?_, hI2, hn, hw⟩
  simp only [↓B283_561, ↓B283_570, ↓B283_579, a1, ↓o_4, ↓o_72, c1, c2, ↓reduceIte]
theorem st283_16 (hz : 0 ≤ z ∧ z + 6 ≤ X.1 ∧ X.1 ≤ 3072) (hI : Inv PM QL S) : StepR X z 584 S := by
  obtain ⟨r, S1, S2, h1, h2, hI2, hn, hw, -⟩ : PairAt PM QL X 113 250 [] S 900 := p_pass (by omega) hI
  obtain ⟨x, rfl⟩ := int_of h1 rfl
  have c1 : ∀ {cm cp : Nat} {L : zL} {st : List Value}, z_evc X 1000 113 [.ref 4] (cm, cp, L, st, mk S) = z_ev X 1000 (cm, cp, L, .int x :: st, mk S1) := fun {cm cp L st} => z_evc_of (r := (some (.int x), mk S1)) (ck := (cm, cp, L, st, mk S)) (by omega) h1
  have c2 : ∀ {cm cp : Nat} {L : zL} {st : List Value}, z_evc X 1000 250 [.ref 72] (cm, cp, L, st, mk S1) = z_ev X 1000 (cm, cp, L, .int x :: st, mk S2) := fun {cm cp L st} => z_evc_of (r := (some (.int x), mk S2)) (ck := (cm, cp, L, st, mk S1)) (by omega) h2
  refine ⟨S2, ?_, hI2, hn, hw⟩
  simp only [↓B283_584, ↓B283_588, ↓B283_592, ↓o_4, ↓o_72, c1, c2, ↓reduceIte]
theorem st283_17 (hz : 0 ≤ z ∧ z + 6 ≤ X.1 ∧ X.1 ≤ 3072) (hI : Inv PM QL S) : StepR X z 597 S := by
  obtain ⟨r, S1, S2, h1, h2, hI2, hn, hw, -⟩ : PairAt PM QL X 114 159 [] S 900 := p_undo good2.g (by omega) hI
  obtain ⟨x, rfl⟩ := int_of h1 rfl
  have c1 : ∀ {cm cp : Nat} {L : zL} {st : List Value}, z_evc X 1000 114 [.ref 4] (cm, cp, L, st, mk S) = z_ev X 1000 (cm, cp, L, .int x :: st, mk S1) := fun {cm cp L st} => z_evc_of (r := (some (.int x), mk S1)) (ck := (cm, cp, L, st, mk S)) (by omega) h1
  have c2 : ∀ {cm cp : Nat} {L : zL} {st : List Value}, z_evc X 1000 159 [.ref 72] (cm, cp, L, st, mk S1) = z_ev X 1000 (cm, cp, L, .int x :: st, mk S2) := fun {cm cp L st} => z_evc_of (r := (some (.int x), mk S2)) (ck := (cm, cp, L, st, mk S1)) (by omega) h2
  refine ⟨S2, ?_, hI2, hn, hw⟩
  simp only [↓B283_597, ↓B283_601, ↓B283_605, ↓o_4, ↓o_72, c1, c2, ↓reduceIte]
theorem st283_18 (hz : 0 ≤ z ∧ z + 6 ≤ X.1 ∧ X.1 ≤ 3072) (hI : Inv PM QL S) : StepR X z 610 S := by
  obtain ⟨r, S1, S2, h1, h2, hI2, hn, hw, -⟩ : PairAt PM QL X 115 233 [.int (Int32.ofInt (xw X (z + 1)))] S 900 := p_steps (xw_r X (z + 1)) (by omega) hI
  obtain ⟨x, rfl⟩ := int_of h1 rfl
  have a1 : ∀ {M : zM} {k : Int32 → Option zR}, z_ald X none M 0 2 (Int32.ofInt z + 1) k = k (Int32.ofInt (xw X (z + 1))) := fun {M k} => by
    rw [show Int32.ofInt z + 1 = Int32.ofInt (z + 1) from Int32.ofInt_add z 1 ▸ rfl]; exact xw_at (by omega)
  have c1 : ∀ {cm cp : Nat} {L : zL} {st : List Value}, z_evc X 1000 115 [.ref 4, .int (Int32.ofInt (xw X (z + 1)))] (cm, cp, L, st, mk S) = z_ev X 1000 (cm, cp, L, .int x :: st, mk S1) := fun {cm cp L st} => z_evc_of (r := (some (.int x), mk S1)) (ck := (cm, cp, L, st, mk S)) (by omega) h1
  have c2 : ∀ {cm cp : Nat} {L : zL} {st : List Value}, z_evc X 1000 233 [.ref 72, .int (Int32.ofInt (xw X (z + 1)))] (cm, cp, L, st, mk S1) = z_ev X 1000 (cm, cp, L, .int x :: st, mk S2) := fun {cm cp L st} => z_evc_of (r := (some (.int x), mk S2)) (ck := (cm, cp, L, st, mk S1)) (by omega) h2
  refine ⟨S2, ?_, hI2, hn, hw⟩
  simp only [↓B283_610, ↓B283_619, ↓B283_628, a1, ↓o_4, ↓o_72, c1, c2, ↓reduceIte]
theorem st283_19 (hz : 0 ≤ z ∧ z + 6 ≤ X.1 ∧ X.1 ≤ 3072) (hI : Inv PM QL S) : StepR X z 633 S := by
  obtain ⟨r, S1, S2, h1, h2, hI2, hn, hw, -⟩ : PairAt PM QL X 116 234 [.int (Int32.ofInt (xw X (z + 1))), .int (Int32.ofInt (xw X (z + 2)))] S 900 := p_best (m := (xw X (z + 1))) (i := (xw X (z + 2))) (xw_r X (z + 1)) (xw_r X (z + 2)) (by omega) hI
  obtain ⟨x, rfl⟩ := int_of h1 rfl
  have a1 : ∀ {M : zM} {k : Int32 → Option zR}, z_ald X none M 0 2 (Int32.ofInt z + 1) k = k (Int32.ofInt (xw X (z + 1))) := fun {M k} => by
    rw [show Int32.ofInt z + 1 = Int32.ofInt (z + 1) from Int32.ofInt_add z 1 ▸ rfl]; exact xw_at (by omega)
  have a2 : ∀ {M : zM} {k : Int32 → Option zR}, z_ald X none M 0 2 (Int32.ofInt z + 2) k = k (Int32.ofInt (xw X (z + 2))) := fun {M k} => by
    rw [show Int32.ofInt z + 2 = Int32.ofInt (z + 2) from Int32.ofInt_add z 2 ▸ rfl]; exact xw_at (by omega)
  have c1 : ∀ {cm cp : Nat} {L : zL} {st : List Value}, z_evc X 1000 116 [.ref 4, .int (Int32.ofInt (xw X (z + 1))), .int (Int32.ofInt (xw X (z + 2)))] (cm, cp, L, st, mk S) = z_ev X 1000 (cm, cp, L, .int x :: st, mk S1) := fun {cm cp L st} => z_evc_of (r := (some (.int x), mk S1)) (ck := (cm, cp, L, st, mk S)) (by omega) h1
  have c2 : ∀ {cm cp : Nat} {L : zL} {st : List Value}, z_evc X 1000 234 [.ref 72, .int (Int32.ofInt (xw X (z + 1))), .int (Int32.ofInt (xw X (z + 2)))] (cm, cp, L, st, mk S1) = z_ev X 1000 (cm, cp, L, .int x :: st, mk S2) := fun {cm cp L st} => z_evc_of (r := (some (.int x), mk S2)) (ck := (cm, cp, L, st, mk S1)) (by omega) h2
  refine ⟨S2, ?_, hI2, hn, hw⟩
  simp only [↓B283_633, ↓B283_647, ↓B283_661, a1, a2, ↓o_4, ↓o_72, c1, c2, ↓reduceIte]
theorem st283_20 (hz : 0 ≤ z ∧ z + 6 ≤ X.1 ∧ X.1 ≤ 3072) (hI : Inv PM QL S) : StepR X z 666 S := by
  obtain ⟨r, S1, S2, h1, h2, hI2, hn, hw, -⟩ : PairAt PM QL X 117 235 [.int (Int32.ofInt (xw X (z + 1)))] S 900 := p_elisions (xw_r X (z + 1)) (by omega) hI
  obtain ⟨x, rfl⟩ := int_of h1 rfl
  have a1 : ∀ {M : zM} {k : Int32 → Option zR}, z_ald X none M 0 2 (Int32.ofInt z + 1) k = k (Int32.ofInt (xw X (z + 1))) := fun {M k} => by
    rw [show Int32.ofInt z + 1 = Int32.ofInt (z + 1) from Int32.ofInt_add z 1 ▸ rfl]; exact xw_at (by omega)
  have c1 : ∀ {cm cp : Nat} {L : zL} {st : List Value}, z_evc X 1000 117 [.ref 4, .int (Int32.ofInt (xw X (z + 1)))] (cm, cp, L, st, mk S) = z_ev X 1000 (cm, cp, L, .int x :: st, mk S1) := fun {cm cp L st} => z_evc_of (r := (some (.int x), mk S1)) (ck := (cm, cp, L, st, mk S)) (by omega) h1
  have c2 : ∀ {cm cp : Nat} {L : zL} {st : List Value}, z_evc X 1000 235 [.ref 72, .int (Int32.ofInt (xw X (z + 1)))] (cm, cp, L, st, mk S1) = z_ev X 1000 (cm, cp, L, .int x :: st, mk S2) := fun {cm cp L st} => z_evc_of (r := (some (.int x), mk S2)) (ck := (cm, cp, L, st, mk S1)) (by omega) h2
  refine ⟨S2, ?_, hI2, hn, hw⟩
  simp only [↓B283_666, ↓B283_675, ↓B283_684, a1, ↓o_4, ↓o_72, c1, c2, ↓reduceIte]
theorem st283_21 (hz : 0 ≤ z ∧ z + 6 ≤ X.1 ∧ X.1 ≤ 3072) (hI : Inv PM QL S) : StepR X z 689 S := by
  obtain ⟨r, S1, S2, h1, h2, hI2, hn, hw, -⟩ : PairAt PM QL X 118 236 [.int (Int32.ofInt (xw X (z + 1)))] S 900 := p_mend (xw_r X (z + 1)) (by omega) hI
  obtain ⟨x, rfl⟩ := int_of h1 rfl
  have a1 : ∀ {M : zM} {k : Int32 → Option zR}, z_ald X none M 0 2 (Int32.ofInt z + 1) k = k (Int32.ofInt (xw X (z + 1))) := fun {M k} => by
    rw [show Int32.ofInt z + 1 = Int32.ofInt (z + 1) from Int32.ofInt_add z 1 ▸ rfl]; exact xw_at (by omega)
  have c1 : ∀ {cm cp : Nat} {L : zL} {st : List Value}, z_evc X 1000 118 [.ref 4, .int (Int32.ofInt (xw X (z + 1)))] (cm, cp, L, st, mk S) = z_ev X 1000 (cm, cp, L, .int x :: st, mk S1) := fun {cm cp L st} => z_evc_of (r := (some (.int x), mk S1)) (ck := (cm, cp, L, st, mk S)) (by omega) h1
  have c2 : ∀ {cm cp : Nat} {L : zL} {st : List Value}, z_evc X 1000 236 [.ref 72, .int (Int32.ofInt (xw X (z + 1)))] (cm, cp, L, st, mk S1) = z_ev X 1000 (cm, cp, L, .int x :: st, mk S2) := fun {cm cp L st} => z_evc_of (r := (some (.int x), mk S2)) (ck := (cm, cp, L, st, mk S1)) (by omega) h2
  refine ⟨S2, ?_, hI2, hn, hw⟩
  simp only [↓B283_689, ↓B283_698, ↓B283_707, a1, ↓o_4, ↓o_72, c1, c2, ↓reduceIte]
theorem st283_22 (hz : 0 ≤ z ∧ z + 6 ≤ X.1 ∧ X.1 ≤ 3072) (hI : Inv PM QL S) : StepR X z 712 S := by
  obtain ⟨r, S1, S2, h1, h2, hI2, hn, hw, -⟩ : PairAt PM QL X 119 238 [.int (Int32.ofInt (xw X (z + 1)))] S 900 := p_reach (xw_r X (z + 1)) (by omega) hI
  obtain ⟨x, rfl⟩ := int_of h1 rfl
  have a1 : ∀ {M : zM} {k : Int32 → Option zR}, z_ald X none M 0 2 (Int32.ofInt z + 1) k = k (Int32.ofInt (xw X (z + 1))) := fun {M k} => by
    rw [show Int32.ofInt z + 1 = Int32.ofInt (z + 1) from Int32.ofInt_add z 1 ▸ rfl]; exact xw_at (by omega)
  have c1 : ∀ {cm cp : Nat} {L : zL} {st : List Value}, z_evc X 1000 119 [.ref 4, .int (Int32.ofInt (xw X (z + 1)))] (cm, cp, L, st, mk S) = z_ev X 1000 (cm, cp, L, .int x :: st, mk S1) := fun {cm cp L st} => z_evc_of (r := (some (.int x), mk S1)) (ck := (cm, cp, L, st, mk S)) (by omega) h1
  have c2 : ∀ {cm cp : Nat} {L : zL} {st : List Value}, z_evc X 1000 238 [.ref 72, .int (Int32.ofInt (xw X (z + 1)))] (cm, cp, L, st, mk S1) = z_ev X 1000 (cm, cp, L, .int x :: st, mk S2) := fun {cm cp L st} => z_evc_of (r := (some (.int x), mk S2)) (ck := (cm, cp, L, st, mk S1)) (by omega) h2
  refine ⟨S2, ?_, hI2, hn, hw⟩
  simp only [↓B283_712, ↓B283_721, ↓B283_730, a1, ↓o_4, ↓o_72, c1, c2, ↓reduceIte]
theorem st283_23 (hz : 0 ≤ z ∧ z + 6 ≤ X.1 ∧ X.1 ≤ 3072) (hI : Inv PM QL S) : StepR X z 735 S := by
  obtain ⟨r, S1, S2, h1, h2, hI2, hn, hw, -⟩ : PairAt PM QL X 120 239 [.int (Int32.ofInt (xw X (z + 1))), .int (Int32.ofInt (xw X (z + 2)))] S 900 := p_length (m := (xw X (z + 1))) (w := (xw X (z + 2))) (xw_r X (z + 1)) (xw_r X (z + 2)) (by omega) hI
  obtain ⟨x, rfl⟩ := int_of h1 rfl
  have a1 : ∀ {M : zM} {k : Int32 → Option zR}, z_ald X none M 0 2 (Int32.ofInt z + 1) k = k (Int32.ofInt (xw X (z + 1))) := fun {M k} => by
    rw [show Int32.ofInt z + 1 = Int32.ofInt (z + 1) from Int32.ofInt_add z 1 ▸ rfl]; exact xw_at (by omega)
  have a2 : ∀ {M : zM} {k : Int32 → Option zR}, z_ald X none M 0 2 (Int32.ofInt z + 2) k = k (Int32.ofInt (xw X (z + 2))) := fun {M k} => by
    rw [show Int32.ofInt z + 2 = Int32.ofInt (z + 2) from Int32.ofInt_add z 2 ▸ rfl]; exact xw_at (by omega)
  have c1 : ∀ {cm cp : Nat} {L : zL} {st : List Value}, z_evc X 1000 120 [.ref 4, .int (Int32.ofInt (xw X (z + 1))), .int (Int32.ofInt (xw X (z + 2)))] (cm, cp, L, st, mk S) = z_ev X 1000 (cm, cp, L, .int x :: st, mk S1) := fun {cm cp L st} => z_evc_of (r := (some (.int x), mk S1)) (ck := (cm, cp, L, st, mk S)) (by omega) h1
  have c2 : ∀ {cm cp : Nat} {L : zL} {st : List Value}, z_evc X 1000 239 [.ref 72, .int (Int32.ofInt (xw X (z + 1))), .int (Int32.ofInt (xw X (z + 2)))] (cm, cp, L, st, mk S1) = z_ev X 1000 (cm, cp, L, .int x :: st, mk S2) := fun {cm cp L st} => z_evc_of (r := (some (.int x), mk S2)) (ck := (cm, cp, L, st, mk S1)) (by omega) h2
  refine ⟨S2, ?_, hI2, hn, hw⟩
  simp only [↓B283_735, ↓B283_749, ↓B283_763, a1, a2, ↓o_4, ↓o_72, c1, c2, ↓reduceIte]
theorem st283_24 (hz : 0 ≤ z ∧ z + 6 ≤ X.1 ∧ X.1 ≤ 3072) (hI : Inv PM QL S) : StepR X z 768 S := by
  obtain ⟨r, S1, S2, h1, h2, hI2, hn, hw, -⟩ : PairAt PM QL X 121 242 [] S 900 := p_fits (by omega) hI
  obtain ⟨x, rfl⟩ := int_of h1 rfl
  have c1 : ∀ {cm cp : Nat} {L : zL} {st : List Value}, z_evc X 1000 121 [.ref 4] (cm, cp, L, st, mk S) = z_ev X 1000 (cm, cp, L, .int x :: st, mk S1) := fun {cm cp L st} => z_evc_of (r := (some (.int x), mk S1)) (ck := (cm, cp, L, st, mk S)) (by omega) h1
  have c2 : ∀ {cm cp : Nat} {L : zL} {st : List Value}, z_evc X 1000 242 [.ref 72] (cm, cp, L, st, mk S1) = z_ev X 1000 (cm, cp, L, .int x :: st, mk S2) := fun {cm cp L st} => z_evc_of (r := (some (.int x), mk S2)) (ck := (cm, cp, L, st, mk S1)) (by omega) h2
  refine ⟨S2, ?_, hI2, hn, hw⟩
  simp only [↓B283_768, ↓B283_772, ↓B283_776, ↓o_4, ↓o_72, c1, c2, ↓reduceIte]
theorem st283_25 (hz : 0 ≤ z ∧ z + 6 ≤ X.1 ∧ X.1 ≤ 3072) (hI : Inv PM QL S) : StepR X z 781 S := by
  obtain ⟨r, S1, S2, h1, h2, hI2, hn, hw, -⟩ : PairAt PM QL X 122 251 [.int (Int32.ofInt (xw X (z + 1))), .int (Int32.ofInt (xw X (z + 2)))] S 900 := p_heard good2.g (xw_r X (z + 1)) (xw_r X (z + 2)) (by omega) hI
  obtain ⟨x, rfl⟩ := int_of h1 rfl
  have a1 : ∀ {M : zM} {k : Int32 → Option zR}, z_ald X none M 0 2 (Int32.ofInt z + 1) k = k (Int32.ofInt (xw X (z + 1))) := fun {M k} => by
    rw [show Int32.ofInt z + 1 = Int32.ofInt (z + 1) from Int32.ofInt_add z 1 ▸ rfl]; exact xw_at (by omega)
  have a2 : ∀ {M : zM} {k : Int32 → Option zR}, z_ald X none M 0 2 (Int32.ofInt z + 2) k = k (Int32.ofInt (xw X (z + 2))) := fun {M k} => by
    rw [show Int32.ofInt z + 2 = Int32.ofInt (z + 2) from Int32.ofInt_add z 2 ▸ rfl]; exact xw_at (by omega)
  have c1 : ∀ {cm cp : Nat} {L : zL} {st : List Value}, z_evc X 1000 122 [.ref 4, .int (Int32.ofInt (xw X (z + 1))), .int (Int32.ofInt (xw X (z + 2)))] (cm, cp, L, st, mk S) = z_ev X 1000 (cm, cp, L, .int x :: st, mk S1) := fun {cm cp L st} => z_evc_of (r := (some (.int x), mk S1)) (ck := (cm, cp, L, st, mk S)) (by omega) h1
  have c2 : ∀ {cm cp : Nat} {L : zL} {st : List Value}, z_evc X 1000 251 [.ref 72, .int (Int32.ofInt (xw X (z + 1))), .int (Int32.ofInt (xw X (z + 2)))] (cm, cp, L, st, mk S1) = z_ev X 1000 (cm, cp, L, .int x :: st, mk S2) := fun {cm cp L st} => z_evc_of (r := (some (.int x), mk S2)) (ck := (cm, cp, L, st, mk S1)) (by omega) h2
  refine ⟨S2, ?_, hI2, hn, hw⟩
  simp only [↓B283_781, ↓B283_795, ↓B283_809, a1, a2, ↓o_4, ↓o_72, c1, c2, ↓reduceIte]
theorem st283_26 (hz : 0 ≤ z ∧ z + 6 ≤ X.1 ∧ X.1 ≤ 3072) (hI : Inv PM QL S) : StepR X z 814 S := by
  obtain ⟨r, S1, S2, h1, h2, hI2, hn, hw, -⟩ : PairAt PM QL X 123 252 [] S 900 := p_forget good2.g hI
  obtain ⟨x, rfl⟩ := int_of h1 rfl
  have c1 : ∀ {cm cp : Nat} {L : zL} {st : List Value}, z_evc X 1000 123 [.ref 4] (cm, cp, L, st, mk S) = z_ev X 1000 (cm, cp, L, .int x :: st, mk S1) := fun {cm cp L st} => z_evc_of (r := (some (.int x), mk S1)) (ck := (cm, cp, L, st, mk S)) (by omega) h1
  have c2 : ∀ {cm cp : Nat} {L : zL} {st : List Value}, z_evc X 1000 252 [.ref 72] (cm, cp, L, st, mk S1) = z_ev X 1000 (cm, cp, L, .int x :: st, mk S2) := fun {cm cp L st} => z_evc_of (r := (some (.int x), mk S2)) (ck := (cm, cp, L, st, mk S1)) (by omega) h2
  refine ⟨S2, ?_, hI2, hn, hw⟩
  simp only [↓B283_814, ↓B283_818, ↓B283_822, ↓o_4, ↓o_72, c1, c2, ↓reduceIte]
theorem st283_27 (hz : 0 ≤ z ∧ z + 6 ≤ X.1 ∧ X.1 ≤ 3072) (hI : Inv PM QL S) : StepR X z 827 S := by
  obtain ⟨r, S1, S2, h1, h2, hI2, hn, hw, -⟩ : PairAt PM QL X 124 255 [] S 900 := p_canBe (by omega) hI
  obtain ⟨x, rfl⟩ := int_of h1 rfl
  have c1 : ∀ {cm cp : Nat} {L : zL} {st : List Value}, z_evc X 1000 124 [.ref 4] (cm, cp, L, st, mk S) = z_ev X 1000 (cm, cp, L, .int x :: st, mk S1) := fun {cm cp L st} => z_evc_of (r := (some (.int x), mk S1)) (ck := (cm, cp, L, st, mk S)) (by omega) h1
  have c2 : ∀ {cm cp : Nat} {L : zL} {st : List Value}, z_evc X 1000 255 [.ref 72] (cm, cp, L, st, mk S1) = z_ev X 1000 (cm, cp, L, .int x :: st, mk S2) := fun {cm cp L st} => z_evc_of (r := (some (.int x), mk S2)) (ck := (cm, cp, L, st, mk S1)) (by omega) h2
  refine ⟨S2, ?_, hI2, hn, hw⟩
  simp only [↓B283_827, ↓B283_831, ↓B283_835, ↓o_4, ↓o_72, c1, c2, ↓reduceIte]
theorem st283_28 (hz : 0 ≤ z ∧ z + 6 ≤ X.1 ∧ X.1 ≤ 3072) (hI : Inv PM QL S) : StepR X z 840 S := by
  obtain ⟨r, S1, S2, h1, h2, hI2, hn, hw, -⟩ : PairAt PM QL X 125 257 [.int (Int32.ofInt (xw X (z + 1)))] S 900 := p_listen (xw_r X (z + 1)) (by omega) hI
  obtain ⟨x, rfl⟩ := int_of h1 rfl
  have a1 : ∀ {M : zM} {k : Int32 → Option zR}, z_ald X none M 0 2 (Int32.ofInt z + 1) k = k (Int32.ofInt (xw X (z + 1))) := fun {M k} => by
    rw [show Int32.ofInt z + 1 = Int32.ofInt (z + 1) from Int32.ofInt_add z 1 ▸ rfl]; exact xw_at (by omega)
  have c1 : ∀ {cm cp : Nat} {L : zL} {st : List Value}, z_evc X 1000 125 [.ref 4, .int (Int32.ofInt (xw X (z + 1)))] (cm, cp, L, st, mk S) = z_ev X 1000 (cm, cp, L, .int x :: st, mk S1) := fun {cm cp L st} => z_evc_of (r := (some (.int x), mk S1)) (ck := (cm, cp, L, st, mk S)) (by omega) h1
  have c2 : ∀ {cm cp : Nat} {L : zL} {st : List Value}, z_evc X 1000 257 [.ref 72, .int (Int32.ofInt (xw X (z + 1)))] (cm, cp, L, st, mk S1) = z_ev X 1000 (cm, cp, L, .int x :: st, mk S2) := fun {cm cp L st} => z_evc_of (r := (some (.int x), mk S2)) (ck := (cm, cp, L, st, mk S1)) (by omega) h2
  refine ⟨S2, ?_, hI2, hn, hw⟩
  simp only [↓B283_840, ↓B283_849, ↓B283_858, a1, ↓o_4, ↓o_72, c1, c2, ↓reduceIte]
theorem st283_29 (hz : 0 ≤ z ∧ z + 6 ≤ X.1 ∧ X.1 ≤ 3072) (hI : Inv PM QL S) : StepR X z 863 S := by
  obtain ⟨r, S1, S2, h1, h2, hI2, hn, hw, -⟩ : PairAt PM QL X 126 258 [.int (Int32.ofInt (xw X (z + 1))), .int (Int32.ofInt (xw X (z + 2)))] S 900 := p_few good2.g (xw_r X (z + 1)) (xw_r X (z + 2)) (by omega) hI
  have hx : ∃ x, r = .long x := by
    obtain ⟨-, -, -, -, -, b6, -⟩ := id hI.1
    simp only [Nat.reduceAdd] at b6
    by_cases q : 1 ≤ xw X (z + 1) ∧ xw X (z + 1) ≤ 20 ∧ 0 ≤ xw X (z + 2) ∧ xw X (z + 2) ≤ 99
    · obtain ⟨S9, a9, -⟩ := x126 (X := X) (d := 900) (S := S) (by omega) (k := xw X (z + 1)) (n := xw X (z + 2)) (by omega) (by omega) b6.2.1 (by omega)
      have h9 := h1.symm.trans a9
      injection h9 with h9
      injection h9 with h9 _
      injection h9 with h9
      exact ⟨_, h9⟩
    · have h9 := h1.symm.trans (e126a (X := X) (d := 900) (S := S) (by omega) (xw X (z + 1)) (xw X (z + 2)) (xw_r _ _) (xw_r _ _) q)
      injection h9 with h9
      injection h9 with h9 _
      injection h9 with h9
      exact ⟨_, h9⟩
  obtain ⟨x, rfl⟩ := hx
  have a1 : ∀ {M : zM} {k : Int32 → Option zR}, z_ald X none M 0 2 (Int32.ofInt z + 1) k = k (Int32.ofInt (xw X (z + 1))) := fun {M k} => by
    rw [show Int32.ofInt z + 1 = Int32.ofInt (z + 1) from Int32.ofInt_add z 1 ▸ rfl]; exact xw_at (by omega)
  have a2 : ∀ {M : zM} {k : Int32 → Option zR}, z_ald X none M 0 2 (Int32.ofInt z + 2) k = k (Int32.ofInt (xw X (z + 2))) := fun {M k} => by
    rw [show Int32.ofInt z + 2 = Int32.ofInt (z + 2) from Int32.ofInt_add z 2 ▸ rfl]; exact xw_at (by omega)
  have c1 : ∀ {cm cp : Nat} {L : zL} {st : List Value}, z_evc X 1000 126 [.ref 4, .int (Int32.ofInt (xw X (z + 1))), .int (Int32.ofInt (xw X (z + 2)))] (cm, cp, L, st, mk S) = z_ev X 1000 (cm, cp, L, .long x :: st, mk S1) := fun {cm cp L st} => z_evc_of (r := (some (.long x), mk S1)) (ck := (cm, cp, L, st, mk S)) (by omega) h1
  have c2 : ∀ {cm cp : Nat} {L : zL} {st : List Value}, z_evc X 1000 258 [.ref 72, .int (Int32.ofInt (xw X (z + 1))), .int (Int32.ofInt (xw X (z + 2)))] (cm, cp, L, st, mk S1) = z_ev X 1000 (cm, cp, L, .long x :: st, mk S2) := fun {cm cp L st} => z_evc_of (r := (some (.long x), mk S2)) (ck := (cm, cp, L, st, mk S1)) (by omega) h2
  refine ⟨S2, ?_, hI2, hn, hw⟩
  simp only [↓B283_863, ↓B283_877, ↓B283_891, a1, a2, ↓o_4, ↓o_72, c1, c2, lg_self, ↓reduceIte]
theorem st283_30 (hz : 0 ≤ z ∧ z + 6 ≤ X.1 ∧ X.1 ≤ 3072) (hI : Inv PM QL S) : StepR X z 897 S := by
  obtain ⟨r, S1, S2, h1, h2, hI2, hn, hw, -⟩ : PairAt PM QL X 127 243 [.int (Int32.ofInt (xw X (z + 1))), .int (Int32.ofInt (xw X (z + 2)))] S 900 := p_compare (m := (xw X (z + 2))) (c := (xw X (z + 1))) (xw_r X (z + 2)) (xw_r X (z + 1)) (by omega) hI
  obtain ⟨x, rfl⟩ := int_of h1 rfl
  have a1 : ∀ {M : zM} {k : Int32 → Option zR}, z_ald X none M 0 2 (Int32.ofInt z + 1) k = k (Int32.ofInt (xw X (z + 1))) := fun {M k} => by
    rw [show Int32.ofInt z + 1 = Int32.ofInt (z + 1) from Int32.ofInt_add z 1 ▸ rfl]; exact xw_at (by omega)
  have a2 : ∀ {M : zM} {k : Int32 → Option zR}, z_ald X none M 0 2 (Int32.ofInt z + 2) k = k (Int32.ofInt (xw X (z + 2))) := fun {M k} => by
    rw [show Int32.ofInt z + 2 = Int32.ofInt (z + 2) from Int32.ofInt_add z 2 ▸ rfl]; exact xw_at (by omega)
  have c1 : ∀ {cm cp : Nat} {L : zL} {st : List Value}, z_evc X 1000 127 [.ref 4, .int (Int32.ofInt (xw X (z + 1))), .int (Int32.ofInt (xw X (z + 2)))] (cm, cp, L, st, mk S) = z_ev X 1000 (cm, cp, L, .int x :: st, mk S1) := fun {cm cp L st} => z_evc_of (r := (some (.int x), mk S1)) (ck := (cm, cp, L, st, mk S)) (by omega) h1
  have c2 : ∀ {cm cp : Nat} {L : zL} {st : List Value}, z_evc X 1000 243 [.ref 72, .int (Int32.ofInt (xw X (z + 1))), .int (Int32.ofInt (xw X (z + 2)))] (cm, cp, L, st, mk S1) = z_ev X 1000 (cm, cp, L, .int x :: st, mk S2) := fun {cm cp L st} => z_evc_of (r := (some (.int x), mk S2)) (ck := (cm, cp, L, st, mk S1)) (by omega) h2
  refine ⟨S2, ?_, hI2, hn, hw⟩
  simp only [↓B283_897, ↓B283_911, ↓B283_925, a1, a2, ↓o_4, ↓o_72, c1, c2, ↓reduceIte]
theorem st283_31 (hz : 0 ≤ z ∧ z + 6 ≤ X.1 ∧ X.1 ≤ 3072) (hI : Inv PM QL S) : StepR X z 930 S := by
  obtain ⟨r, S1, S2, h1, h2, hI2, hn, hw, -⟩ : PairAt PM QL X 128 268 [.int (Int32.ofInt (xw X (z + 1))), .int (Int32.ofInt (xw X (z + 2)))] S 900 := p_weeks (xw_r X (z + 1)) (xw_r X (z + 2)) (by omega) hI
  obtain ⟨x, rfl⟩ := int_of h1 rfl
  have a1 : ∀ {M : zM} {k : Int32 → Option zR}, z_ald X none M 0 2 (Int32.ofInt z + 1) k = k (Int32.ofInt (xw X (z + 1))) := fun {M k} => by
    rw [show Int32.ofInt z + 1 = Int32.ofInt (z + 1) from Int32.ofInt_add z 1 ▸ rfl]; exact xw_at (by omega)
  have a2 : ∀ {M : zM} {k : Int32 → Option zR}, z_ald X none M 0 2 (Int32.ofInt z + 2) k = k (Int32.ofInt (xw X (z + 2))) := fun {M k} => by
    rw [show Int32.ofInt z + 2 = Int32.ofInt (z + 2) from Int32.ofInt_add z 2 ▸ rfl]; exact xw_at (by omega)
  have c1 : ∀ {cm cp : Nat} {L : zL} {st : List Value}, z_evc X 1000 128 [.ref 4, .int (Int32.ofInt (xw X (z + 1))), .int (Int32.ofInt (xw X (z + 2)))] (cm, cp, L, st, mk S) = z_ev X 1000 (cm, cp, L, .int x :: st, mk S1) := fun {cm cp L st} => z_evc_of (r := (some (.int x), mk S1)) (ck := (cm, cp, L, st, mk S)) (by omega) h1
  have c2 : ∀ {cm cp : Nat} {L : zL} {st : List Value}, z_evc X 1000 268 [.ref 72, .int (Int32.ofInt (xw X (z + 1))), .int (Int32.ofInt (xw X (z + 2)))] (cm, cp, L, st, mk S1) = z_ev X 1000 (cm, cp, L, .int x :: st, mk S2) := fun {cm cp L st} => z_evc_of (r := (some (.int x), mk S2)) (ck := (cm, cp, L, st, mk S1)) (by omega) h2
  refine ⟨S2, ?_, hI2, hn, hw⟩
  simp only [↓B283_930, ↓B283_944, ↓B283_958, a1, a2, ↓o_4, ↓o_72, c1, c2, ↓reduceIte]
theorem st283_32 (hz : 0 ≤ z ∧ z + 6 ≤ X.1 ∧ X.1 ≤ 3072) (hI : Inv PM QL S) : StepR X z 963 S := by
  obtain ⟨r, S1, S2, h1, h2, hI2, hn, hw, -⟩ : PairAt PM QL X 129 269 [.int (Int32.ofInt (xw X (z + 1))), .int (Int32.ofInt (xw X (z + 2)))] S 900 := p_drawn good2.g (xw_r X (z + 1)) (xw_r X (z + 2)) (by omega) hI
  obtain ⟨x, rfl⟩ := int_of h1 rfl
  have a1 : ∀ {M : zM} {k : Int32 → Option zR}, z_ald X none M 0 2 (Int32.ofInt z + 1) k = k (Int32.ofInt (xw X (z + 1))) := fun {M k} => by
    rw [show Int32.ofInt z + 1 = Int32.ofInt (z + 1) from Int32.ofInt_add z 1 ▸ rfl]; exact xw_at (by omega)
  have a2 : ∀ {M : zM} {k : Int32 → Option zR}, z_ald X none M 0 2 (Int32.ofInt z + 2) k = k (Int32.ofInt (xw X (z + 2))) := fun {M k} => by
    rw [show Int32.ofInt z + 2 = Int32.ofInt (z + 2) from Int32.ofInt_add z 2 ▸ rfl]; exact xw_at (by omega)
  have c1 : ∀ {cm cp : Nat} {L : zL} {st : List Value}, z_evc X 1000 129 [.ref 4, .int (Int32.ofInt (xw X (z + 1))), .int (Int32.ofInt (xw X (z + 2)))] (cm, cp, L, st, mk S) = z_ev X 1000 (cm, cp, L, .int x :: st, mk S1) := fun {cm cp L st} => z_evc_of (r := (some (.int x), mk S1)) (ck := (cm, cp, L, st, mk S)) (by omega) h1
  have c2 : ∀ {cm cp : Nat} {L : zL} {st : List Value}, z_evc X 1000 269 [.ref 72, .int (Int32.ofInt (xw X (z + 1))), .int (Int32.ofInt (xw X (z + 2)))] (cm, cp, L, st, mk S1) = z_ev X 1000 (cm, cp, L, .int x :: st, mk S2) := fun {cm cp L st} => z_evc_of (r := (some (.int x), mk S2)) (ck := (cm, cp, L, st, mk S1)) (by omega) h2
  refine ⟨S2, ?_, hI2, hn, hw⟩
  simp only [↓B283_963, ↓B283_977, ↓B283_991, a1, a2, ↓o_4, ↓o_72, c1, c2, ↓reduceIte]
theorem st283_33 (hz : 0 ≤ z ∧ z + 6 ≤ X.1 ∧ X.1 ≤ 3072) (hI : Inv PM QL S) : StepR X z 996 S := by
  obtain ⟨r, S1, S2, h1, h2, hI2, hn, hw, -⟩ : PairAt PM QL X 130 160 [.int (Int32.ofInt (xw X (z + 1)))] S 900 := p_image good2 (xw_r X (z + 1)) (by omega) hI
  obtain ⟨x, rfl⟩ := int_of h1 rfl
  have a1 : ∀ {M : zM} {k : Int32 → Option zR}, z_ald X none M 0 2 (Int32.ofInt z + 1) k = k (Int32.ofInt (xw X (z + 1))) := fun {M k} => by
    rw [show Int32.ofInt z + 1 = Int32.ofInt (z + 1) from Int32.ofInt_add z 1 ▸ rfl]; exact xw_at (by omega)
  have c1 : ∀ {cm cp : Nat} {L : zL} {st : List Value}, z_evc X 1000 130 [.ref 4, .int (Int32.ofInt (xw X (z + 1)))] (cm, cp, L, st, mk S) = z_ev X 1000 (cm, cp, L, .int x :: st, mk S1) := fun {cm cp L st} => z_evc_of (r := (some (.int x), mk S1)) (ck := (cm, cp, L, st, mk S)) (by omega) h1
  have c2 : ∀ {cm cp : Nat} {L : zL} {st : List Value}, z_evc X 1000 160 [.ref 72, .int (Int32.ofInt (xw X (z + 1)))] (cm, cp, L, st, mk S1) = z_ev X 1000 (cm, cp, L, .int x :: st, mk S2) := fun {cm cp L st} => z_evc_of (r := (some (.int x), mk S2)) (ck := (cm, cp, L, st, mk S1)) (by omega) h2
  refine ⟨S2, ?_, hI2, hn, hw⟩
  simp only [↓B283_996, ↓B283_1005, ↓B283_1014, a1, ↓o_4, ↓o_72, c1, c2, ↓reduceIte]
theorem st283_34 (hz : 0 ≤ z ∧ z + 6 ≤ X.1 ∧ X.1 ≤ 3072) (hI : Inv PM QL S) : StepR X z 1019 S := by
  obtain ⟨r, S1, S2, h1, h2, hI2, hn, hw, -⟩ : PairAt PM QL X 131 161 [.int (Int32.ofInt (xw X (z + 1)))] S 900 := p_back good2 (xw_r X (z + 1)) (by omega) hI
  obtain ⟨x, rfl⟩ := int_of h1 rfl
  have a1 : ∀ {M : zM} {k : Int32 → Option zR}, z_ald X none M 0 2 (Int32.ofInt z + 1) k = k (Int32.ofInt (xw X (z + 1))) := fun {M k} => by
    rw [show Int32.ofInt z + 1 = Int32.ofInt (z + 1) from Int32.ofInt_add z 1 ▸ rfl]; exact xw_at (by omega)
  have c1 : ∀ {cm cp : Nat} {L : zL} {st : List Value}, z_evc X 1000 131 [.ref 4, .int (Int32.ofInt (xw X (z + 1)))] (cm, cp, L, st, mk S) = z_ev X 1000 (cm, cp, L, .int x :: st, mk S1) := fun {cm cp L st} => z_evc_of (r := (some (.int x), mk S1)) (ck := (cm, cp, L, st, mk S)) (by omega) h1
  have c2 : ∀ {cm cp : Nat} {L : zL} {st : List Value}, z_evc X 1000 161 [.ref 72, .int (Int32.ofInt (xw X (z + 1)))] (cm, cp, L, st, mk S1) = z_ev X 1000 (cm, cp, L, .int x :: st, mk S2) := fun {cm cp L st} => z_evc_of (r := (some (.int x), mk S2)) (ck := (cm, cp, L, st, mk S1)) (by omega) h2
  refine ⟨S2, ?_, hI2, hn, hw⟩
  simp only [↓B283_1019, ↓B283_1028, ↓B283_1037, a1, ↓o_4, ↓o_72, c1, c2, ↓reduceIte]
theorem st283_35 (hz : 0 ≤ z ∧ z + 6 ≤ X.1 ∧ X.1 ≤ 3072) (hI : Inv PM QL S) : StepR X z 1042 S := by
  obtain ⟨r, S1, S2, h1, h2, hI2, hn, hw, -⟩ : PairAt PM QL X 132 270 [.int (Int32.ofInt (xw X (z + 1)))] S 900 := p_count good2.g (xw_r X (z + 1)) (by omega) hI
  obtain ⟨x, rfl⟩ := int_of h1 rfl
  have a1 : ∀ {M : zM} {k : Int32 → Option zR}, z_ald X none M 0 2 (Int32.ofInt z + 1) k = k (Int32.ofInt (xw X (z + 1))) := fun {M k} => by
    rw [show Int32.ofInt z + 1 = Int32.ofInt (z + 1) from Int32.ofInt_add z 1 ▸ rfl]; exact xw_at (by omega)
  have c1 : ∀ {cm cp : Nat} {L : zL} {st : List Value}, z_evc X 1000 132 [.ref 4, .int (Int32.ofInt (xw X (z + 1)))] (cm, cp, L, st, mk S) = z_ev X 1000 (cm, cp, L, .int x :: st, mk S1) := fun {cm cp L st} => z_evc_of (r := (some (.int x), mk S1)) (ck := (cm, cp, L, st, mk S)) (by omega) h1
  have c2 : ∀ {cm cp : Nat} {L : zL} {st : List Value}, z_evc X 1000 270 [.ref 72, .int (Int32.ofInt (xw X (z + 1)))] (cm, cp, L, st, mk S1) = z_ev X 1000 (cm, cp, L, .int x :: st, mk S2) := fun {cm cp L st} => z_evc_of (r := (some (.int x), mk S2)) (ck := (cm, cp, L, st, mk S1)) (by omega) h2
  refine ⟨S2, ?_, hI2, hn, hw⟩
  simp only [↓B283_1042, ↓B283_1051, ↓B283_1060, a1, ↓o_4, ↓o_72, c1, c2, ↓reduceIte]
theorem st283_36 (hz : 0 ≤ z ∧ z + 6 ≤ X.1 ∧ X.1 ≤ 3072) (hI : Inv PM QL S) : StepR X z 1065 S := by
  obtain ⟨r, S1, S2, h1, h2, hI2, hn, hw, -⟩ : PairAt PM QL X 133 271 [] S 900 := p_status good2.g hI
  obtain ⟨x, rfl⟩ := int_of h1 rfl
  have c1 : ∀ {cm cp : Nat} {L : zL} {st : List Value}, z_evc X 1000 133 [.ref 4] (cm, cp, L, st, mk S) = z_ev X 1000 (cm, cp, L, .int x :: st, mk S1) := fun {cm cp L st} => z_evc_of (r := (some (.int x), mk S1)) (ck := (cm, cp, L, st, mk S)) (by omega) h1
  have c2 : ∀ {cm cp : Nat} {L : zL} {st : List Value}, z_evc X 1000 271 [.ref 72] (cm, cp, L, st, mk S1) = z_ev X 1000 (cm, cp, L, .int x :: st, mk S2) := fun {cm cp L st} => z_evc_of (r := (some (.int x), mk S2)) (ck := (cm, cp, L, st, mk S1)) (by omega) h2
  refine ⟨S2, ?_, hI2, hn, hw⟩
  simp only [↓B283_1065, ↓B283_1069, ↓B283_1073, ↓o_4, ↓o_72, c1, c2, ↓reduceIte]
theorem disp (hz : 0 ≤ z ∧ z + 6 ≤ X.1 ∧ X.1 ≤ 3072) (hI : Inv PM QL S) : StepR X z 27 S := by
  unfold StepR
  rw [B283_27, xw_at (by omega)]
  by_cases q : (Int32.ofInt (xw X z) &&& 63) = 0
  · rw [if_pos q]; exact st283_0 hz hI
  rw [if_neg q]; clear q
  by_cases q : (Int32.ofInt (xw X z) &&& 63) = 1
  · rw [if_pos q]; exact st283_1 hz hI
  rw [if_neg q]; clear q
  by_cases q : (Int32.ofInt (xw X z) &&& 63) = 2
  · rw [if_pos q]; exact st283_2 hz hI
  rw [if_neg q]; clear q
  by_cases q : (Int32.ofInt (xw X z) &&& 63) = 3
  · rw [if_pos q]; exact st283_3 hz hI
  rw [if_neg q]; clear q
  by_cases q : (Int32.ofInt (xw X z) &&& 63) = 4
  · rw [if_pos q]; exact st283_4 hz hI
  rw [if_neg q]; clear q
  by_cases q : (Int32.ofInt (xw X z) &&& 63) = 5
  · rw [if_pos q]; exact st283_5 hz hI
  rw [if_neg q]; clear q
  by_cases q : (Int32.ofInt (xw X z) &&& 63) = 6
  · rw [if_pos q]; exact st283_6 hz hI
  rw [if_neg q]; clear q
  by_cases q : (Int32.ofInt (xw X z) &&& 63) = 7
  · rw [if_pos q]; exact st283_7 hz hI
  rw [if_neg q]; clear q
  by_cases q : (Int32.ofInt (xw X z) &&& 63) = 8
  · rw [if_pos q]; exact st283_8 hz hI
  rw [if_neg q]; clear q
  by_cases q : (Int32.ofInt (xw X z) &&& 63) = 9
  · rw [if_pos q]; exact st283_9 hz hI
  rw [if_neg q]; clear q
  by_cases q : (Int32.ofInt (xw X z) &&& 63) = 10
  · rw [if_pos q]; exact st283_10 hz hI
  rw [if_neg q]; clear q
  by_cases q : (Int32.ofInt (xw X z) &&& 63) = 11
  · rw [if_pos q]; exact st283_11 hz hI
  rw [if_neg q]; clear q
  by_cases q : (Int32.ofInt (xw X z) &&& 63) = 12
  · rw [if_pos q]; exact st283_12 hz hI
  rw [if_neg q]; clear q
  by_cases q : (Int32.ofInt (xw X z) &&& 63) = 13
  · rw [if_pos q]; exact st283_13 hz hI
  rw [if_neg q]; clear q
  by_cases q : (Int32.ofInt (xw X z) &&& 63) = 14
  · rw [if_pos q]; exact st283_14 hz hI
  rw [if_neg q]; clear q
  by_cases q : (Int32.ofInt (xw X z) &&& 63) = 15
  · rw [if_pos q]; exact st283_15 hz hI
  rw [if_neg q]; clear q
  by_cases q : (Int32.ofInt (xw X z) &&& 63) = 16
  · rw [if_pos q]; exact st283_16 hz hI
  rw [if_neg q]; clear q
  by_cases q : (Int32.ofInt (xw X z) &&& 63) = 17
  · rw [if_pos q]; exact st283_17 hz hI
  rw [if_neg q]; clear q
  by_cases q : (Int32.ofInt (xw X z) &&& 63) = 18
  · rw [if_pos q]; exact st283_18 hz hI
  rw [if_neg q]; clear q
  by_cases q : (Int32.ofInt (xw X z) &&& 63) = 19
  · rw [if_pos q]; exact st283_19 hz hI
  rw [if_neg q]; clear q
  by_cases q : (Int32.ofInt (xw X z) &&& 63) = 20
  · rw [if_pos q]; exact st283_20 hz hI
  rw [if_neg q]; clear q
  by_cases q : (Int32.ofInt (xw X z) &&& 63) = 21
  · rw [if_pos q]; exact st283_21 hz hI
  rw [if_neg q]; clear q
  by_cases q : (Int32.ofInt (xw X z) &&& 63) = 22
  · rw [if_pos q]; exact st283_22 hz hI
  rw [if_neg q]; clear q
  by_cases q : (Int32.ofInt (xw X z) &&& 63) = 23
  · rw [if_pos q]; exact st283_23 hz hI
  rw [if_neg q]; clear q
  by_cases q : (Int32.ofInt (xw X z) &&& 63) = 24
  · rw [if_pos q]; exact st283_24 hz hI
  rw [if_neg q]; clear q
  by_cases q : (Int32.ofInt (xw X z) &&& 63) = 25
  · rw [if_pos q]; exact st283_25 hz hI
  rw [if_neg q]; clear q
  by_cases q : (Int32.ofInt (xw X z) &&& 63) = 26
  · rw [if_pos q]; exact st283_26 hz hI
  rw [if_neg q]; clear q
  by_cases q : (Int32.ofInt (xw X z) &&& 63) = 27
  · rw [if_pos q]; exact st283_27 hz hI
  rw [if_neg q]; clear q
  by_cases q : (Int32.ofInt (xw X z) &&& 63) = 28
  · rw [if_pos q]; exact st283_28 hz hI
  rw [if_neg q]; clear q
  by_cases q : (Int32.ofInt (xw X z) &&& 63) = 29
  · rw [if_pos q]; exact st283_29 hz hI
  rw [if_neg q]; clear q
  by_cases q : (Int32.ofInt (xw X z) &&& 63) = 30
  · rw [if_pos q]; exact st283_30 hz hI
  rw [if_neg q]; clear q
  by_cases q : (Int32.ofInt (xw X z) &&& 63) = 31
  · rw [if_pos q]; exact st283_31 hz hI
  rw [if_neg q]; clear q
  by_cases q : (Int32.ofInt (xw X z) &&& 63) = 32
  · rw [if_pos q]; exact st283_32 hz hI
  rw [if_neg q]; clear q
  by_cases q : (Int32.ofInt (xw X z) &&& 63) = 33
  · rw [if_pos q]; exact st283_33 hz hI
  rw [if_neg q]; clear q
  by_cases q : (Int32.ofInt (xw X z) &&& 63) = 34
  · rw [if_pos q]; exact st283_34 hz hI
  rw [if_neg q]; clear q
  by_cases q : (Int32.ofInt (xw X z) &&& 63) = 35
  · rw [if_pos q]; exact st283_35 hz hI
  rw [if_neg q]; clear q
  by_cases q : (Int32.ofInt (xw X z) &&& 63) = 36
  · rw [if_pos q]; exact st283_36 hz hI
  rw [if_neg q]; clear q
  exact ⟨S, rfl, hI, by omega, by omega⟩
theorem loop283 (hX : X.1 ≤ 3072) : ∀ (c : Nat) (z : Int) (S : zS), Inv PM QL S → 0 ≤ z → z ≤ 3072 → (X.1 : Int) - 6 < z + 6 * c → ∃ M' : zM, z_ev X 1000 (283, 18, L283 z, [], mk S) = some (some (.int 1), M') ∧ M'.1 ≤ gN S + 10 * c ∧ M'.2.1 ≤ gW S + 1400 * c := by
  intro c
  have hn : Int32.ofNat X.1 = Int32.ofInt (X.1 : Int) := i_ofNat X.1
  have e6 : ∀ z : Int, Int32.ofInt (X.1 : Int) - 6 = Int32.ofInt ((X.1 : Int) - 6) := fun _ => (Int32.ofInt_sub (X.1 : Int) 6).symm
  have lt : ∀ z : Int, 0 ≤ z → z ≤ 3072 → (Int32.ofNat X.1 - 6 < Int32.ofInt z ↔ (X.1 : Int) - 6 < z) := fun z h0 h1 => by
    rw [hn, e6 z, i_lt, i32_id (by omega) (by omega), i32_id (by omega) (by omega)]
  have ex : ∀ (z : Int) (S : zS), 0 ≤ z → z ≤ 3072 → (X.1 : Int) - 6 < z → z_ev X 1000 (283, 18, L283 z, [], mk S) = some (some (.int 1), mk S) := fun z S h0 h1 h => by
    rw [B283_18]
    show (if Int32.ofNat X.1 - 6 < Int32.ofInt z then z_ev X 1000 (283, 1084, L283 z, [], mk S) else z_ev X 1000 (283, 27, L283 z, [], mk S)) = _
    rw [if_pos ((lt z h0 h1).mpr h), B283_1084]
    rfl
  induction c with
  | zero =>
    intro z S hI h0 h1 h
    exact ⟨mk S, ex z S h0 h1 (by omega), Nat.le_refl _, Nat.le_refl _⟩
  | succ c ih =>
    intro z S hI h0 h1 h
    by_cases q : (X.1 : Int) - 6 < z
    · exact ⟨mk S, ex z S h0 h1 q, Nat.le_add_right _ _, Nat.le_add_right _ _⟩
    · obtain ⟨S2, a1, a2, a3, a4⟩ := disp (X := X) (z := z) (S := S) (by omega) hI
      obtain ⟨M', b1, b2, b3⟩ := ih (z + 6) S2 a2 (by omega) (by omega) (by omega)
      refine ⟨M', ?_, by omega, by omega⟩
      rw [B283_18]
      show (if Int32.ofNat X.1 - 6 < Int32.ofInt z then z_ev X 1000 (283, 1084, L283 z, [], mk S) else z_ev X 1000 (283, 27, L283 z, [], mk S)) = _
      rw [if_neg (fun w => q ((lt z h0 h1).mp w)), a1, B283_1078, ← b1]
      rw [show Int32.ofInt z + 6 = Int32.ofInt (z + 6) from (Int32.ofInt_add z 6).symm]
end
/-- the interpreter's own answer on the law -/
theorem zlaw (X : zX) (hX : X.1 ≤ 3072) : ∃ (d : Nat) (M' : zM), d ≤ 1000 ∧ z_ev X d (z_entry 283 [.ref 2] (4, 0, fun _ => none)) = some (some (.int 1), M') ∧ M'.1 ≤ 600004 ∧ M'.2.1 ≤ 7302249 := by
  obtain ⟨M', h1, h2, h3⟩ := loop283 hX 512 0 S0 inv0 (by omega) (by omega) (by omega)
  refine ⟨1000, M', Nat.le_refl _, ?_, ?_, ?_⟩
  · rw [start (by omega)]; exact h1
  · have e : gN S0 = 114 := rfl
    omega
  · have e : gW S0 = 88987 := rfl
    omega
