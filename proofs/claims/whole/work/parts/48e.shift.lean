/-! shifts of longs, prices of the class -/
theorem jsh_and : ∀ s : Fin 64, Int64.ofInt (s.val : Int) &&& Int64.ofInt 63 = Int64.ofInt (s.val : Int) := by decide
theorem jsh_mod : ∀ s : Fin 64, ((Int64.ofInt (s.val : Int)).toBitVec.smod 64).toNat = s.val := by decide
theorem j_nat {c : Int} (h0 : 0 ≤ c) (h1 : c < 18446744073709551616) : (Int64.ofInt c).toBitVec.toNat = c.toNat := by
  rw [Int64.toBitVec_ofInt, BitVec.toNat_ofInt]
  show (c % ((2 ^ 64 : Nat) : Int)).toNat = _
  rw [Int.emod_eq_of_lt h0 (by exact h1)]
theorem shl_j {c : Int} {k : Nat} (h0 : 0 ≤ c) (hk : k < 64) (h1 : c * 2 ^ k < 9223372036854775808) : Int64.ofInt c <<< (Int64.ofInt (k : Int) &&& Int64.ofInt 63) = Int64.ofInt (c * 2 ^ k) := by
  rw [jsh_and ⟨k, hk⟩]
  have hp : (1 : Int) ≤ 2 ^ k := Int.pow_pos (by decide)
  have hc : c ≤ c * 2 ^ k := by
    have := Int.mul_le_mul_of_nonneg_left hp h0
    rw [Int.mul_one] at this; exact this
  have hb : 0 ≤ c * 2 ^ k := by omega
  apply Int64.toBitVec_inj.mp
  show (Int64.ofInt c).toBitVec <<< ((Int64.ofInt (k : Int)).toBitVec.smod 64) = _
  rw [BitVec.shiftLeft_eq', jsh_mod ⟨k, hk⟩]
  apply BitVec.eq_of_toNat_eq
  rw [BitVec.toNat_shiftLeft, j_nat h0 (by omega), j_nat hb (by omega), Nat.shiftLeft_eq]
  have e : ((c.toNat * 2 ^ k : Nat) : Int) = c * 2 ^ k := by
    rw [Int.natCast_mul, Int.natCast_pow, Int.toNat_of_nonneg h0]; rfl
  have e2 : c.toNat * 2 ^ k = (c * 2 ^ k).toNat := by omega
  rw [e2]
  exact Nat.mod_eq_of_lt (by show _ < 18446744073709551616; omega)
theorem shr_j {u : Int} {k : Nat} (h0 : 0 ≤ u) (hk : k < 64) (h1 : u < 9223372036854775808) : Int64.ofInt u >>> (Int64.ofInt (k : Int) &&& Int64.ofInt 63) = Int64.ofInt (u / 2 ^ k) := by
  rw [jsh_and ⟨k, hk⟩]
  have hp : (0 : Int) < 2 ^ k := Int.pow_pos (by decide)
  have hb : 0 ≤ u / 2 ^ k := Int.ediv_nonneg h0 (by omega)
  have hc : u / 2 ^ k ≤ u := Int.ediv_le_self _ h0
  apply Int64.toBitVec_inj.mp
  show (Int64.ofInt u).toBitVec.sshiftRight' ((Int64.ofInt (k : Int)).toBitVec.smod 64) = _
  rw [BitVec.sshiftRight_eq', jsh_mod ⟨k, hk⟩]
  have hm : (Int64.ofInt u).toBitVec.msb = false := by
    rw [BitVec.msb_eq_false_iff_two_mul_lt, j_nat h0 (by omega)]
    show _ < 18446744073709551616
    omega
  rw [BitVec.sshiftRight_eq_of_msb_false hm]
  apply BitVec.eq_of_toNat_eq
  rw [BitVec.toNat_ushiftRight, j_nat h0 (by omega), j_nat hb (by omega), Nat.shiftRight_eq_div_pow]
  have e : ((u.toNat / 2 ^ k : Nat) : Int) = u / 2 ^ k := by
    rw [Int.natCast_ediv, Int.natCast_pow, Int.toNat_of_nonneg h0]; rfl
  show u.toNat / 2 ^ k = (u / 2 ^ k).toNat
  rw [← e]
  exact (Int.toNat_natCast _).symm
theorem and3 {z : Int} (h0 : 0 ≤ z) : Int32.ofInt z &&& Int32.ofInt 3 = Int32.ofInt (z % 4) := by
  apply Int32.toBitVec_inj.mp
  rw [Int32.toBitVec_and]
  apply BitVec.eq_of_toNat_eq
  rw [BitVec.toNat_and, Int32.toBitVec_ofInt, Int32.toBitVec_ofInt, Int32.toBitVec_ofInt, BitVec.toNat_ofInt, BitVec.toNat_ofInt, BitVec.toNat_ofInt]
  show (z % 4294967296).toNat &&& 3 = (z % 4 % 4294967296).toNat
  have := Nat.and_two_pow_sub_one_eq_mod (z % 4294967296).toNat 2
  rw [show (2 ^ 2 - 1 : Nat) = 3 from rfl, show (2 ^ 2 : Nat) = 4 from rfl] at this
  rw [this]
  omega
