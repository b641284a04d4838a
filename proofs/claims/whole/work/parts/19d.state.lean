/-! a line's state, wherever it lies -/
abbrev r32 (z : Int) : Prop := -2147483648 ≤ z ∧ z < 2147483648
def isSt (S : zS) (s : Nat) : Prop := (s = 5 ∨ s = 12 ∨ s = 19) ∨ (114 ≤ s ∧ gH S s = some (.inl 7) ∧ (∀ j : Nat, j < 6 → gQ S s (j : Int) = some (s + 1 + j)) ∧ gH S (s + 1) = some (.inr (0, 60)) ∧ gH S (s + 2) = some (.inr (0, 3)) ∧ gH S (s + 3) = some (.inr (0, 6)) ∧ gH S (s + 4) = some (.inr (0, 6)) ∧ gH S (s + 5) = some (.inr (3, 6)) ∧ gH S (s + 6) = some (.inr (4, 6)))
theorem st_5 {S : zS} : isSt S 5 := Or.inl (Or.inl rfl)
theorem st_12 {S : zS} : isSt S 12 := Or.inl (Or.inr (Or.inl rfl))
theorem st_19 {S : zS} : isSt S 19 := Or.inl (Or.inr (Or.inr rfl))
theorem isSt_sI (S : zS) (a s : Nat) (i x : Int) : isSt (sI S a i x) s = isSt S s := rfl
theorem isSt_sJ (S : zS) (a s : Nat) (i x : Int) : isSt (sJ S a i x) s = isSt S s := rfl
theorem isSt_sF (S : zS) (a s : Nat) (lo hi : Int) (f : Int → Int) : isSt (sF S a lo hi f) s = isSt S s := rfl
theorem isSt_sG (S : zS) (a s : Nat) (lo hi : Int) (f : Int → Int) : isSt (sG S a lo hi f) s = isSt S s := rfl
theorem isSt_sA (S : zS) (a s : Nat) (f : Int → Int) : isSt (sA S a f) s = isSt S s := rfl
theorem zdes_arr {S : zS} {a : Nat} {q : Nat × Nat} (h : 114 ≤ a) (hg : gH S a = some (.inr q)) : zdes S a = some (.inr q) := by
  rw [zdes_dyn h, hg]
section
variable {ρ : Type} {X : zX} {S : zS} {s : Nat} {i x : Int32}
theorem st_d1 (h : isSt S s) : zdes S (s + 1) = some (.inr (0, 60)) := by
  rcases h with (rfl | rfl | rfl) | ⟨h1, h2, h3, h4, h5, h6, h7, h8, h9⟩
  · rfl
  · rfl
  · rfl
  · exact zdes_arr (by omega) h4
theorem st_d2 (h : isSt S s) : zdes S (s + 2) = some (.inr (0, 3)) := by
  rcases h with (rfl | rfl | rfl) | ⟨h1, h2, h3, h4, h5, h6, h7, h8, h9⟩
  · rfl
  · rfl
  · rfl
  · exact zdes_arr (by omega) h5
theorem st_d3 (h : isSt S s) : zdes S (s + 3) = some (.inr (0, 6)) := by
  rcases h with (rfl | rfl | rfl) | ⟨h1, h2, h3, h4, h5, h6, h7, h8, h9⟩
  · rfl
  · rfl
  · rfl
  · exact zdes_arr (by omega) h6
theorem st_d4 (h : isSt S s) : zdes S (s + 4) = some (.inr (0, 6)) := by
  rcases h with (rfl | rfl | rfl) | ⟨h1, h2, h3, h4, h5, h6, h7, h8, h9⟩
  · rfl
  · rfl
  · rfl
  · exact zdes_arr (by omega) h7
theorem st_d5 (h : isSt S s) : zdes S (s + 5) = some (.inr (3, 6)) := by
  rcases h with (rfl | rfl | rfl) | ⟨h1, h2, h3, h4, h5, h6, h7, h8, h9⟩
  · rfl
  · rfl
  · rfl
  · exact zdes_arr (by omega) h8
theorem st_d6 (h : isSt S s) : zdes S (s + 6) = some (.inr (4, 6)) := by
  rcases h with (rfl | rfl | rfl) | ⟨h1, h2, h3, h4, h5, h6, h7, h8, h9⟩
  · rfl
  · rfl
  · rfl
  · exact zdes_arr (by omega) h9
theorem st_dyn {s : Nat} (h1 : 114 ≤ s) (h2 : gH S s = some (.inl 7)) : zdes S s = some (.inl (7, [2, 2, 2, 2, 2, 2, 0, 0, 0, 0, 0])) := by
  rw [zdes_dyn h1, h2]; rfl
theorem st_o {k : Option ρ} (h : isSt S s) : z_obj none (mk S) (.ref s) 7 k = k := by
  rcases h with (rfl | rfl | rfl) | ⟨h1, h2, h3, h4, h5, h6, h7, h8, h9⟩
  · exact o_5
  · exact o_12
  · exact o_19
  · exact L_obj (st_dyn h1 h2)
theorem st_r6 {k : Int32 → Option ρ} (h : isSt S s) : z_fldI none (mk S) s 7 6 k = k (Int32.ofInt (gI S s 6)) := by
  rcases h with (rfl | rfl | rfl) | ⟨h1, h2, h3, h4, h5, h6, h7, h8, h9⟩
  · exact r_5_6
  · exact r_12_6
  · exact r_19_6
  · exact L_fldI (st_dyn h1 h2) rfl
theorem st_w6 {k : zM → Option ρ} (h : isSt S s) : z_fset none (mk S) s 7 6 (.int x) k = k (mk (sI S s 6 x.toInt)) := by
  rcases h with (rfl | rfl | rfl) | ⟨h1, h2, h3, h4, h5, h6, h7, h8, h9⟩
  · exact w_5_6
  · exact w_12_6
  · exact w_19_6
  · exact G_setI (st_dyn h1 h2) rfl
theorem st_r7 {k : Int32 → Option ρ} (h : isSt S s) : z_fldI none (mk S) s 7 7 k = k (Int32.ofInt (gI S s 7)) := by
  rcases h with (rfl | rfl | rfl) | ⟨h1, h2, h3, h4, h5, h6, h7, h8, h9⟩
  · exact r_5_7
  · exact r_12_7
  · exact r_19_7
  · exact L_fldI (st_dyn h1 h2) rfl
theorem st_w7 {k : zM → Option ρ} (h : isSt S s) : z_fset none (mk S) s 7 7 (.int x) k = k (mk (sI S s 7 x.toInt)) := by
  rcases h with (rfl | rfl | rfl) | ⟨h1, h2, h3, h4, h5, h6, h7, h8, h9⟩
  · exact w_5_7
  · exact w_12_7
  · exact w_19_7
  · exact G_setI (st_dyn h1 h2) rfl
theorem st_r8 {k : Int32 → Option ρ} (h : isSt S s) : z_fldI none (mk S) s 7 8 k = k (Int32.ofInt (gI S s 8)) := by
  rcases h with (rfl | rfl | rfl) | ⟨h1, h2, h3, h4, h5, h6, h7, h8, h9⟩
  · exact r_5_8
  · exact r_12_8
  · exact r_19_8
  · exact L_fldI (st_dyn h1 h2) rfl
theorem st_w8 {k : zM → Option ρ} (h : isSt S s) : z_fset none (mk S) s 7 8 (.int x) k = k (mk (sI S s 8 x.toInt)) := by
  rcases h with (rfl | rfl | rfl) | ⟨h1, h2, h3, h4, h5, h6, h7, h8, h9⟩
  · exact w_5_8
  · exact w_12_8
  · exact w_19_8
  · exact G_setI (st_dyn h1 h2) rfl
theorem st_r9 {k : Int32 → Option ρ} (h : isSt S s) : z_fldI none (mk S) s 7 9 k = k (Int32.ofInt (gI S s 9)) := by
  rcases h with (rfl | rfl | rfl) | ⟨h1, h2, h3, h4, h5, h6, h7, h8, h9⟩
  · exact r_5_9
  · exact r_12_9
  · exact r_19_9
  · exact L_fldI (st_dyn h1 h2) rfl
theorem st_w9 {k : zM → Option ρ} (h : isSt S s) : z_fset none (mk S) s 7 9 (.int x) k = k (mk (sI S s 9 x.toInt)) := by
  rcases h with (rfl | rfl | rfl) | ⟨h1, h2, h3, h4, h5, h6, h7, h8, h9⟩
  · exact w_5_9
  · exact w_12_9
  · exact w_19_9
  · exact G_setI (st_dyn h1 h2) rfl
theorem st_r10 {k : Int32 → Option ρ} (h : isSt S s) : z_fldI none (mk S) s 7 10 k = k (Int32.ofInt (gI S s 10)) := by
  rcases h with (rfl | rfl | rfl) | ⟨h1, h2, h3, h4, h5, h6, h7, h8, h9⟩
  · exact r_5_10
  · exact r_12_10
  · exact r_19_10
  · exact L_fldI (st_dyn h1 h2) rfl
theorem st_w10 {k : zM → Option ρ} (h : isSt S s) : z_fset none (mk S) s 7 10 (.int x) k = k (mk (sI S s 10 x.toInt)) := by
  rcases h with (rfl | rfl | rfl) | ⟨h1, h2, h3, h4, h5, h6, h7, h8, h9⟩
  · exact w_5_10
  · exact w_12_10
  · exact w_19_10
  · exact G_setI (st_dyn h1 h2) rfl
theorem st_R0 {k : Nat → Option ρ} (h : isSt S s) : z_fldA none (mk S) s 7 0 k = k (s + 1) := by
  rcases h with (rfl | rfl | rfl) | ⟨h1, h2, h3, h4, h5, h6, h7, h8, h9⟩
  · exact r_5_0
  · exact r_12_0
  · exact r_19_0
  · exact L_fldQ (st_dyn h1 h2) rfl ((h3 0 (by omega)).trans (by congr 1))
theorem st_R1 {k : Nat → Option ρ} (h : isSt S s) : z_fldA none (mk S) s 7 1 k = k (s + 2) := by
  rcases h with (rfl | rfl | rfl) | ⟨h1, h2, h3, h4, h5, h6, h7, h8, h9⟩
  · exact r_5_1
  · exact r_12_1
  · exact r_19_1
  · exact L_fldQ (st_dyn h1 h2) rfl ((h3 1 (by omega)).trans (by congr 1))
theorem st_R2 {k : Nat → Option ρ} (h : isSt S s) : z_fldA none (mk S) s 7 2 k = k (s + 3) := by
  rcases h with (rfl | rfl | rfl) | ⟨h1, h2, h3, h4, h5, h6, h7, h8, h9⟩
  · exact r_5_2
  · exact r_12_2
  · exact r_19_2
  · exact L_fldQ (st_dyn h1 h2) rfl ((h3 2 (by omega)).trans (by congr 1))
theorem st_R3 {k : Nat → Option ρ} (h : isSt S s) : z_fldA none (mk S) s 7 3 k = k (s + 4) := by
  rcases h with (rfl | rfl | rfl) | ⟨h1, h2, h3, h4, h5, h6, h7, h8, h9⟩
  · exact r_5_3
  · exact r_12_3
  · exact r_19_3
  · exact L_fldQ (st_dyn h1 h2) rfl ((h3 3 (by omega)).trans (by congr 1))
theorem st_R4 {k : Nat → Option ρ} (h : isSt S s) : z_fldA none (mk S) s 7 4 k = k (s + 5) := by
  rcases h with (rfl | rfl | rfl) | ⟨h1, h2, h3, h4, h5, h6, h7, h8, h9⟩
  · exact r_5_4
  · exact r_12_4
  · exact r_19_4
  · exact L_fldQ (st_dyn h1 h2) rfl ((h3 4 (by omega)).trans (by congr 1))
theorem st_R5 {k : Nat → Option ρ} (h : isSt S s) : z_fldA none (mk S) s 7 5 k = k (s + 6) := by
  rcases h with (rfl | rfl | rfl) | ⟨h1, h2, h3, h4, h5, h6, h7, h8, h9⟩
  · exact r_5_5
  · exact r_12_5
  · exact r_19_5
  · exact L_fldQ (st_dyn h1 h2) rfl ((h3 5 (by omega)).trans (by congr 1))
theorem st_a1 {k : Int32 → Option ρ} (h : isSt S s) : z_ald X none (mk S) 0 (s + 1) i k = if 0 ≤ i.toInt ∧ i.toInt < 60 then k (Int32.ofInt (gI S (s + 1) i.toInt)) else none := G_ald (by rcases h with (rfl | rfl | rfl) | ⟨h1, -⟩ <;> omega) (Or.inl rfl) (st_d1 h)
theorem st_s1 {k : zM → Option ρ} (h : isSt S s) : z_ast none (mk S) 0 (s + 1) i x k = if 0 ≤ i.toInt ∧ i.toInt < 60 then k (mk (sI S (s + 1) i.toInt x.toInt)) else none := G_ast (st_d1 h)
theorem st_n1 {k : Int32 → Option ρ} (h : isSt S s) : z_len X none (mk S) (s + 1) k = k (Int32.ofInt 60) := L_len (by rcases h with (rfl | rfl | rfl) | ⟨h1, -⟩ <;> omega) (by decide) (st_d1 h)
theorem st_a2 {k : Int32 → Option ρ} (h : isSt S s) : z_ald X none (mk S) 0 (s + 2) i k = if 0 ≤ i.toInt ∧ i.toInt < 3 then k (Int32.ofInt (gI S (s + 2) i.toInt)) else none := G_ald (by rcases h with (rfl | rfl | rfl) | ⟨h1, -⟩ <;> omega) (Or.inl rfl) (st_d2 h)
theorem st_s2 {k : zM → Option ρ} (h : isSt S s) : z_ast none (mk S) 0 (s + 2) i x k = if 0 ≤ i.toInt ∧ i.toInt < 3 then k (mk (sI S (s + 2) i.toInt x.toInt)) else none := G_ast (st_d2 h)
theorem st_n2 {k : Int32 → Option ρ} (h : isSt S s) : z_len X none (mk S) (s + 2) k = k (Int32.ofInt 3) := L_len (by rcases h with (rfl | rfl | rfl) | ⟨h1, -⟩ <;> omega) (by decide) (st_d2 h)
theorem st_a3 {k : Int32 → Option ρ} (h : isSt S s) : z_ald X none (mk S) 0 (s + 3) i k = if 0 ≤ i.toInt ∧ i.toInt < 6 then k (Int32.ofInt (gI S (s + 3) i.toInt)) else none := G_ald (by rcases h with (rfl | rfl | rfl) | ⟨h1, -⟩ <;> omega) (Or.inl rfl) (st_d3 h)
theorem st_s3 {k : zM → Option ρ} (h : isSt S s) : z_ast none (mk S) 0 (s + 3) i x k = if 0 ≤ i.toInt ∧ i.toInt < 6 then k (mk (sI S (s + 3) i.toInt x.toInt)) else none := G_ast (st_d3 h)
theorem st_n3 {k : Int32 → Option ρ} (h : isSt S s) : z_len X none (mk S) (s + 3) k = k (Int32.ofInt 6) := L_len (by rcases h with (rfl | rfl | rfl) | ⟨h1, -⟩ <;> omega) (by decide) (st_d3 h)
theorem st_a4 {k : Int32 → Option ρ} (h : isSt S s) : z_ald X none (mk S) 0 (s + 4) i k = if 0 ≤ i.toInt ∧ i.toInt < 6 then k (Int32.ofInt (gI S (s + 4) i.toInt)) else none := G_ald (by rcases h with (rfl | rfl | rfl) | ⟨h1, -⟩ <;> omega) (Or.inl rfl) (st_d4 h)
theorem st_s4 {k : zM → Option ρ} (h : isSt S s) : z_ast none (mk S) 0 (s + 4) i x k = if 0 ≤ i.toInt ∧ i.toInt < 6 then k (mk (sI S (s + 4) i.toInt x.toInt)) else none := G_ast (st_d4 h)
theorem st_n4 {k : Int32 → Option ρ} (h : isSt S s) : z_len X none (mk S) (s + 4) k = k (Int32.ofInt 6) := L_len (by rcases h with (rfl | rfl | rfl) | ⟨h1, -⟩ <;> omega) (by decide) (st_d4 h)
theorem st_a5 {kn : Option ρ} {k : Nat → Option ρ} (h : isSt S s) : z_qld none (mk S) (s + 5) i kn k = if 0 ≤ i.toInt ∧ i.toInt < 6 then (match gQ S (s + 5) i.toInt with | none => kn | some q => k q) else none := G_qld (by decide) (by decide) (st_d5 h)
theorem st_n5 {k : Int32 → Option ρ} (h : isSt S s) : z_len X none (mk S) (s + 5) k = k (Int32.ofInt 6) := L_len (by rcases h with (rfl | rfl | rfl) | ⟨h1, -⟩ <;> omega) (by decide) (st_d5 h)
theorem st_a6 {kn : Option ρ} {k : Nat → Option ρ} (h : isSt S s) : z_qld none (mk S) (s + 6) i kn k = if 0 ≤ i.toInt ∧ i.toInt < 6 then (match gQ S (s + 6) i.toInt with | none => kn | some q => k q) else none := G_qld (by decide) (by decide) (st_d6 h)
theorem st_n6 {k : Int32 → Option ρ} (h : isSt S s) : z_len X none (mk S) (s + 6) k = k (Int32.ofInt 6) := L_len (by rcases h with (rfl | rfl | rfl) | ⟨h1, -⟩ <;> omega) (by decide) (st_d6 h)
end
def b01 (p : Prop) [Decidable p] : Int := if p then 1 else 0
theorem b01_rng (p : Prop) [Decidable p] : b01 p = 0 ∨ b01 p = 1 := by
  unfold b01; split
  · exact Or.inr rfl
  · exact Or.inl rfl
theorem b01_t {h : Decidable True} : @b01 True h = 1 := if_pos trivial
theorem b01_f {h : Decidable False} : @b01 False h = 0 := if_neg id
theorem i32_b01 (p : Prop) [Decidable p] : i32 (b01 p) = b01 p := by
  rcases b01_rng p with h | h <;> rw [h] <;> rfl
theorem b01_0 (p : Prop) [Decidable p] : (b01 p = 0) = ¬ p := by
  unfold b01; split
  · next q => simp [q]
  · next q => simp [q]
section
variable {ρ : Type} {X : zX} {M : zM} {i : Int32}
theorem a_s0 {k : Int32 → Option ρ} : z_ald X none M 0 0 i k = if 0 ≤ i.toInt ∧ i.toInt < 5 then k (z_rcf i.toInt.toNat) else none := by
  simp only [z_ald, z_stat, z_in_to, true_and]; rfl
theorem n_s0 {k : Int32 → Option ρ} : z_len X none M 0 k = k (Int32.ofInt 5) := rfl
theorem a_s1 {k : Int32 → Option ρ} : z_ald X none M 0 1 i k = if 0 ≤ i.toInt ∧ i.toInt < 3 then k (z_htf i.toInt.toNat) else none := by
  simp only [z_ald, z_stat, z_in_to, true_and]; rfl
theorem n_s1 {k : Int32 → Option ρ} : z_len X none M 1 k = k (Int32.ofInt 3) := rfl
theorem a_s2 {k : Int32 → Option ρ} : z_ald X none M 0 2 i k = if 0 ≤ i.toInt ∧ i.toInt < X.1 then k (X.2 i.toInt.toNat) else none := by
  simp only [z_ald, z_stat, z_in_to, true_and]; rfl
theorem n_s2 {k : Int32 → Option ρ} : z_len X none M 2 k = k (Int32.ofInt X.1) := rfl
end
/-- a byte of a number -/
def byt (x s : Int) : Int := ((Int32.ofInt x >>> (Int32.ofInt s &&& Int32.ofInt 31)) &&& Int32.ofInt 255).toInt
theorem byt_rng (x s : Int) : 0 ≤ byt x s ∧ byt x s ≤ 255 := by
  unfold byt
  generalize (Int32.ofInt x >>> (Int32.ofInt s &&& Int32.ofInt 31)) = y
  have h1 : (y &&& Int32.ofInt 255).toInt = ((y.toBitVec &&& 255#32).toInt) := by
    rw [← Int32.toInt_toBitVec, Int32.toBitVec_and]; rfl
  have h2 : (y.toBitVec &&& 255#32).toNat ≤ 255 := by
    rw [BitVec.toNat_and]; exact Nat.and_le_right
  rw [h1, BitVec.toInt_eq_toNat_of_lt (by omega)]
  omega
theorem byt_of (x s : Int) : ((Int32.ofInt x >>> (Int32.ofInt s &&& Int32.ofInt 31)) &&& Int32.ofInt 255) = Int32.ofInt (byt x s) := (i_toInt _).symm
