/-! the fixed cells, one by one -/
section
end
section
variable {ρ : Type} {X : zX} {S : zS} {i x : Int32} {y : Int64}
theorem zd4 (S : zS) : zdes S 4 = some (.inl (10, [5, 12, 19, 26, 27, 31, 35, 37, 41, 52, 56, 58, 68, 69, 70, 71, 0, 0, 0, 0])) := rfl
theorem o_4 {k : Option ρ} : z_obj none (mk S) (.ref 4) 10 k = k := L_obj (zd4 S)
theorem r_4_0 {k : Nat → Option ρ} : z_fldA none (mk S) 4 10 0 k = k 5 := L_fldA (r := 2) (zd4 S) rfl
theorem r_4_1 {k : Nat → Option ρ} : z_fldA none (mk S) 4 10 1 k = k 12 := L_fldA (r := 9) (zd4 S) rfl
theorem r_4_2 {k : Nat → Option ρ} : z_fldA none (mk S) 4 10 2 k = k 19 := L_fldA (r := 16) (zd4 S) rfl
theorem r_4_3 {k : Nat → Option ρ} : z_fldA none (mk S) 4 10 3 k = k 26 := L_fldA (r := 23) (zd4 S) rfl
theorem r_4_4 {k : Nat → Option ρ} : z_fldA none (mk S) 4 10 4 k = k 27 := L_fldA (r := 24) (zd4 S) rfl
theorem r_4_5 {k : Nat → Option ρ} : z_fldA none (mk S) 4 10 5 k = k 31 := L_fldA (r := 28) (zd4 S) rfl
theorem r_4_6 {k : Nat → Option ρ} : z_fldA none (mk S) 4 10 6 k = k 35 := L_fldA (r := 32) (zd4 S) rfl
theorem r_4_7 {k : Nat → Option ρ} : z_fldA none (mk S) 4 10 7 k = k 37 := L_fldA (r := 34) (zd4 S) rfl
theorem r_4_8 {k : Nat → Option ρ} : z_fldA none (mk S) 4 10 8 k = k 41 := L_fldA (r := 38) (zd4 S) rfl
theorem r_4_9 {k : Nat → Option ρ} : z_fldA none (mk S) 4 10 9 k = k 52 := L_fldA (r := 49) (zd4 S) rfl
theorem r_4_10 {k : Nat → Option ρ} : z_fldA none (mk S) 4 10 10 k = k 56 := L_fldA (r := 53) (zd4 S) rfl
theorem r_4_11 {k : Nat → Option ρ} : z_fldA none (mk S) 4 10 11 k = k 58 := L_fldA (r := 55) (zd4 S) rfl
theorem r_4_12 {k : Nat → Option ρ} : z_fldA none (mk S) 4 10 12 k = k 68 := L_fldA (r := 65) (zd4 S) rfl
theorem r_4_13 {k : Nat → Option ρ} : z_fldA none (mk S) 4 10 13 k = k 69 := L_fldA (r := 66) (zd4 S) rfl
theorem r_4_14 {k : Nat → Option ρ} : z_fldA none (mk S) 4 10 14 k = k 70 := L_fldA (r := 67) (zd4 S) rfl
theorem r_4_15 {k : Nat → Option ρ} : z_fldA none (mk S) 4 10 15 k = k 71 := L_fldA (r := 68) (zd4 S) rfl
theorem r_4_16 {k : Int32 → Option ρ} : z_fldI none (mk S) 4 10 16 k = k (Int32.ofInt (gI S 4 16)) := L_fldI (zd4 S) rfl
theorem w_4_16 {k : zM → Option ρ} : z_fset none (mk S) 4 10 16 (.int x) k = k (mk (sI S 4 16 x.toInt)) := G_setI (zd4 S) rfl
theorem r_4_17 {k : Int32 → Option ρ} : z_fldI none (mk S) 4 10 17 k = k (Int32.ofInt (gI S 4 17)) := L_fldI (zd4 S) rfl
theorem w_4_17 {k : zM → Option ρ} : z_fset none (mk S) 4 10 17 (.int x) k = k (mk (sI S 4 17 x.toInt)) := G_setI (zd4 S) rfl
theorem r_4_18 {k : Int32 → Option ρ} : z_fldI none (mk S) 4 10 18 k = k (Int32.ofInt (gI S 4 18)) := L_fldI (zd4 S) rfl
theorem w_4_18 {k : zM → Option ρ} : z_fset none (mk S) 4 10 18 (.int x) k = k (mk (sI S 4 18 x.toInt)) := G_setI (zd4 S) rfl
theorem r_4_19 {k : Int32 → Option ρ} : z_fldI none (mk S) 4 10 19 k = k (Int32.ofInt (gI S 4 19)) := L_fldI (zd4 S) rfl
theorem w_4_19 {k : zM → Option ρ} : z_fset none (mk S) 4 10 19 (.int x) k = k (mk (sI S 4 19 x.toInt)) := G_setI (zd4 S) rfl
theorem zd5 (S : zS) : zdes S 5 = some (.inl (7, [6, 7, 8, 9, 10, 11, 0, 0, 0, 0, 0])) := rfl
theorem o_5 {k : Option ρ} : z_obj none (mk S) (.ref 5) 7 k = k := L_obj (zd5 S)
theorem r_5_0 {k : Nat → Option ρ} : z_fldA none (mk S) 5 7 0 k = k 6 := L_fldA (r := 3) (zd5 S) rfl
theorem r_5_1 {k : Nat → Option ρ} : z_fldA none (mk S) 5 7 1 k = k 7 := L_fldA (r := 4) (zd5 S) rfl
theorem r_5_2 {k : Nat → Option ρ} : z_fldA none (mk S) 5 7 2 k = k 8 := L_fldA (r := 5) (zd5 S) rfl
theorem r_5_3 {k : Nat → Option ρ} : z_fldA none (mk S) 5 7 3 k = k 9 := L_fldA (r := 6) (zd5 S) rfl
theorem r_5_4 {k : Nat → Option ρ} : z_fldA none (mk S) 5 7 4 k = k 10 := L_fldA (r := 7) (zd5 S) rfl
theorem r_5_5 {k : Nat → Option ρ} : z_fldA none (mk S) 5 7 5 k = k 11 := L_fldA (r := 8) (zd5 S) rfl
theorem r_5_6 {k : Int32 → Option ρ} : z_fldI none (mk S) 5 7 6 k = k (Int32.ofInt (gI S 5 6)) := L_fldI (zd5 S) rfl
theorem w_5_6 {k : zM → Option ρ} : z_fset none (mk S) 5 7 6 (.int x) k = k (mk (sI S 5 6 x.toInt)) := G_setI (zd5 S) rfl
theorem r_5_7 {k : Int32 → Option ρ} : z_fldI none (mk S) 5 7 7 k = k (Int32.ofInt (gI S 5 7)) := L_fldI (zd5 S) rfl
theorem w_5_7 {k : zM → Option ρ} : z_fset none (mk S) 5 7 7 (.int x) k = k (mk (sI S 5 7 x.toInt)) := G_setI (zd5 S) rfl
theorem r_5_8 {k : Int32 → Option ρ} : z_fldI none (mk S) 5 7 8 k = k (Int32.ofInt (gI S 5 8)) := L_fldI (zd5 S) rfl
theorem w_5_8 {k : zM → Option ρ} : z_fset none (mk S) 5 7 8 (.int x) k = k (mk (sI S 5 8 x.toInt)) := G_setI (zd5 S) rfl
theorem r_5_9 {k : Int32 → Option ρ} : z_fldI none (mk S) 5 7 9 k = k (Int32.ofInt (gI S 5 9)) := L_fldI (zd5 S) rfl
theorem w_5_9 {k : zM → Option ρ} : z_fset none (mk S) 5 7 9 (.int x) k = k (mk (sI S 5 9 x.toInt)) := G_setI (zd5 S) rfl
theorem r_5_10 {k : Int32 → Option ρ} : z_fldI none (mk S) 5 7 10 k = k (Int32.ofInt (gI S 5 10)) := L_fldI (zd5 S) rfl
theorem w_5_10 {k : zM → Option ρ} : z_fset none (mk S) 5 7 10 (.int x) k = k (mk (sI S 5 10 x.toInt)) := G_setI (zd5 S) rfl
theorem zd6 (S : zS) : zdes S 6 = some (.inr (0, 60)) := rfl
theorem n_6 {k : Int32 → Option ρ} : z_len X none (mk S) 6 k = k (Int32.ofInt 60) := L_len (Nat.le_of_ble_eq_true rfl) (Nat.le_of_ble_eq_true rfl) (zd6 S)
theorem a_6 {k : Int32 → Option ρ} : z_ald X none (mk S) 0 6 i k = if 0 ≤ i.toInt ∧ i.toInt < 60 then k (Int32.ofInt (gI S 6 i.toInt)) else none := G_ald (Nat.le_of_ble_eq_true rfl) (Or.inl rfl) (zd6 S)
theorem s_6 {k : zM → Option ρ} : z_ast none (mk S) 0 6 i x k = if 0 ≤ i.toInt ∧ i.toInt < 60 then k (mk (sI S 6 i.toInt x.toInt)) else none := G_ast (zd6 S)
theorem zd7 (S : zS) : zdes S 7 = some (.inr (0, 3)) := rfl
theorem n_7 {k : Int32 → Option ρ} : z_len X none (mk S) 7 k = k (Int32.ofInt 3) := L_len (Nat.le_of_ble_eq_true rfl) (Nat.le_of_ble_eq_true rfl) (zd7 S)
theorem a_7 {k : Int32 → Option ρ} : z_ald X none (mk S) 0 7 i k = if 0 ≤ i.toInt ∧ i.toInt < 3 then k (Int32.ofInt (gI S 7 i.toInt)) else none := G_ald (Nat.le_of_ble_eq_true rfl) (Or.inl rfl) (zd7 S)
theorem s_7 {k : zM → Option ρ} : z_ast none (mk S) 0 7 i x k = if 0 ≤ i.toInt ∧ i.toInt < 3 then k (mk (sI S 7 i.toInt x.toInt)) else none := G_ast (zd7 S)
theorem zd8 (S : zS) : zdes S 8 = some (.inr (0, 6)) := rfl
theorem n_8 {k : Int32 → Option ρ} : z_len X none (mk S) 8 k = k (Int32.ofInt 6) := L_len (Nat.le_of_ble_eq_true rfl) (Nat.le_of_ble_eq_true rfl) (zd8 S)
theorem a_8 {k : Int32 → Option ρ} : z_ald X none (mk S) 0 8 i k = if 0 ≤ i.toInt ∧ i.toInt < 6 then k (Int32.ofInt (gI S 8 i.toInt)) else none := G_ald (Nat.le_of_ble_eq_true rfl) (Or.inl rfl) (zd8 S)
theorem s_8 {k : zM → Option ρ} : z_ast none (mk S) 0 8 i x k = if 0 ≤ i.toInt ∧ i.toInt < 6 then k (mk (sI S 8 i.toInt x.toInt)) else none := G_ast (zd8 S)
theorem zd9 (S : zS) : zdes S 9 = some (.inr (0, 6)) := rfl
theorem n_9 {k : Int32 → Option ρ} : z_len X none (mk S) 9 k = k (Int32.ofInt 6) := L_len (Nat.le_of_ble_eq_true rfl) (Nat.le_of_ble_eq_true rfl) (zd9 S)
theorem a_9 {k : Int32 → Option ρ} : z_ald X none (mk S) 0 9 i k = if 0 ≤ i.toInt ∧ i.toInt < 6 then k (Int32.ofInt (gI S 9 i.toInt)) else none := G_ald (Nat.le_of_ble_eq_true rfl) (Or.inl rfl) (zd9 S)
theorem s_9 {k : zM → Option ρ} : z_ast none (mk S) 0 9 i x k = if 0 ≤ i.toInt ∧ i.toInt < 6 then k (mk (sI S 9 i.toInt x.toInt)) else none := G_ast (zd9 S)
theorem zd10 (S : zS) : zdes S 10 = some (.inr (3, 6)) := rfl
theorem n_10 {k : Int32 → Option ρ} : z_len X none (mk S) 10 k = k (Int32.ofInt 6) := L_len (Nat.le_of_ble_eq_true rfl) (Nat.le_of_ble_eq_true rfl) (zd10 S)
theorem a_10 {kn : Option ρ} {k : Nat → Option ρ} : z_qld none (mk S) 10 i kn k = if 0 ≤ i.toInt ∧ i.toInt < 6 then (match gQ S 10 i.toInt with | none => kn | some q => k q) else none := G_qld (Nat.le_of_ble_eq_true rfl) (Nat.le_of_ble_eq_true rfl) (zd10 S)
theorem zd11 (S : zS) : zdes S 11 = some (.inr (4, 6)) := rfl
theorem n_11 {k : Int32 → Option ρ} : z_len X none (mk S) 11 k = k (Int32.ofInt 6) := L_len (Nat.le_of_ble_eq_true rfl) (Nat.le_of_ble_eq_true rfl) (zd11 S)
theorem a_11 {kn : Option ρ} {k : Nat → Option ρ} : z_qld none (mk S) 11 i kn k = if 0 ≤ i.toInt ∧ i.toInt < 6 then (match gQ S 11 i.toInt with | none => kn | some q => k q) else none := G_qld (Nat.le_of_ble_eq_true rfl) (Nat.le_of_ble_eq_true rfl) (zd11 S)
theorem zd12 (S : zS) : zdes S 12 = some (.inl (7, [13, 14, 15, 16, 17, 18, 0, 0, 0, 0, 0])) := rfl
theorem o_12 {k : Option ρ} : z_obj none (mk S) (.ref 12) 7 k = k := L_obj (zd12 S)
theorem r_12_0 {k : Nat → Option ρ} : z_fldA none (mk S) 12 7 0 k = k 13 := L_fldA (r := 10) (zd12 S) rfl
theorem r_12_1 {k : Nat → Option ρ} : z_fldA none (mk S) 12 7 1 k = k 14 := L_fldA (r := 11) (zd12 S) rfl
theorem r_12_2 {k : Nat → Option ρ} : z_fldA none (mk S) 12 7 2 k = k 15 := L_fldA (r := 12) (zd12 S) rfl
theorem r_12_3 {k : Nat → Option ρ} : z_fldA none (mk S) 12 7 3 k = k 16 := L_fldA (r := 13) (zd12 S) rfl
theorem r_12_4 {k : Nat → Option ρ} : z_fldA none (mk S) 12 7 4 k = k 17 := L_fldA (r := 14) (zd12 S) rfl
theorem r_12_5 {k : Nat → Option ρ} : z_fldA none (mk S) 12 7 5 k = k 18 := L_fldA (r := 15) (zd12 S) rfl
theorem r_12_6 {k : Int32 → Option ρ} : z_fldI none (mk S) 12 7 6 k = k (Int32.ofInt (gI S 12 6)) := L_fldI (zd12 S) rfl
theorem w_12_6 {k : zM → Option ρ} : z_fset none (mk S) 12 7 6 (.int x) k = k (mk (sI S 12 6 x.toInt)) := G_setI (zd12 S) rfl
theorem r_12_7 {k : Int32 → Option ρ} : z_fldI none (mk S) 12 7 7 k = k (Int32.ofInt (gI S 12 7)) := L_fldI (zd12 S) rfl
theorem w_12_7 {k : zM → Option ρ} : z_fset none (mk S) 12 7 7 (.int x) k = k (mk (sI S 12 7 x.toInt)) := G_setI (zd12 S) rfl
theorem r_12_8 {k : Int32 → Option ρ} : z_fldI none (mk S) 12 7 8 k = k (Int32.ofInt (gI S 12 8)) := L_fldI (zd12 S) rfl
theorem w_12_8 {k : zM → Option ρ} : z_fset none (mk S) 12 7 8 (.int x) k = k (mk (sI S 12 8 x.toInt)) := G_setI (zd12 S) rfl
theorem r_12_9 {k : Int32 → Option ρ} : z_fldI none (mk S) 12 7 9 k = k (Int32.ofInt (gI S 12 9)) := L_fldI (zd12 S) rfl
theorem w_12_9 {k : zM → Option ρ} : z_fset none (mk S) 12 7 9 (.int x) k = k (mk (sI S 12 9 x.toInt)) := G_setI (zd12 S) rfl
theorem r_12_10 {k : Int32 → Option ρ} : z_fldI none (mk S) 12 7 10 k = k (Int32.ofInt (gI S 12 10)) := L_fldI (zd12 S) rfl
theorem w_12_10 {k : zM → Option ρ} : z_fset none (mk S) 12 7 10 (.int x) k = k (mk (sI S 12 10 x.toInt)) := G_setI (zd12 S) rfl
theorem zd13 (S : zS) : zdes S 13 = some (.inr (0, 60)) := rfl
theorem n_13 {k : Int32 → Option ρ} : z_len X none (mk S) 13 k = k (Int32.ofInt 60) := L_len (Nat.le_of_ble_eq_true rfl) (Nat.le_of_ble_eq_true rfl) (zd13 S)
theorem a_13 {k : Int32 → Option ρ} : z_ald X none (mk S) 0 13 i k = if 0 ≤ i.toInt ∧ i.toInt < 60 then k (Int32.ofInt (gI S 13 i.toInt)) else none := G_ald (Nat.le_of_ble_eq_true rfl) (Or.inl rfl) (zd13 S)
theorem s_13 {k : zM → Option ρ} : z_ast none (mk S) 0 13 i x k = if 0 ≤ i.toInt ∧ i.toInt < 60 then k (mk (sI S 13 i.toInt x.toInt)) else none := G_ast (zd13 S)
theorem zd14 (S : zS) : zdes S 14 = some (.inr (0, 3)) := rfl
theorem n_14 {k : Int32 → Option ρ} : z_len X none (mk S) 14 k = k (Int32.ofInt 3) := L_len (Nat.le_of_ble_eq_true rfl) (Nat.le_of_ble_eq_true rfl) (zd14 S)
theorem a_14 {k : Int32 → Option ρ} : z_ald X none (mk S) 0 14 i k = if 0 ≤ i.toInt ∧ i.toInt < 3 then k (Int32.ofInt (gI S 14 i.toInt)) else none := G_ald (Nat.le_of_ble_eq_true rfl) (Or.inl rfl) (zd14 S)
theorem s_14 {k : zM → Option ρ} : z_ast none (mk S) 0 14 i x k = if 0 ≤ i.toInt ∧ i.toInt < 3 then k (mk (sI S 14 i.toInt x.toInt)) else none := G_ast (zd14 S)
theorem zd15 (S : zS) : zdes S 15 = some (.inr (0, 6)) := rfl
theorem n_15 {k : Int32 → Option ρ} : z_len X none (mk S) 15 k = k (Int32.ofInt 6) := L_len (Nat.le_of_ble_eq_true rfl) (Nat.le_of_ble_eq_true rfl) (zd15 S)
theorem a_15 {k : Int32 → Option ρ} : z_ald X none (mk S) 0 15 i k = if 0 ≤ i.toInt ∧ i.toInt < 6 then k (Int32.ofInt (gI S 15 i.toInt)) else none := G_ald (Nat.le_of_ble_eq_true rfl) (Or.inl rfl) (zd15 S)
theorem s_15 {k : zM → Option ρ} : z_ast none (mk S) 0 15 i x k = if 0 ≤ i.toInt ∧ i.toInt < 6 then k (mk (sI S 15 i.toInt x.toInt)) else none := G_ast (zd15 S)
theorem zd16 (S : zS) : zdes S 16 = some (.inr (0, 6)) := rfl
theorem n_16 {k : Int32 → Option ρ} : z_len X none (mk S) 16 k = k (Int32.ofInt 6) := L_len (Nat.le_of_ble_eq_true rfl) (Nat.le_of_ble_eq_true rfl) (zd16 S)
theorem a_16 {k : Int32 → Option ρ} : z_ald X none (mk S) 0 16 i k = if 0 ≤ i.toInt ∧ i.toInt < 6 then k (Int32.ofInt (gI S 16 i.toInt)) else none := G_ald (Nat.le_of_ble_eq_true rfl) (Or.inl rfl) (zd16 S)
theorem s_16 {k : zM → Option ρ} : z_ast none (mk S) 0 16 i x k = if 0 ≤ i.toInt ∧ i.toInt < 6 then k (mk (sI S 16 i.toInt x.toInt)) else none := G_ast (zd16 S)
theorem zd17 (S : zS) : zdes S 17 = some (.inr (3, 6)) := rfl
theorem n_17 {k : Int32 → Option ρ} : z_len X none (mk S) 17 k = k (Int32.ofInt 6) := L_len (Nat.le_of_ble_eq_true rfl) (Nat.le_of_ble_eq_true rfl) (zd17 S)
theorem a_17 {kn : Option ρ} {k : Nat → Option ρ} : z_qld none (mk S) 17 i kn k = if 0 ≤ i.toInt ∧ i.toInt < 6 then (match gQ S 17 i.toInt with | none => kn | some q => k q) else none := G_qld (Nat.le_of_ble_eq_true rfl) (Nat.le_of_ble_eq_true rfl) (zd17 S)
theorem zd18 (S : zS) : zdes S 18 = some (.inr (4, 6)) := rfl
theorem n_18 {k : Int32 → Option ρ} : z_len X none (mk S) 18 k = k (Int32.ofInt 6) := L_len (Nat.le_of_ble_eq_true rfl) (Nat.le_of_ble_eq_true rfl) (zd18 S)
theorem a_18 {kn : Option ρ} {k : Nat → Option ρ} : z_qld none (mk S) 18 i kn k = if 0 ≤ i.toInt ∧ i.toInt < 6 then (match gQ S 18 i.toInt with | none => kn | some q => k q) else none := G_qld (Nat.le_of_ble_eq_true rfl) (Nat.le_of_ble_eq_true rfl) (zd18 S)
theorem zd19 (S : zS) : zdes S 19 = some (.inl (7, [20, 21, 22, 23, 24, 25, 0, 0, 0, 0, 0])) := rfl
theorem o_19 {k : Option ρ} : z_obj none (mk S) (.ref 19) 7 k = k := L_obj (zd19 S)
theorem r_19_0 {k : Nat → Option ρ} : z_fldA none (mk S) 19 7 0 k = k 20 := L_fldA (r := 17) (zd19 S) rfl
theorem r_19_1 {k : Nat → Option ρ} : z_fldA none (mk S) 19 7 1 k = k 21 := L_fldA (r := 18) (zd19 S) rfl
theorem r_19_2 {k : Nat → Option ρ} : z_fldA none (mk S) 19 7 2 k = k 22 := L_fldA (r := 19) (zd19 S) rfl
theorem r_19_3 {k : Nat → Option ρ} : z_fldA none (mk S) 19 7 3 k = k 23 := L_fldA (r := 20) (zd19 S) rfl
theorem r_19_4 {k : Nat → Option ρ} : z_fldA none (mk S) 19 7 4 k = k 24 := L_fldA (r := 21) (zd19 S) rfl
theorem r_19_5 {k : Nat → Option ρ} : z_fldA none (mk S) 19 7 5 k = k 25 := L_fldA (r := 22) (zd19 S) rfl
theorem r_19_6 {k : Int32 → Option ρ} : z_fldI none (mk S) 19 7 6 k = k (Int32.ofInt (gI S 19 6)) := L_fldI (zd19 S) rfl
theorem w_19_6 {k : zM → Option ρ} : z_fset none (mk S) 19 7 6 (.int x) k = k (mk (sI S 19 6 x.toInt)) := G_setI (zd19 S) rfl
theorem r_19_7 {k : Int32 → Option ρ} : z_fldI none (mk S) 19 7 7 k = k (Int32.ofInt (gI S 19 7)) := L_fldI (zd19 S) rfl
theorem w_19_7 {k : zM → Option ρ} : z_fset none (mk S) 19 7 7 (.int x) k = k (mk (sI S 19 7 x.toInt)) := G_setI (zd19 S) rfl
theorem r_19_8 {k : Int32 → Option ρ} : z_fldI none (mk S) 19 7 8 k = k (Int32.ofInt (gI S 19 8)) := L_fldI (zd19 S) rfl
theorem w_19_8 {k : zM → Option ρ} : z_fset none (mk S) 19 7 8 (.int x) k = k (mk (sI S 19 8 x.toInt)) := G_setI (zd19 S) rfl
theorem r_19_9 {k : Int32 → Option ρ} : z_fldI none (mk S) 19 7 9 k = k (Int32.ofInt (gI S 19 9)) := L_fldI (zd19 S) rfl
theorem w_19_9 {k : zM → Option ρ} : z_fset none (mk S) 19 7 9 (.int x) k = k (mk (sI S 19 9 x.toInt)) := G_setI (zd19 S) rfl
theorem r_19_10 {k : Int32 → Option ρ} : z_fldI none (mk S) 19 7 10 k = k (Int32.ofInt (gI S 19 10)) := L_fldI (zd19 S) rfl
theorem w_19_10 {k : zM → Option ρ} : z_fset none (mk S) 19 7 10 (.int x) k = k (mk (sI S 19 10 x.toInt)) := G_setI (zd19 S) rfl
theorem zd20 (S : zS) : zdes S 20 = some (.inr (0, 60)) := rfl
theorem n_20 {k : Int32 → Option ρ} : z_len X none (mk S) 20 k = k (Int32.ofInt 60) := L_len (Nat.le_of_ble_eq_true rfl) (Nat.le_of_ble_eq_true rfl) (zd20 S)
theorem a_20 {k : Int32 → Option ρ} : z_ald X none (mk S) 0 20 i k = if 0 ≤ i.toInt ∧ i.toInt < 60 then k (Int32.ofInt (gI S 20 i.toInt)) else none := G_ald (Nat.le_of_ble_eq_true rfl) (Or.inl rfl) (zd20 S)
theorem s_20 {k : zM → Option ρ} : z_ast none (mk S) 0 20 i x k = if 0 ≤ i.toInt ∧ i.toInt < 60 then k (mk (sI S 20 i.toInt x.toInt)) else none := G_ast (zd20 S)
theorem zd21 (S : zS) : zdes S 21 = some (.inr (0, 3)) := rfl
theorem n_21 {k : Int32 → Option ρ} : z_len X none (mk S) 21 k = k (Int32.ofInt 3) := L_len (Nat.le_of_ble_eq_true rfl) (Nat.le_of_ble_eq_true rfl) (zd21 S)
theorem a_21 {k : Int32 → Option ρ} : z_ald X none (mk S) 0 21 i k = if 0 ≤ i.toInt ∧ i.toInt < 3 then k (Int32.ofInt (gI S 21 i.toInt)) else none := G_ald (Nat.le_of_ble_eq_true rfl) (Or.inl rfl) (zd21 S)
theorem s_21 {k : zM → Option ρ} : z_ast none (mk S) 0 21 i x k = if 0 ≤ i.toInt ∧ i.toInt < 3 then k (mk (sI S 21 i.toInt x.toInt)) else none := G_ast (zd21 S)
theorem zd22 (S : zS) : zdes S 22 = some (.inr (0, 6)) := rfl
theorem n_22 {k : Int32 → Option ρ} : z_len X none (mk S) 22 k = k (Int32.ofInt 6) := L_len (Nat.le_of_ble_eq_true rfl) (Nat.le_of_ble_eq_true rfl) (zd22 S)
theorem a_22 {k : Int32 → Option ρ} : z_ald X none (mk S) 0 22 i k = if 0 ≤ i.toInt ∧ i.toInt < 6 then k (Int32.ofInt (gI S 22 i.toInt)) else none := G_ald (Nat.le_of_ble_eq_true rfl) (Or.inl rfl) (zd22 S)
theorem s_22 {k : zM → Option ρ} : z_ast none (mk S) 0 22 i x k = if 0 ≤ i.toInt ∧ i.toInt < 6 then k (mk (sI S 22 i.toInt x.toInt)) else none := G_ast (zd22 S)
theorem zd23 (S : zS) : zdes S 23 = some (.inr (0, 6)) := rfl
theorem n_23 {k : Int32 → Option ρ} : z_len X none (mk S) 23 k = k (Int32.ofInt 6) := L_len (Nat.le_of_ble_eq_true rfl) (Nat.le_of_ble_eq_true rfl) (zd23 S)
theorem a_23 {k : Int32 → Option ρ} : z_ald X none (mk S) 0 23 i k = if 0 ≤ i.toInt ∧ i.toInt < 6 then k (Int32.ofInt (gI S 23 i.toInt)) else none := G_ald (Nat.le_of_ble_eq_true rfl) (Or.inl rfl) (zd23 S)
theorem s_23 {k : zM → Option ρ} : z_ast none (mk S) 0 23 i x k = if 0 ≤ i.toInt ∧ i.toInt < 6 then k (mk (sI S 23 i.toInt x.toInt)) else none := G_ast (zd23 S)
theorem zd24 (S : zS) : zdes S 24 = some (.inr (3, 6)) := rfl
theorem n_24 {k : Int32 → Option ρ} : z_len X none (mk S) 24 k = k (Int32.ofInt 6) := L_len (Nat.le_of_ble_eq_true rfl) (Nat.le_of_ble_eq_true rfl) (zd24 S)
theorem a_24 {kn : Option ρ} {k : Nat → Option ρ} : z_qld none (mk S) 24 i kn k = if 0 ≤ i.toInt ∧ i.toInt < 6 then (match gQ S 24 i.toInt with | none => kn | some q => k q) else none := G_qld (Nat.le_of_ble_eq_true rfl) (Nat.le_of_ble_eq_true rfl) (zd24 S)
theorem zd25 (S : zS) : zdes S 25 = some (.inr (4, 6)) := rfl
theorem n_25 {k : Int32 → Option ρ} : z_len X none (mk S) 25 k = k (Int32.ofInt 6) := L_len (Nat.le_of_ble_eq_true rfl) (Nat.le_of_ble_eq_true rfl) (zd25 S)
theorem a_25 {kn : Option ρ} {k : Nat → Option ρ} : z_qld none (mk S) 25 i kn k = if 0 ≤ i.toInt ∧ i.toInt < 6 then (match gQ S 25 i.toInt with | none => kn | some q => k q) else none := G_qld (Nat.le_of_ble_eq_true rfl) (Nat.le_of_ble_eq_true rfl) (zd25 S)
theorem zd26 (S : zS) : zdes S 26 = some (.inr (5, 2)) := rfl
theorem n_26 {k : Int32 → Option ρ} : z_len X none (mk S) 26 k = k (Int32.ofInt 2) := L_len (Nat.le_of_ble_eq_true rfl) (Nat.le_of_ble_eq_true rfl) (zd26 S)
theorem a_26 {kn : Option ρ} {k : Nat → Option ρ} : z_qld none (mk S) 26 i kn k = if 0 ≤ i.toInt ∧ i.toInt < 2 then (match gQ S 26 i.toInt with | none => kn | some q => k q) else none := G_qld (Nat.le_of_ble_eq_true rfl) (Nat.le_of_ble_eq_true rfl) (zd26 S)
theorem zd27 (S : zS) : zdes S 27 = some (.inl (2, [28, 29, 30, 0])) := rfl
theorem o_27 {k : Option ρ} : z_obj none (mk S) (.ref 27) 2 k = k := L_obj (zd27 S)
theorem r_27_0 {k : Nat → Option ρ} : z_fldA none (mk S) 27 2 0 k = k 28 := L_fldA (r := 25) (zd27 S) rfl
theorem r_27_1 {k : Nat → Option ρ} : z_fldA none (mk S) 27 2 1 k = k 29 := L_fldA (r := 26) (zd27 S) rfl
theorem r_27_2 {k : Nat → Option ρ} : z_fldA none (mk S) 27 2 2 k = k 30 := L_fldA (r := 27) (zd27 S) rfl
theorem r_27_3 {k : Int32 → Option ρ} : z_fldI none (mk S) 27 2 3 k = k (Int32.ofInt (gI S 27 3)) := L_fldI (zd27 S) rfl
theorem w_27_3 {k : zM → Option ρ} : z_fset none (mk S) 27 2 3 (.int x) k = k (mk (sI S 27 3 x.toInt)) := G_setI (zd27 S) rfl
theorem zd28 (S : zS) : zdes S 28 = some (.inr (0, 16)) := rfl
theorem n_28 {k : Int32 → Option ρ} : z_len X none (mk S) 28 k = k (Int32.ofInt 16) := L_len (Nat.le_of_ble_eq_true rfl) (Nat.le_of_ble_eq_true rfl) (zd28 S)
theorem a_28 {k : Int32 → Option ρ} : z_ald X none (mk S) 0 28 i k = if 0 ≤ i.toInt ∧ i.toInt < 16 then k (Int32.ofInt (gI S 28 i.toInt)) else none := G_ald (Nat.le_of_ble_eq_true rfl) (Or.inl rfl) (zd28 S)
theorem s_28 {k : zM → Option ρ} : z_ast none (mk S) 0 28 i x k = if 0 ≤ i.toInt ∧ i.toInt < 16 then k (mk (sI S 28 i.toInt x.toInt)) else none := G_ast (zd28 S)
theorem zd29 (S : zS) : zdes S 29 = some (.inr (0, 16)) := rfl
theorem n_29 {k : Int32 → Option ρ} : z_len X none (mk S) 29 k = k (Int32.ofInt 16) := L_len (Nat.le_of_ble_eq_true rfl) (Nat.le_of_ble_eq_true rfl) (zd29 S)
theorem a_29 {k : Int32 → Option ρ} : z_ald X none (mk S) 0 29 i k = if 0 ≤ i.toInt ∧ i.toInt < 16 then k (Int32.ofInt (gI S 29 i.toInt)) else none := G_ald (Nat.le_of_ble_eq_true rfl) (Or.inl rfl) (zd29 S)
theorem s_29 {k : zM → Option ρ} : z_ast none (mk S) 0 29 i x k = if 0 ≤ i.toInt ∧ i.toInt < 16 then k (mk (sI S 29 i.toInt x.toInt)) else none := G_ast (zd29 S)
theorem zd30 (S : zS) : zdes S 30 = some (.inr (0, 16)) := rfl
theorem n_30 {k : Int32 → Option ρ} : z_len X none (mk S) 30 k = k (Int32.ofInt 16) := L_len (Nat.le_of_ble_eq_true rfl) (Nat.le_of_ble_eq_true rfl) (zd30 S)
theorem a_30 {k : Int32 → Option ρ} : z_ald X none (mk S) 0 30 i k = if 0 ≤ i.toInt ∧ i.toInt < 16 then k (Int32.ofInt (gI S 30 i.toInt)) else none := G_ald (Nat.le_of_ble_eq_true rfl) (Or.inl rfl) (zd30 S)
theorem s_30 {k : zM → Option ρ} : z_ast none (mk S) 0 30 i x k = if 0 ≤ i.toInt ∧ i.toInt < 16 then k (mk (sI S 30 i.toInt x.toInt)) else none := G_ast (zd30 S)
theorem zd31 (S : zS) : zdes S 31 = some (.inl (2, [32, 33, 34, 0])) := rfl
theorem o_31 {k : Option ρ} : z_obj none (mk S) (.ref 31) 2 k = k := L_obj (zd31 S)
theorem r_31_0 {k : Nat → Option ρ} : z_fldA none (mk S) 31 2 0 k = k 32 := L_fldA (r := 29) (zd31 S) rfl
theorem r_31_1 {k : Nat → Option ρ} : z_fldA none (mk S) 31 2 1 k = k 33 := L_fldA (r := 30) (zd31 S) rfl
theorem r_31_2 {k : Nat → Option ρ} : z_fldA none (mk S) 31 2 2 k = k 34 := L_fldA (r := 31) (zd31 S) rfl
theorem r_31_3 {k : Int32 → Option ρ} : z_fldI none (mk S) 31 2 3 k = k (Int32.ofInt (gI S 31 3)) := L_fldI (zd31 S) rfl
theorem w_31_3 {k : zM → Option ρ} : z_fset none (mk S) 31 2 3 (.int x) k = k (mk (sI S 31 3 x.toInt)) := G_setI (zd31 S) rfl
theorem zd32 (S : zS) : zdes S 32 = some (.inr (0, 16)) := rfl
theorem n_32 {k : Int32 → Option ρ} : z_len X none (mk S) 32 k = k (Int32.ofInt 16) := L_len (Nat.le_of_ble_eq_true rfl) (Nat.le_of_ble_eq_true rfl) (zd32 S)
theorem a_32 {k : Int32 → Option ρ} : z_ald X none (mk S) 0 32 i k = if 0 ≤ i.toInt ∧ i.toInt < 16 then k (Int32.ofInt (gI S 32 i.toInt)) else none := G_ald (Nat.le_of_ble_eq_true rfl) (Or.inl rfl) (zd32 S)
theorem s_32 {k : zM → Option ρ} : z_ast none (mk S) 0 32 i x k = if 0 ≤ i.toInt ∧ i.toInt < 16 then k (mk (sI S 32 i.toInt x.toInt)) else none := G_ast (zd32 S)
theorem zd33 (S : zS) : zdes S 33 = some (.inr (0, 16)) := rfl
theorem n_33 {k : Int32 → Option ρ} : z_len X none (mk S) 33 k = k (Int32.ofInt 16) := L_len (Nat.le_of_ble_eq_true rfl) (Nat.le_of_ble_eq_true rfl) (zd33 S)
theorem a_33 {k : Int32 → Option ρ} : z_ald X none (mk S) 0 33 i k = if 0 ≤ i.toInt ∧ i.toInt < 16 then k (Int32.ofInt (gI S 33 i.toInt)) else none := G_ald (Nat.le_of_ble_eq_true rfl) (Or.inl rfl) (zd33 S)
theorem s_33 {k : zM → Option ρ} : z_ast none (mk S) 0 33 i x k = if 0 ≤ i.toInt ∧ i.toInt < 16 then k (mk (sI S 33 i.toInt x.toInt)) else none := G_ast (zd33 S)
theorem zd34 (S : zS) : zdes S 34 = some (.inr (0, 16)) := rfl
theorem n_34 {k : Int32 → Option ρ} : z_len X none (mk S) 34 k = k (Int32.ofInt 16) := L_len (Nat.le_of_ble_eq_true rfl) (Nat.le_of_ble_eq_true rfl) (zd34 S)
theorem a_34 {k : Int32 → Option ρ} : z_ald X none (mk S) 0 34 i k = if 0 ≤ i.toInt ∧ i.toInt < 16 then k (Int32.ofInt (gI S 34 i.toInt)) else none := G_ald (Nat.le_of_ble_eq_true rfl) (Or.inl rfl) (zd34 S)
theorem s_34 {k : zM → Option ρ} : z_ast none (mk S) 0 34 i x k = if 0 ≤ i.toInt ∧ i.toInt < 16 then k (mk (sI S 34 i.toInt x.toInt)) else none := G_ast (zd34 S)
theorem zd35 (S : zS) : zdes S 35 = some (.inl (8, [36, 0])) := rfl
theorem o_35 {k : Option ρ} : z_obj none (mk S) (.ref 35) 8 k = k := L_obj (zd35 S)
theorem r_35_0 {k : Nat → Option ρ} : z_fldA none (mk S) 35 8 0 k = k 36 := L_fldA (r := 33) (zd35 S) rfl
theorem r_35_1 {k : Int32 → Option ρ} : z_fldI none (mk S) 35 8 1 k = k (Int32.ofInt (gI S 35 1)) := L_fldI (zd35 S) rfl
theorem w_35_1 {k : zM → Option ρ} : z_fset none (mk S) 35 8 1 (.int x) k = k (mk (sI S 35 1 x.toInt)) := G_setI (zd35 S) rfl
theorem zd36 (S : zS) : zdes S 36 = some (.inr (0, 400)) := rfl
theorem n_36 {k : Int32 → Option ρ} : z_len X none (mk S) 36 k = k (Int32.ofInt 400) := L_len (Nat.le_of_ble_eq_true rfl) (Nat.le_of_ble_eq_true rfl) (zd36 S)
theorem a_36 {k : Int32 → Option ρ} : z_ald X none (mk S) 0 36 i k = if 0 ≤ i.toInt ∧ i.toInt < 400 then k (Int32.ofInt (gI S 36 i.toInt)) else none := G_ald (Nat.le_of_ble_eq_true rfl) (Or.inl rfl) (zd36 S)
theorem s_36 {k : zM → Option ρ} : z_ast none (mk S) 0 36 i x k = if 0 ≤ i.toInt ∧ i.toInt < 400 then k (mk (sI S 36 i.toInt x.toInt)) else none := G_ast (zd36 S)
theorem zd37 (S : zS) : zdes S 37 = some (.inl (9, [38, 39, 40, 0, 0, 0])) := rfl
theorem o_37 {k : Option ρ} : z_obj none (mk S) (.ref 37) 9 k = k := L_obj (zd37 S)
theorem r_37_0 {k : Nat → Option ρ} : z_fldA none (mk S) 37 9 0 k = k 38 := L_fldA (r := 35) (zd37 S) rfl
theorem r_37_1 {k : Nat → Option ρ} : z_fldA none (mk S) 37 9 1 k = k 39 := L_fldA (r := 36) (zd37 S) rfl
theorem r_37_2 {k : Nat → Option ρ} : z_fldA none (mk S) 37 9 2 k = k 40 := L_fldA (r := 37) (zd37 S) rfl
theorem r_37_3 {k : Int32 → Option ρ} : z_fldI none (mk S) 37 9 3 k = k (Int32.ofInt (gI S 37 3)) := L_fldI (zd37 S) rfl
theorem w_37_3 {k : zM → Option ρ} : z_fset none (mk S) 37 9 3 (.int x) k = k (mk (sI S 37 3 x.toInt)) := G_setI (zd37 S) rfl
theorem r_37_4 {k : Int32 → Option ρ} : z_fldI none (mk S) 37 9 4 k = k (Int32.ofInt (gI S 37 4)) := L_fldI (zd37 S) rfl
theorem w_37_4 {k : zM → Option ρ} : z_fset none (mk S) 37 9 4 (.int x) k = k (mk (sI S 37 4 x.toInt)) := G_setI (zd37 S) rfl
theorem r_37_5 {k : Int32 → Option ρ} : z_fldI none (mk S) 37 9 5 k = k (Int32.ofInt (gI S 37 5)) := L_fldI (zd37 S) rfl
theorem w_37_5 {k : zM → Option ρ} : z_fset none (mk S) 37 9 5 (.int x) k = k (mk (sI S 37 5 x.toInt)) := G_setI (zd37 S) rfl
theorem zd38 (S : zS) : zdes S 38 = some (.inr (0, 401)) := rfl
theorem n_38 {k : Int32 → Option ρ} : z_len X none (mk S) 38 k = k (Int32.ofInt 401) := L_len (Nat.le_of_ble_eq_true rfl) (Nat.le_of_ble_eq_true rfl) (zd38 S)
theorem a_38 {k : Int32 → Option ρ} : z_ald X none (mk S) 0 38 i k = if 0 ≤ i.toInt ∧ i.toInt < 401 then k (Int32.ofInt (gI S 38 i.toInt)) else none := G_ald (Nat.le_of_ble_eq_true rfl) (Or.inl rfl) (zd38 S)
theorem s_38 {k : zM → Option ρ} : z_ast none (mk S) 0 38 i x k = if 0 ≤ i.toInt ∧ i.toInt < 401 then k (mk (sI S 38 i.toInt x.toInt)) else none := G_ast (zd38 S)
theorem zd39 (S : zS) : zdes S 39 = some (.inr (0, 401)) := rfl
theorem n_39 {k : Int32 → Option ρ} : z_len X none (mk S) 39 k = k (Int32.ofInt 401) := L_len (Nat.le_of_ble_eq_true rfl) (Nat.le_of_ble_eq_true rfl) (zd39 S)
theorem a_39 {k : Int32 → Option ρ} : z_ald X none (mk S) 0 39 i k = if 0 ≤ i.toInt ∧ i.toInt < 401 then k (Int32.ofInt (gI S 39 i.toInt)) else none := G_ald (Nat.le_of_ble_eq_true rfl) (Or.inl rfl) (zd39 S)
theorem s_39 {k : zM → Option ρ} : z_ast none (mk S) 0 39 i x k = if 0 ≤ i.toInt ∧ i.toInt < 401 then k (mk (sI S 39 i.toInt x.toInt)) else none := G_ast (zd39 S)
theorem zd40 (S : zS) : zdes S 40 = some (.inr (0, 401)) := rfl
theorem n_40 {k : Int32 → Option ρ} : z_len X none (mk S) 40 k = k (Int32.ofInt 401) := L_len (Nat.le_of_ble_eq_true rfl) (Nat.le_of_ble_eq_true rfl) (zd40 S)
theorem a_40 {k : Int32 → Option ρ} : z_ald X none (mk S) 0 40 i k = if 0 ≤ i.toInt ∧ i.toInt < 401 then k (Int32.ofInt (gI S 40 i.toInt)) else none := G_ald (Nat.le_of_ble_eq_true rfl) (Or.inl rfl) (zd40 S)
theorem s_40 {k : zM → Option ρ} : z_ast none (mk S) 0 40 i x k = if 0 ≤ i.toInt ∧ i.toInt < 401 then k (mk (sI S 40 i.toInt x.toInt)) else none := G_ast (zd40 S)
theorem zd41 (S : zS) : zdes S 41 = some (.inl (4, [42, 43, 44, 45, 46, 47, 48, 49, 50, 51, 0])) := rfl
theorem o_41 {k : Option ρ} : z_obj none (mk S) (.ref 41) 4 k = k := L_obj (zd41 S)
theorem r_41_0 {k : Nat → Option ρ} : z_fldA none (mk S) 41 4 0 k = k 42 := L_fldA (r := 39) (zd41 S) rfl
theorem r_41_1 {k : Nat → Option ρ} : z_fldA none (mk S) 41 4 1 k = k 43 := L_fldA (r := 40) (zd41 S) rfl
theorem r_41_2 {k : Nat → Option ρ} : z_fldA none (mk S) 41 4 2 k = k 44 := L_fldA (r := 41) (zd41 S) rfl
theorem r_41_3 {k : Nat → Option ρ} : z_fldA none (mk S) 41 4 3 k = k 45 := L_fldA (r := 42) (zd41 S) rfl
theorem r_41_4 {k : Nat → Option ρ} : z_fldA none (mk S) 41 4 4 k = k 46 := L_fldA (r := 43) (zd41 S) rfl
theorem r_41_5 {k : Nat → Option ρ} : z_fldA none (mk S) 41 4 5 k = k 47 := L_fldA (r := 44) (zd41 S) rfl
theorem r_41_6 {k : Nat → Option ρ} : z_fldA none (mk S) 41 4 6 k = k 48 := L_fldA (r := 45) (zd41 S) rfl
theorem r_41_7 {k : Nat → Option ρ} : z_fldA none (mk S) 41 4 7 k = k 49 := L_fldA (r := 46) (zd41 S) rfl
theorem r_41_8 {k : Nat → Option ρ} : z_fldA none (mk S) 41 4 8 k = k 50 := L_fldA (r := 47) (zd41 S) rfl
theorem r_41_9 {k : Nat → Option ρ} : z_fldA none (mk S) 41 4 9 k = k 51 := L_fldA (r := 48) (zd41 S) rfl
theorem r_41_10 {k : Int32 → Option ρ} : z_fldI none (mk S) 41 4 10 k = k (Int32.ofInt (gI S 41 10)) := L_fldI (zd41 S) rfl
theorem w_41_10 {k : zM → Option ρ} : z_fset none (mk S) 41 4 10 (.int x) k = k (mk (sI S 41 10 x.toInt)) := G_setI (zd41 S) rfl
theorem zd42 (S : zS) : zdes S 42 = some (.inr (0, 402)) := rfl
theorem n_42 {k : Int32 → Option ρ} : z_len X none (mk S) 42 k = k (Int32.ofInt 402) := L_len (Nat.le_of_ble_eq_true rfl) (Nat.le_of_ble_eq_true rfl) (zd42 S)
theorem a_42 {k : Int32 → Option ρ} : z_ald X none (mk S) 0 42 i k = if 0 ≤ i.toInt ∧ i.toInt < 402 then k (Int32.ofInt (gI S 42 i.toInt)) else none := G_ald (Nat.le_of_ble_eq_true rfl) (Or.inl rfl) (zd42 S)
theorem s_42 {k : zM → Option ρ} : z_ast none (mk S) 0 42 i x k = if 0 ≤ i.toInt ∧ i.toInt < 402 then k (mk (sI S 42 i.toInt x.toInt)) else none := G_ast (zd42 S)
theorem zd43 (S : zS) : zdes S 43 = some (.inr (0, 402)) := rfl
theorem n_43 {k : Int32 → Option ρ} : z_len X none (mk S) 43 k = k (Int32.ofInt 402) := L_len (Nat.le_of_ble_eq_true rfl) (Nat.le_of_ble_eq_true rfl) (zd43 S)
theorem a_43 {k : Int32 → Option ρ} : z_ald X none (mk S) 0 43 i k = if 0 ≤ i.toInt ∧ i.toInt < 402 then k (Int32.ofInt (gI S 43 i.toInt)) else none := G_ald (Nat.le_of_ble_eq_true rfl) (Or.inl rfl) (zd43 S)
theorem s_43 {k : zM → Option ρ} : z_ast none (mk S) 0 43 i x k = if 0 ≤ i.toInt ∧ i.toInt < 402 then k (mk (sI S 43 i.toInt x.toInt)) else none := G_ast (zd43 S)
theorem zd44 (S : zS) : zdes S 44 = some (.inr (0, 402)) := rfl
theorem n_44 {k : Int32 → Option ρ} : z_len X none (mk S) 44 k = k (Int32.ofInt 402) := L_len (Nat.le_of_ble_eq_true rfl) (Nat.le_of_ble_eq_true rfl) (zd44 S)
theorem a_44 {k : Int32 → Option ρ} : z_ald X none (mk S) 0 44 i k = if 0 ≤ i.toInt ∧ i.toInt < 402 then k (Int32.ofInt (gI S 44 i.toInt)) else none := G_ald (Nat.le_of_ble_eq_true rfl) (Or.inl rfl) (zd44 S)
theorem s_44 {k : zM → Option ρ} : z_ast none (mk S) 0 44 i x k = if 0 ≤ i.toInt ∧ i.toInt < 402 then k (mk (sI S 44 i.toInt x.toInt)) else none := G_ast (zd44 S)
theorem zd45 (S : zS) : zdes S 45 = some (.inr (0, 402)) := rfl
theorem n_45 {k : Int32 → Option ρ} : z_len X none (mk S) 45 k = k (Int32.ofInt 402) := L_len (Nat.le_of_ble_eq_true rfl) (Nat.le_of_ble_eq_true rfl) (zd45 S)
theorem a_45 {k : Int32 → Option ρ} : z_ald X none (mk S) 0 45 i k = if 0 ≤ i.toInt ∧ i.toInt < 402 then k (Int32.ofInt (gI S 45 i.toInt)) else none := G_ald (Nat.le_of_ble_eq_true rfl) (Or.inl rfl) (zd45 S)
theorem s_45 {k : zM → Option ρ} : z_ast none (mk S) 0 45 i x k = if 0 ≤ i.toInt ∧ i.toInt < 402 then k (mk (sI S 45 i.toInt x.toInt)) else none := G_ast (zd45 S)
theorem zd46 (S : zS) : zdes S 46 = some (.inr (0, 402)) := rfl
theorem n_46 {k : Int32 → Option ρ} : z_len X none (mk S) 46 k = k (Int32.ofInt 402) := L_len (Nat.le_of_ble_eq_true rfl) (Nat.le_of_ble_eq_true rfl) (zd46 S)
theorem a_46 {k : Int32 → Option ρ} : z_ald X none (mk S) 0 46 i k = if 0 ≤ i.toInt ∧ i.toInt < 402 then k (Int32.ofInt (gI S 46 i.toInt)) else none := G_ald (Nat.le_of_ble_eq_true rfl) (Or.inl rfl) (zd46 S)
theorem s_46 {k : zM → Option ρ} : z_ast none (mk S) 0 46 i x k = if 0 ≤ i.toInt ∧ i.toInt < 402 then k (mk (sI S 46 i.toInt x.toInt)) else none := G_ast (zd46 S)
theorem zd47 (S : zS) : zdes S 47 = some (.inr (0, 400)) := rfl
theorem n_47 {k : Int32 → Option ρ} : z_len X none (mk S) 47 k = k (Int32.ofInt 400) := L_len (Nat.le_of_ble_eq_true rfl) (Nat.le_of_ble_eq_true rfl) (zd47 S)
theorem a_47 {k : Int32 → Option ρ} : z_ald X none (mk S) 0 47 i k = if 0 ≤ i.toInt ∧ i.toInt < 400 then k (Int32.ofInt (gI S 47 i.toInt)) else none := G_ald (Nat.le_of_ble_eq_true rfl) (Or.inl rfl) (zd47 S)
theorem s_47 {k : zM → Option ρ} : z_ast none (mk S) 0 47 i x k = if 0 ≤ i.toInt ∧ i.toInt < 400 then k (mk (sI S 47 i.toInt x.toInt)) else none := G_ast (zd47 S)
theorem zd48 (S : zS) : zdes S 48 = some (.inr (0, 400)) := rfl
theorem n_48 {k : Int32 → Option ρ} : z_len X none (mk S) 48 k = k (Int32.ofInt 400) := L_len (Nat.le_of_ble_eq_true rfl) (Nat.le_of_ble_eq_true rfl) (zd48 S)
theorem a_48 {k : Int32 → Option ρ} : z_ald X none (mk S) 0 48 i k = if 0 ≤ i.toInt ∧ i.toInt < 400 then k (Int32.ofInt (gI S 48 i.toInt)) else none := G_ald (Nat.le_of_ble_eq_true rfl) (Or.inl rfl) (zd48 S)
theorem s_48 {k : zM → Option ρ} : z_ast none (mk S) 0 48 i x k = if 0 ≤ i.toInt ∧ i.toInt < 400 then k (mk (sI S 48 i.toInt x.toInt)) else none := G_ast (zd48 S)
theorem zd49 (S : zS) : zdes S 49 = some (.inr (0, 400)) := rfl
theorem n_49 {k : Int32 → Option ρ} : z_len X none (mk S) 49 k = k (Int32.ofInt 400) := L_len (Nat.le_of_ble_eq_true rfl) (Nat.le_of_ble_eq_true rfl) (zd49 S)
theorem a_49 {k : Int32 → Option ρ} : z_ald X none (mk S) 0 49 i k = if 0 ≤ i.toInt ∧ i.toInt < 400 then k (Int32.ofInt (gI S 49 i.toInt)) else none := G_ald (Nat.le_of_ble_eq_true rfl) (Or.inl rfl) (zd49 S)
theorem s_49 {k : zM → Option ρ} : z_ast none (mk S) 0 49 i x k = if 0 ≤ i.toInt ∧ i.toInt < 400 then k (mk (sI S 49 i.toInt x.toInt)) else none := G_ast (zd49 S)
theorem zd50 (S : zS) : zdes S 50 = some (.inr (0, 400)) := rfl
theorem n_50 {k : Int32 → Option ρ} : z_len X none (mk S) 50 k = k (Int32.ofInt 400) := L_len (Nat.le_of_ble_eq_true rfl) (Nat.le_of_ble_eq_true rfl) (zd50 S)
theorem a_50 {k : Int32 → Option ρ} : z_ald X none (mk S) 0 50 i k = if 0 ≤ i.toInt ∧ i.toInt < 400 then k (Int32.ofInt (gI S 50 i.toInt)) else none := G_ald (Nat.le_of_ble_eq_true rfl) (Or.inl rfl) (zd50 S)
theorem s_50 {k : zM → Option ρ} : z_ast none (mk S) 0 50 i x k = if 0 ≤ i.toInt ∧ i.toInt < 400 then k (mk (sI S 50 i.toInt x.toInt)) else none := G_ast (zd50 S)
theorem zd51 (S : zS) : zdes S 51 = some (.inr (0, 400)) := rfl
theorem n_51 {k : Int32 → Option ρ} : z_len X none (mk S) 51 k = k (Int32.ofInt 400) := L_len (Nat.le_of_ble_eq_true rfl) (Nat.le_of_ble_eq_true rfl) (zd51 S)
theorem a_51 {k : Int32 → Option ρ} : z_ald X none (mk S) 0 51 i k = if 0 ≤ i.toInt ∧ i.toInt < 400 then k (Int32.ofInt (gI S 51 i.toInt)) else none := G_ald (Nat.le_of_ble_eq_true rfl) (Or.inl rfl) (zd51 S)
theorem s_51 {k : zM → Option ρ} : z_ast none (mk S) 0 51 i x k = if 0 ≤ i.toInt ∧ i.toInt < 400 then k (mk (sI S 51 i.toInt x.toInt)) else none := G_ast (zd51 S)
theorem zd52 (S : zS) : zdes S 52 = some (.inl (0, [53, 0, 0])) := rfl
theorem o_52 {k : Option ρ} : z_obj none (mk S) (.ref 52) 0 k = k := L_obj (zd52 S)
theorem r_52_0 {k : Nat → Option ρ} : z_fldA none (mk S) 52 0 0 k = k 53 := L_fldA (r := 50) (zd52 S) rfl
theorem r_52_1 {k : Int32 → Option ρ} : z_fldI none (mk S) 52 0 1 k = k (Int32.ofInt (gI S 52 1)) := L_fldI (zd52 S) rfl
theorem w_52_1 {k : zM → Option ρ} : z_fset none (mk S) 52 0 1 (.int x) k = k (mk (sI S 52 1 x.toInt)) := G_setI (zd52 S) rfl
theorem r_52_2 {k : Int32 → Option ρ} : z_fldI none (mk S) 52 0 2 k = k (Int32.ofInt (gI S 52 2)) := L_fldI (zd52 S) rfl
theorem w_52_2 {k : zM → Option ρ} : z_fset none (mk S) 52 0 2 (.int x) k = k (mk (sI S 52 2 x.toInt)) := G_setI (zd52 S) rfl
theorem zd53 (S : zS) : zdes S 53 = some (.inl (1, [54, 55, 0, 0, 0])) := rfl
theorem o_53 {k : Option ρ} : z_obj none (mk S) (.ref 53) 1 k = k := L_obj (zd53 S)
theorem r_53_0 {k : Nat → Option ρ} : z_fldA none (mk S) 53 1 0 k = k 54 := L_fldA (r := 51) (zd53 S) rfl
theorem r_53_1 {k : Nat → Option ρ} : z_fldA none (mk S) 53 1 1 k = k 55 := L_fldA (r := 52) (zd53 S) rfl
theorem r_53_2 {k : Int32 → Option ρ} : z_fldI none (mk S) 53 1 2 k = k (Int32.ofInt (gI S 53 2)) := L_fldI (zd53 S) rfl
theorem w_53_2 {k : zM → Option ρ} : z_fset none (mk S) 53 1 2 (.int x) k = k (mk (sI S 53 2 x.toInt)) := G_setI (zd53 S) rfl
theorem r_53_3 {k : Int32 → Option ρ} : z_fldI none (mk S) 53 1 3 k = k (Int32.ofInt (gI S 53 3)) := L_fldI (zd53 S) rfl
theorem w_53_3 {k : zM → Option ρ} : z_fset none (mk S) 53 1 3 (.int x) k = k (mk (sI S 53 3 x.toInt)) := G_setI (zd53 S) rfl
theorem r_53_4 {k : Int32 → Option ρ} : z_fldI none (mk S) 53 1 4 k = k (Int32.ofInt (gI S 53 4)) := L_fldI (zd53 S) rfl
theorem w_53_4 {k : zM → Option ρ} : z_fset none (mk S) 53 1 4 (.int x) k = k (mk (sI S 53 4 x.toInt)) := G_setI (zd53 S) rfl
theorem zd54 (S : zS) : zdes S 54 = some (.inr (0, 436)) := rfl
theorem n_54 {k : Int32 → Option ρ} : z_len X none (mk S) 54 k = k (Int32.ofInt 436) := L_len (Nat.le_of_ble_eq_true rfl) (Nat.le_of_ble_eq_true rfl) (zd54 S)
theorem a_54 {k : Int32 → Option ρ} : z_ald X none (mk S) 0 54 i k = if 0 ≤ i.toInt ∧ i.toInt < 436 then k (Int32.ofInt (gI S 54 i.toInt)) else none := G_ald (Nat.le_of_ble_eq_true rfl) (Or.inl rfl) (zd54 S)
theorem s_54 {k : zM → Option ρ} : z_ast none (mk S) 0 54 i x k = if 0 ≤ i.toInt ∧ i.toInt < 436 then k (mk (sI S 54 i.toInt x.toInt)) else none := G_ast (zd54 S)
theorem zd55 (S : zS) : zdes S 55 = some (.inr (0, 60)) := rfl
theorem n_55 {k : Int32 → Option ρ} : z_len X none (mk S) 55 k = k (Int32.ofInt 60) := L_len (Nat.le_of_ble_eq_true rfl) (Nat.le_of_ble_eq_true rfl) (zd55 S)
theorem a_55 {k : Int32 → Option ρ} : z_ald X none (mk S) 0 55 i k = if 0 ≤ i.toInt ∧ i.toInt < 60 then k (Int32.ofInt (gI S 55 i.toInt)) else none := G_ald (Nat.le_of_ble_eq_true rfl) (Or.inl rfl) (zd55 S)
theorem s_55 {k : zM → Option ρ} : z_ast none (mk S) 0 55 i x k = if 0 ≤ i.toInt ∧ i.toInt < 60 then k (mk (sI S 55 i.toInt x.toInt)) else none := G_ast (zd55 S)
theorem zd56 (S : zS) : zdes S 56 = some (.inl (5, [57])) := rfl
theorem o_56 {k : Option ρ} : z_obj none (mk S) (.ref 56) 5 k = k := L_obj (zd56 S)
theorem r_56_0 {k : Nat → Option ρ} : z_fldA none (mk S) 56 5 0 k = k 57 := L_fldA (r := 54) (zd56 S) rfl
theorem zd57 (S : zS) : zdes S 57 = some (.inr (0, 51)) := rfl
theorem n_57 {k : Int32 → Option ρ} : z_len X none (mk S) 57 k = k (Int32.ofInt 51) := L_len (Nat.le_of_ble_eq_true rfl) (Nat.le_of_ble_eq_true rfl) (zd57 S)
theorem a_57 {k : Int32 → Option ρ} : z_ald X none (mk S) 0 57 i k = if 0 ≤ i.toInt ∧ i.toInt < 51 then k (Int32.ofInt (gI S 57 i.toInt)) else none := G_ald (Nat.le_of_ble_eq_true rfl) (Or.inl rfl) (zd57 S)
theorem s_57 {k : zM → Option ρ} : z_ast none (mk S) 0 57 i x k = if 0 ≤ i.toInt ∧ i.toInt < 51 then k (mk (sI S 57 i.toInt x.toInt)) else none := G_ast (zd57 S)
theorem zd58 (S : zS) : zdes S 58 = some (.inl (6, [59, 61, 62, 63, 64, 65, 2, 2, 0, 0, 0])) := rfl
theorem o_58 {k : Option ρ} : z_obj none (mk S) (.ref 58) 6 k = k := L_obj (zd58 S)
theorem r_58_0 {k : Nat → Option ρ} : z_fldA none (mk S) 58 6 0 k = k 59 := L_fldA (r := 56) (zd58 S) rfl
theorem r_58_1 {k : Nat → Option ρ} : z_fldA none (mk S) 58 6 1 k = k 61 := L_fldA (r := 58) (zd58 S) rfl
theorem r_58_2 {k : Nat → Option ρ} : z_fldA none (mk S) 58 6 2 k = k 62 := L_fldA (r := 59) (zd58 S) rfl
theorem r_58_3 {k : Nat → Option ρ} : z_fldA none (mk S) 58 6 3 k = k 63 := L_fldA (r := 60) (zd58 S) rfl
theorem r_58_4 {k : Nat → Option ρ} : z_fldA none (mk S) 58 6 4 k = k 64 := L_fldA (r := 61) (zd58 S) rfl
theorem r_58_5 {k : Nat → Option ρ} : z_fldA none (mk S) 58 6 5 k = k 65 := L_fldA (r := 62) (zd58 S) rfl
theorem r_58_6 {r : Nat} {k : Nat → Option ρ} (h : gQ S 58 6 = some r) : z_fldA none (mk S) 58 6 6 k = k r := L_fldQ (zd58 S) rfl h
theorem w_58_6 {r : Nat} {k : zM → Option ρ} : z_fset none (mk S) 58 6 6 (.ref r) k = k (mk (sQ S 58 6 (some r))) := L_setQ (zd58 S) rfl
theorem r_58_7 {r : Nat} {k : Nat → Option ρ} (h : gQ S 58 7 = some r) : z_fldA none (mk S) 58 6 7 k = k r := L_fldQ (zd58 S) rfl h
theorem w_58_7 {r : Nat} {k : zM → Option ρ} : z_fset none (mk S) 58 6 7 (.ref r) k = k (mk (sQ S 58 7 (some r))) := L_setQ (zd58 S) rfl
theorem r_58_8 {k : Int32 → Option ρ} : z_fldI none (mk S) 58 6 8 k = k (Int32.ofInt (gI S 58 8)) := L_fldI (zd58 S) rfl
theorem w_58_8 {k : zM → Option ρ} : z_fset none (mk S) 58 6 8 (.int x) k = k (mk (sI S 58 8 x.toInt)) := G_setI (zd58 S) rfl
theorem r_58_9 {k : Int32 → Option ρ} : z_fldI none (mk S) 58 6 9 k = k (Int32.ofInt (gI S 58 9)) := L_fldI (zd58 S) rfl
theorem w_58_9 {k : zM → Option ρ} : z_fset none (mk S) 58 6 9 (.int x) k = k (mk (sI S 58 9 x.toInt)) := G_setI (zd58 S) rfl
theorem r_58_10 {k : Int32 → Option ρ} : z_fldI none (mk S) 58 6 10 k = k (Int32.ofInt (gI S 58 10)) := L_fldI (zd58 S) rfl
theorem w_58_10 {k : zM → Option ρ} : z_fset none (mk S) 58 6 10 (.int x) k = k (mk (sI S 58 10 x.toInt)) := G_setI (zd58 S) rfl
theorem zd59 (S : zS) : zdes S 59 = some (.inl (5, [60])) := rfl
theorem o_59 {k : Option ρ} : z_obj none (mk S) (.ref 59) 5 k = k := L_obj (zd59 S)
theorem r_59_0 {k : Nat → Option ρ} : z_fldA none (mk S) 59 5 0 k = k 60 := L_fldA (r := 57) (zd59 S) rfl
theorem zd60 (S : zS) : zdes S 60 = some (.inr (0, 51)) := rfl
theorem n_60 {k : Int32 → Option ρ} : z_len X none (mk S) 60 k = k (Int32.ofInt 51) := L_len (Nat.le_of_ble_eq_true rfl) (Nat.le_of_ble_eq_true rfl) (zd60 S)
theorem a_60 {k : Int32 → Option ρ} : z_ald X none (mk S) 0 60 i k = if 0 ≤ i.toInt ∧ i.toInt < 51 then k (Int32.ofInt (gI S 60 i.toInt)) else none := G_ald (Nat.le_of_ble_eq_true rfl) (Or.inl rfl) (zd60 S)
theorem s_60 {k : zM → Option ρ} : z_ast none (mk S) 0 60 i x k = if 0 ≤ i.toInt ∧ i.toInt < 51 then k (mk (sI S 60 i.toInt x.toInt)) else none := G_ast (zd60 S)
theorem zd61 (S : zS) : zdes S 61 = some (.inr (0, 8)) := rfl
theorem n_61 {k : Int32 → Option ρ} : z_len X none (mk S) 61 k = k (Int32.ofInt 8) := L_len (Nat.le_of_ble_eq_true rfl) (Nat.le_of_ble_eq_true rfl) (zd61 S)
theorem a_61 {k : Int32 → Option ρ} : z_ald X none (mk S) 0 61 i k = if 0 ≤ i.toInt ∧ i.toInt < 8 then k (Int32.ofInt (gI S 61 i.toInt)) else none := G_ald (Nat.le_of_ble_eq_true rfl) (Or.inl rfl) (zd61 S)
theorem s_61 {k : zM → Option ρ} : z_ast none (mk S) 0 61 i x k = if 0 ≤ i.toInt ∧ i.toInt < 8 then k (mk (sI S 61 i.toInt x.toInt)) else none := G_ast (zd61 S)
theorem zd62 (S : zS) : zdes S 62 = some (.inr (0, 3)) := rfl
theorem n_62 {k : Int32 → Option ρ} : z_len X none (mk S) 62 k = k (Int32.ofInt 3) := L_len (Nat.le_of_ble_eq_true rfl) (Nat.le_of_ble_eq_true rfl) (zd62 S)
theorem a_62 {k : Int32 → Option ρ} : z_ald X none (mk S) 0 62 i k = if 0 ≤ i.toInt ∧ i.toInt < 3 then k (Int32.ofInt (gI S 62 i.toInt)) else none := G_ald (Nat.le_of_ble_eq_true rfl) (Or.inl rfl) (zd62 S)
theorem s_62 {k : zM → Option ρ} : z_ast none (mk S) 0 62 i x k = if 0 ≤ i.toInt ∧ i.toInt < 3 then k (mk (sI S 62 i.toInt x.toInt)) else none := G_ast (zd62 S)
theorem zd63 (S : zS) : zdes S 63 = some (.inr (0, 60)) := rfl
theorem n_63 {k : Int32 → Option ρ} : z_len X none (mk S) 63 k = k (Int32.ofInt 60) := L_len (Nat.le_of_ble_eq_true rfl) (Nat.le_of_ble_eq_true rfl) (zd63 S)
theorem a_63 {k : Int32 → Option ρ} : z_ald X none (mk S) 0 63 i k = if 0 ≤ i.toInt ∧ i.toInt < 60 then k (Int32.ofInt (gI S 63 i.toInt)) else none := G_ald (Nat.le_of_ble_eq_true rfl) (Or.inl rfl) (zd63 S)
theorem s_63 {k : zM → Option ρ} : z_ast none (mk S) 0 63 i x k = if 0 ≤ i.toInt ∧ i.toInt < 60 then k (mk (sI S 63 i.toInt x.toInt)) else none := G_ast (zd63 S)
theorem zd64 (S : zS) : zdes S 64 = some (.inr (1, 60)) := rfl
theorem n_64 {k : Int32 → Option ρ} : z_len X none (mk S) 64 k = k (Int32.ofInt 60) := L_len (Nat.le_of_ble_eq_true rfl) (Nat.le_of_ble_eq_true rfl) (zd64 S)
theorem a_64 {k : Int64 → Option ρ} : z_jld none (mk S) 64 i k = if 0 ≤ i.toInt ∧ i.toInt < 60 then k (Int64.ofInt (gJ S 64 i.toInt)) else none := G_jld (zd64 S)
theorem s_64 {k : zM → Option ρ} : z_jst none (mk S) 64 i y k = if 0 ≤ i.toInt ∧ i.toInt < 60 then k (mk (sJ S 64 i.toInt y.toInt)) else none := G_jst (zd64 S)
theorem zd65 (S : zS) : zdes S 65 = some (.inr (0, 400)) := rfl
theorem n_65 {k : Int32 → Option ρ} : z_len X none (mk S) 65 k = k (Int32.ofInt 400) := L_len (Nat.le_of_ble_eq_true rfl) (Nat.le_of_ble_eq_true rfl) (zd65 S)
theorem a_65 {k : Int32 → Option ρ} : z_ald X none (mk S) 0 65 i k = if 0 ≤ i.toInt ∧ i.toInt < 400 then k (Int32.ofInt (gI S 65 i.toInt)) else none := G_ald (Nat.le_of_ble_eq_true rfl) (Or.inl rfl) (zd65 S)
theorem s_65 {k : zM → Option ρ} : z_ast none (mk S) 0 65 i x k = if 0 ≤ i.toInt ∧ i.toInt < 400 then k (mk (sI S 65 i.toInt x.toInt)) else none := G_ast (zd65 S)
theorem zd66 (S : zS) : zdes S 66 = some (.inr (1, 400)) := rfl
theorem n_66 {k : Int32 → Option ρ} : z_len X none (mk S) 66 k = k (Int32.ofInt 400) := L_len (Nat.le_of_ble_eq_true rfl) (Nat.le_of_ble_eq_true rfl) (zd66 S)
theorem a_66 {k : Int64 → Option ρ} : z_jld none (mk S) 66 i k = if 0 ≤ i.toInt ∧ i.toInt < 400 then k (Int64.ofInt (gJ S 66 i.toInt)) else none := G_jld (zd66 S)
theorem s_66 {k : zM → Option ρ} : z_jst none (mk S) 66 i y k = if 0 ≤ i.toInt ∧ i.toInt < 400 then k (mk (sJ S 66 i.toInt y.toInt)) else none := G_jst (zd66 S)
theorem zd67 (S : zS) : zdes S 67 = some (.inr (1, 400)) := rfl
theorem n_67 {k : Int32 → Option ρ} : z_len X none (mk S) 67 k = k (Int32.ofInt 400) := L_len (Nat.le_of_ble_eq_true rfl) (Nat.le_of_ble_eq_true rfl) (zd67 S)
theorem a_67 {k : Int64 → Option ρ} : z_jld none (mk S) 67 i k = if 0 ≤ i.toInt ∧ i.toInt < 400 then k (Int64.ofInt (gJ S 67 i.toInt)) else none := G_jld (zd67 S)
theorem s_67 {k : zM → Option ρ} : z_jst none (mk S) 67 i y k = if 0 ≤ i.toInt ∧ i.toInt < 400 then k (mk (sJ S 67 i.toInt y.toInt)) else none := G_jst (zd67 S)
theorem zd68 (S : zS) : zdes S 68 = some (.inr (0, 30)) := rfl
theorem n_68 {k : Int32 → Option ρ} : z_len X none (mk S) 68 k = k (Int32.ofInt 30) := L_len (Nat.le_of_ble_eq_true rfl) (Nat.le_of_ble_eq_true rfl) (zd68 S)
theorem a_68 {k : Int32 → Option ρ} : z_ald X none (mk S) 0 68 i k = if 0 ≤ i.toInt ∧ i.toInt < 30 then k (Int32.ofInt (gI S 68 i.toInt)) else none := G_ald (Nat.le_of_ble_eq_true rfl) (Or.inl rfl) (zd68 S)
theorem s_68 {k : zM → Option ρ} : z_ast none (mk S) 0 68 i x k = if 0 ≤ i.toInt ∧ i.toInt < 30 then k (mk (sI S 68 i.toInt x.toInt)) else none := G_ast (zd68 S)
theorem zd69 (S : zS) : zdes S 69 = some (.inr (1, 6)) := rfl
theorem n_69 {k : Int32 → Option ρ} : z_len X none (mk S) 69 k = k (Int32.ofInt 6) := L_len (Nat.le_of_ble_eq_true rfl) (Nat.le_of_ble_eq_true rfl) (zd69 S)
theorem a_69 {k : Int64 → Option ρ} : z_jld none (mk S) 69 i k = if 0 ≤ i.toInt ∧ i.toInt < 6 then k (Int64.ofInt (gJ S 69 i.toInt)) else none := G_jld (zd69 S)
theorem s_69 {k : zM → Option ρ} : z_jst none (mk S) 69 i y k = if 0 ≤ i.toInt ∧ i.toInt < 6 then k (mk (sJ S 69 i.toInt y.toInt)) else none := G_jst (zd69 S)
theorem zd70 (S : zS) : zdes S 70 = some (.inr (1, 20)) := rfl
theorem n_70 {k : Int32 → Option ρ} : z_len X none (mk S) 70 k = k (Int32.ofInt 20) := L_len (Nat.le_of_ble_eq_true rfl) (Nat.le_of_ble_eq_true rfl) (zd70 S)
theorem a_70 {k : Int64 → Option ρ} : z_jld none (mk S) 70 i k = if 0 ≤ i.toInt ∧ i.toInt < 20 then k (Int64.ofInt (gJ S 70 i.toInt)) else none := G_jld (zd70 S)
theorem s_70 {k : zM → Option ρ} : z_jst none (mk S) 70 i y k = if 0 ≤ i.toInt ∧ i.toInt < 20 then k (mk (sJ S 70 i.toInt y.toInt)) else none := G_jst (zd70 S)
theorem zd71 (S : zS) : zdes S 71 = some (.inr (0, 5)) := rfl
theorem n_71 {k : Int32 → Option ρ} : z_len X none (mk S) 71 k = k (Int32.ofInt 5) := L_len (Nat.le_of_ble_eq_true rfl) (Nat.le_of_ble_eq_true rfl) (zd71 S)
theorem a_71 {k : Int32 → Option ρ} : z_ald X none (mk S) 0 71 i k = if 0 ≤ i.toInt ∧ i.toInt < 5 then k (Int32.ofInt (gI S 71 i.toInt)) else none := G_ald (Nat.le_of_ble_eq_true rfl) (Or.inl rfl) (zd71 S)
theorem s_71 {k : zM → Option ρ} : z_ast none (mk S) 0 71 i x k = if 0 ≤ i.toInt ∧ i.toInt < 5 then k (mk (sI S 71 i.toInt x.toInt)) else none := G_ast (zd71 S)
theorem zd72 (S : zS) : zdes S 72 = some (.inl (11, [0, 0, 73, 74, 75, 76, 77, 78, 0, 79, 80, 0, 81, 0, 0, 0, 0, 1, 0, 0, 0, 0, 82, 0, 83, 84, 0, 85, 86, 0, 0, 87, 88, 89, 0, 90, 91, 92, 0, 1, 0, 1, 93, 94, 0, 95, 96, 0, 97, 98, 99, 0, 100, 101, 102, 103, 104, 105, 106, 107, 108, 109, 110, 111, 112, 0, 0, 0, 0, 1, 113, 0])) := rfl
theorem o_72 {k : Option ρ} : z_obj none (mk S) (.ref 72) 11 k = k := L_obj (zd72 S)
theorem r_72_0 {k : Int32 → Option ρ} : z_fldI none (mk S) 72 11 0 k = k (Int32.ofInt (gI S 72 0)) := L_fldI (zd72 S) rfl
theorem w_72_0 {k : zM → Option ρ} : z_fset none (mk S) 72 11 0 (.int x) k = k (mk (sI S 72 0 x.toInt)) := G_setI (zd72 S) rfl
theorem r_72_1 {k : Int32 → Option ρ} : z_fldI none (mk S) 72 11 1 k = k (Int32.ofInt (gI S 72 1)) := L_fldI (zd72 S) rfl
theorem w_72_1 {k : zM → Option ρ} : z_fset none (mk S) 72 11 1 (.int x) k = k (mk (sI S 72 1 x.toInt)) := G_setI (zd72 S) rfl
theorem r_72_2 {k : Nat → Option ρ} : z_fldA none (mk S) 72 11 2 k = k 73 := L_fldA (r := 70) (zd72 S) rfl
theorem r_72_3 {k : Nat → Option ρ} : z_fldA none (mk S) 72 11 3 k = k 74 := L_fldA (r := 71) (zd72 S) rfl
theorem r_72_4 {k : Nat → Option ρ} : z_fldA none (mk S) 72 11 4 k = k 75 := L_fldA (r := 72) (zd72 S) rfl
theorem r_72_5 {k : Nat → Option ρ} : z_fldA none (mk S) 72 11 5 k = k 76 := L_fldA (r := 73) (zd72 S) rfl
theorem r_72_6 {k : Nat → Option ρ} : z_fldA none (mk S) 72 11 6 k = k 77 := L_fldA (r := 74) (zd72 S) rfl
theorem r_72_7 {k : Nat → Option ρ} : z_fldA none (mk S) 72 11 7 k = k 78 := L_fldA (r := 75) (zd72 S) rfl
theorem r_72_8 {k : Int32 → Option ρ} : z_fldI none (mk S) 72 11 8 k = k (Int32.ofInt (gI S 72 8)) := L_fldI (zd72 S) rfl
theorem w_72_8 {k : zM → Option ρ} : z_fset none (mk S) 72 11 8 (.int x) k = k (mk (sI S 72 8 x.toInt)) := G_setI (zd72 S) rfl
theorem r_72_9 {k : Nat → Option ρ} : z_fldA none (mk S) 72 11 9 k = k 79 := L_fldA (r := 76) (zd72 S) rfl
theorem r_72_10 {k : Nat → Option ρ} : z_fldA none (mk S) 72 11 10 k = k 80 := L_fldA (r := 77) (zd72 S) rfl
theorem r_72_11 {k : Int32 → Option ρ} : z_fldI none (mk S) 72 11 11 k = k (Int32.ofInt (gI S 72 11)) := L_fldI (zd72 S) rfl
theorem w_72_11 {k : zM → Option ρ} : z_fset none (mk S) 72 11 11 (.int x) k = k (mk (sI S 72 11 x.toInt)) := G_setI (zd72 S) rfl
theorem r_72_12 {k : Nat → Option ρ} : z_fldA none (mk S) 72 11 12 k = k 81 := L_fldA (r := 78) (zd72 S) rfl
theorem r_72_13 {k : Int32 → Option ρ} : z_fldI none (mk S) 72 11 13 k = k (Int32.ofInt (gI S 72 13)) := L_fldI (zd72 S) rfl
theorem w_72_13 {k : zM → Option ρ} : z_fset none (mk S) 72 11 13 (.int x) k = k (mk (sI S 72 13 x.toInt)) := G_setI (zd72 S) rfl
theorem r_72_14 {k : Int32 → Option ρ} : z_fldI none (mk S) 72 11 14 k = k (Int32.ofInt (gI S 72 14)) := L_fldI (zd72 S) rfl
theorem w_72_14 {k : zM → Option ρ} : z_fset none (mk S) 72 11 14 (.int x) k = k (mk (sI S 72 14 x.toInt)) := G_setI (zd72 S) rfl
theorem r_72_15 {k : Int32 → Option ρ} : z_fldI none (mk S) 72 11 15 k = k (Int32.ofInt (gI S 72 15)) := L_fldI (zd72 S) rfl
theorem w_72_15 {k : zM → Option ρ} : z_fset none (mk S) 72 11 15 (.int x) k = k (mk (sI S 72 15 x.toInt)) := G_setI (zd72 S) rfl
theorem r_72_16 {k : Int32 → Option ρ} : z_fldI none (mk S) 72 11 16 k = k (Int32.ofInt (gI S 72 16)) := L_fldI (zd72 S) rfl
theorem w_72_16 {k : zM → Option ρ} : z_fset none (mk S) 72 11 16 (.int x) k = k (mk (sI S 72 16 x.toInt)) := G_setI (zd72 S) rfl
theorem r_72_17 {k : Int64 → Option ρ} : z_fldJ none (mk S) 72 11 17 k = k (Int64.ofInt (gJ S 72 17)) := L_fldJ (zd72 S) rfl
theorem w_72_17 {k : zM → Option ρ} : z_fset none (mk S) 72 11 17 (.long y) k = k (mk (sJ S 72 17 y.toInt)) := G_setJ (zd72 S) rfl
theorem r_72_18 {k : Int32 → Option ρ} : z_fldI none (mk S) 72 11 18 k = k (Int32.ofInt (gI S 72 18)) := L_fldI (zd72 S) rfl
theorem w_72_18 {k : zM → Option ρ} : z_fset none (mk S) 72 11 18 (.int x) k = k (mk (sI S 72 18 x.toInt)) := G_setI (zd72 S) rfl
theorem r_72_19 {k : Int32 → Option ρ} : z_fldI none (mk S) 72 11 19 k = k (Int32.ofInt (gI S 72 19)) := L_fldI (zd72 S) rfl
theorem w_72_19 {k : zM → Option ρ} : z_fset none (mk S) 72 11 19 (.int x) k = k (mk (sI S 72 19 x.toInt)) := G_setI (zd72 S) rfl
theorem r_72_20 {k : Int32 → Option ρ} : z_fldI none (mk S) 72 11 20 k = k (Int32.ofInt (gI S 72 20)) := L_fldI (zd72 S) rfl
theorem w_72_20 {k : zM → Option ρ} : z_fset none (mk S) 72 11 20 (.int x) k = k (mk (sI S 72 20 x.toInt)) := G_setI (zd72 S) rfl
theorem r_72_21 {k : Int32 → Option ρ} : z_fldI none (mk S) 72 11 21 k = k (Int32.ofInt (gI S 72 21)) := L_fldI (zd72 S) rfl
theorem w_72_21 {k : zM → Option ρ} : z_fset none (mk S) 72 11 21 (.int x) k = k (mk (sI S 72 21 x.toInt)) := G_setI (zd72 S) rfl
theorem r_72_22 {k : Nat → Option ρ} : z_fldA none (mk S) 72 11 22 k = k 82 := L_fldA (r := 79) (zd72 S) rfl
theorem r_72_23 {k : Int32 → Option ρ} : z_fldI none (mk S) 72 11 23 k = k (Int32.ofInt (gI S 72 23)) := L_fldI (zd72 S) rfl
theorem w_72_23 {k : zM → Option ρ} : z_fset none (mk S) 72 11 23 (.int x) k = k (mk (sI S 72 23 x.toInt)) := G_setI (zd72 S) rfl
theorem r_72_24 {k : Nat → Option ρ} : z_fldA none (mk S) 72 11 24 k = k 83 := L_fldA (r := 80) (zd72 S) rfl
theorem r_72_25 {k : Nat → Option ρ} : z_fldA none (mk S) 72 11 25 k = k 84 := L_fldA (r := 81) (zd72 S) rfl
theorem r_72_26 {k : Int32 → Option ρ} : z_fldI none (mk S) 72 11 26 k = k (Int32.ofInt (gI S 72 26)) := L_fldI (zd72 S) rfl
theorem w_72_26 {k : zM → Option ρ} : z_fset none (mk S) 72 11 26 (.int x) k = k (mk (sI S 72 26 x.toInt)) := G_setI (zd72 S) rfl
theorem r_72_27 {k : Nat → Option ρ} : z_fldA none (mk S) 72 11 27 k = k 85 := L_fldA (r := 82) (zd72 S) rfl
theorem r_72_28 {k : Nat → Option ρ} : z_fldA none (mk S) 72 11 28 k = k 86 := L_fldA (r := 83) (zd72 S) rfl
theorem r_72_29 {k : Int32 → Option ρ} : z_fldI none (mk S) 72 11 29 k = k (Int32.ofInt (gI S 72 29)) := L_fldI (zd72 S) rfl
theorem w_72_29 {k : zM → Option ρ} : z_fset none (mk S) 72 11 29 (.int x) k = k (mk (sI S 72 29 x.toInt)) := G_setI (zd72 S) rfl
theorem r_72_30 {k : Int32 → Option ρ} : z_fldI none (mk S) 72 11 30 k = k (Int32.ofInt (gI S 72 30)) := L_fldI (zd72 S) rfl
theorem w_72_30 {k : zM → Option ρ} : z_fset none (mk S) 72 11 30 (.int x) k = k (mk (sI S 72 30 x.toInt)) := G_setI (zd72 S) rfl
theorem r_72_31 {k : Nat → Option ρ} : z_fldA none (mk S) 72 11 31 k = k 87 := L_fldA (r := 84) (zd72 S) rfl
theorem r_72_32 {k : Nat → Option ρ} : z_fldA none (mk S) 72 11 32 k = k 88 := L_fldA (r := 85) (zd72 S) rfl
theorem r_72_33 {k : Nat → Option ρ} : z_fldA none (mk S) 72 11 33 k = k 89 := L_fldA (r := 86) (zd72 S) rfl
theorem r_72_34 {k : Int32 → Option ρ} : z_fldI none (mk S) 72 11 34 k = k (Int32.ofInt (gI S 72 34)) := L_fldI (zd72 S) rfl
theorem w_72_34 {k : zM → Option ρ} : z_fset none (mk S) 72 11 34 (.int x) k = k (mk (sI S 72 34 x.toInt)) := G_setI (zd72 S) rfl
theorem r_72_35 {k : Nat → Option ρ} : z_fldA none (mk S) 72 11 35 k = k 90 := L_fldA (r := 87) (zd72 S) rfl
theorem r_72_36 {k : Nat → Option ρ} : z_fldA none (mk S) 72 11 36 k = k 91 := L_fldA (r := 88) (zd72 S) rfl
theorem r_72_37 {k : Nat → Option ρ} : z_fldA none (mk S) 72 11 37 k = k 92 := L_fldA (r := 89) (zd72 S) rfl
theorem r_72_38 {k : Int32 → Option ρ} : z_fldI none (mk S) 72 11 38 k = k (Int32.ofInt (gI S 72 38)) := L_fldI (zd72 S) rfl
theorem w_72_38 {k : zM → Option ρ} : z_fset none (mk S) 72 11 38 (.int x) k = k (mk (sI S 72 38 x.toInt)) := G_setI (zd72 S) rfl
theorem r_72_39 {k : Int64 → Option ρ} : z_fldJ none (mk S) 72 11 39 k = k (Int64.ofInt (gJ S 72 39)) := L_fldJ (zd72 S) rfl
theorem w_72_39 {k : zM → Option ρ} : z_fset none (mk S) 72 11 39 (.long y) k = k (mk (sJ S 72 39 y.toInt)) := G_setJ (zd72 S) rfl
theorem r_72_40 {k : Int32 → Option ρ} : z_fldI none (mk S) 72 11 40 k = k (Int32.ofInt (gI S 72 40)) := L_fldI (zd72 S) rfl
theorem w_72_40 {k : zM → Option ρ} : z_fset none (mk S) 72 11 40 (.int x) k = k (mk (sI S 72 40 x.toInt)) := G_setI (zd72 S) rfl
theorem r_72_41 {k : Int64 → Option ρ} : z_fldJ none (mk S) 72 11 41 k = k (Int64.ofInt (gJ S 72 41)) := L_fldJ (zd72 S) rfl
theorem w_72_41 {k : zM → Option ρ} : z_fset none (mk S) 72 11 41 (.long y) k = k (mk (sJ S 72 41 y.toInt)) := G_setJ (zd72 S) rfl
theorem r_72_42 {k : Nat → Option ρ} : z_fldA none (mk S) 72 11 42 k = k 93 := L_fldA (r := 90) (zd72 S) rfl
theorem r_72_43 {k : Nat → Option ρ} : z_fldA none (mk S) 72 11 43 k = k 94 := L_fldA (r := 91) (zd72 S) rfl
theorem r_72_44 {k : Int32 → Option ρ} : z_fldI none (mk S) 72 11 44 k = k (Int32.ofInt (gI S 72 44)) := L_fldI (zd72 S) rfl
theorem w_72_44 {k : zM → Option ρ} : z_fset none (mk S) 72 11 44 (.int x) k = k (mk (sI S 72 44 x.toInt)) := G_setI (zd72 S) rfl
theorem r_72_45 {k : Nat → Option ρ} : z_fldA none (mk S) 72 11 45 k = k 95 := L_fldA (r := 92) (zd72 S) rfl
theorem r_72_46 {k : Nat → Option ρ} : z_fldA none (mk S) 72 11 46 k = k 96 := L_fldA (r := 93) (zd72 S) rfl
theorem r_72_47 {k : Int32 → Option ρ} : z_fldI none (mk S) 72 11 47 k = k (Int32.ofInt (gI S 72 47)) := L_fldI (zd72 S) rfl
theorem w_72_47 {k : zM → Option ρ} : z_fset none (mk S) 72 11 47 (.int x) k = k (mk (sI S 72 47 x.toInt)) := G_setI (zd72 S) rfl
theorem r_72_48 {k : Nat → Option ρ} : z_fldA none (mk S) 72 11 48 k = k 97 := L_fldA (r := 94) (zd72 S) rfl
theorem r_72_49 {k : Nat → Option ρ} : z_fldA none (mk S) 72 11 49 k = k 98 := L_fldA (r := 95) (zd72 S) rfl
theorem r_72_50 {k : Nat → Option ρ} : z_fldA none (mk S) 72 11 50 k = k 99 := L_fldA (r := 96) (zd72 S) rfl
theorem r_72_51 {k : Int32 → Option ρ} : z_fldI none (mk S) 72 11 51 k = k (Int32.ofInt (gI S 72 51)) := L_fldI (zd72 S) rfl
theorem w_72_51 {k : zM → Option ρ} : z_fset none (mk S) 72 11 51 (.int x) k = k (mk (sI S 72 51 x.toInt)) := G_setI (zd72 S) rfl
theorem r_72_52 {k : Nat → Option ρ} : z_fldA none (mk S) 72 11 52 k = k 100 := L_fldA (r := 97) (zd72 S) rfl
theorem r_72_53 {k : Nat → Option ρ} : z_fldA none (mk S) 72 11 53 k = k 101 := L_fldA (r := 98) (zd72 S) rfl
theorem r_72_54 {k : Nat → Option ρ} : z_fldA none (mk S) 72 11 54 k = k 102 := L_fldA (r := 99) (zd72 S) rfl
theorem r_72_55 {k : Nat → Option ρ} : z_fldA none (mk S) 72 11 55 k = k 103 := L_fldA (r := 100) (zd72 S) rfl
theorem r_72_56 {k : Nat → Option ρ} : z_fldA none (mk S) 72 11 56 k = k 104 := L_fldA (r := 101) (zd72 S) rfl
theorem r_72_57 {k : Nat → Option ρ} : z_fldA none (mk S) 72 11 57 k = k 105 := L_fldA (r := 102) (zd72 S) rfl
theorem r_72_58 {k : Nat → Option ρ} : z_fldA none (mk S) 72 11 58 k = k 106 := L_fldA (r := 103) (zd72 S) rfl
theorem r_72_59 {k : Nat → Option ρ} : z_fldA none (mk S) 72 11 59 k = k 107 := L_fldA (r := 104) (zd72 S) rfl
theorem r_72_60 {k : Nat → Option ρ} : z_fldA none (mk S) 72 11 60 k = k 108 := L_fldA (r := 105) (zd72 S) rfl
theorem r_72_61 {k : Nat → Option ρ} : z_fldA none (mk S) 72 11 61 k = k 109 := L_fldA (r := 106) (zd72 S) rfl
theorem r_72_62 {k : Nat → Option ρ} : z_fldA none (mk S) 72 11 62 k = k 110 := L_fldA (r := 107) (zd72 S) rfl
theorem r_72_63 {k : Nat → Option ρ} : z_fldA none (mk S) 72 11 63 k = k 111 := L_fldA (r := 108) (zd72 S) rfl
theorem r_72_64 {k : Nat → Option ρ} : z_fldA none (mk S) 72 11 64 k = k 112 := L_fldA (r := 109) (zd72 S) rfl
theorem r_72_65 {k : Int32 → Option ρ} : z_fldI none (mk S) 72 11 65 k = k (Int32.ofInt (gI S 72 65)) := L_fldI (zd72 S) rfl
theorem w_72_65 {k : zM → Option ρ} : z_fset none (mk S) 72 11 65 (.int x) k = k (mk (sI S 72 65 x.toInt)) := G_setI (zd72 S) rfl
theorem r_72_66 {k : Int32 → Option ρ} : z_fldI none (mk S) 72 11 66 k = k (Int32.ofInt (gI S 72 66)) := L_fldI (zd72 S) rfl
theorem w_72_66 {k : zM → Option ρ} : z_fset none (mk S) 72 11 66 (.int x) k = k (mk (sI S 72 66 x.toInt)) := G_setI (zd72 S) rfl
theorem r_72_67 {k : Int32 → Option ρ} : z_fldI none (mk S) 72 11 67 k = k (Int32.ofInt (gI S 72 67)) := L_fldI (zd72 S) rfl
theorem w_72_67 {k : zM → Option ρ} : z_fset none (mk S) 72 11 67 (.int x) k = k (mk (sI S 72 67 x.toInt)) := G_setI (zd72 S) rfl
theorem r_72_68 {k : Int32 → Option ρ} : z_fldI none (mk S) 72 11 68 k = k (Int32.ofInt (gI S 72 68)) := L_fldI (zd72 S) rfl
theorem w_72_68 {k : zM → Option ρ} : z_fset none (mk S) 72 11 68 (.int x) k = k (mk (sI S 72 68 x.toInt)) := G_setI (zd72 S) rfl
theorem r_72_69 {k : Int64 → Option ρ} : z_fldJ none (mk S) 72 11 69 k = k (Int64.ofInt (gJ S 72 69)) := L_fldJ (zd72 S) rfl
theorem w_72_69 {k : zM → Option ρ} : z_fset none (mk S) 72 11 69 (.long y) k = k (mk (sJ S 72 69 y.toInt)) := G_setJ (zd72 S) rfl
theorem r_72_70 {k : Nat → Option ρ} : z_fldA none (mk S) 72 11 70 k = k 113 := L_fldA (r := 110) (zd72 S) rfl
theorem r_72_71 {k : Int32 → Option ρ} : z_fldI none (mk S) 72 11 71 k = k (Int32.ofInt (gI S 72 71)) := L_fldI (zd72 S) rfl
theorem w_72_71 {k : zM → Option ρ} : z_fset none (mk S) 72 11 71 (.int x) k = k (mk (sI S 72 71 x.toInt)) := G_setI (zd72 S) rfl
theorem zd73 (S : zS) : zdes S 73 = some (.inr (0, 7)) := rfl
theorem n_73 {k : Int32 → Option ρ} : z_len X none (mk S) 73 k = k (Int32.ofInt 7) := L_len (Nat.le_of_ble_eq_true rfl) (Nat.le_of_ble_eq_true rfl) (zd73 S)
theorem a_73 {k : Int32 → Option ρ} : z_ald X none (mk S) 0 73 i k = if 0 ≤ i.toInt ∧ i.toInt < 7 then k (Int32.ofInt (gI S 73 i.toInt)) else none := G_ald (Nat.le_of_ble_eq_true rfl) (Or.inl rfl) (zd73 S)
theorem s_73 {k : zM → Option ρ} : z_ast none (mk S) 0 73 i x k = if 0 ≤ i.toInt ∧ i.toInt < 7 then k (mk (sI S 73 i.toInt x.toInt)) else none := G_ast (zd73 S)
theorem zd74 (S : zS) : zdes S 74 = some (.inr (0, 7892)) := rfl
theorem n_74 {k : Int32 → Option ρ} : z_len X none (mk S) 74 k = k (Int32.ofInt 7892) := L_len (Nat.le_of_ble_eq_true rfl) (Nat.le_of_ble_eq_true rfl) (zd74 S)
theorem a_74 {k : Int32 → Option ρ} : z_ald X none (mk S) 0 74 i k = if 0 ≤ i.toInt ∧ i.toInt < 7892 then k (Int32.ofInt (gI S 74 i.toInt)) else none := G_ald (Nat.le_of_ble_eq_true rfl) (Or.inl rfl) (zd74 S)
theorem s_74 {k : zM → Option ρ} : z_ast none (mk S) 0 74 i x k = if 0 ≤ i.toInt ∧ i.toInt < 7892 then k (mk (sI S 74 i.toInt x.toInt)) else none := G_ast (zd74 S)
theorem zd75 (S : zS) : zdes S 75 = some (.inr (0, 15784)) := rfl
theorem n_75 {k : Int32 → Option ρ} : z_len X none (mk S) 75 k = k (Int32.ofInt 15784) := L_len (Nat.le_of_ble_eq_true rfl) (Nat.le_of_ble_eq_true rfl) (zd75 S)
theorem a_75 {k : Int32 → Option ρ} : z_ald X none (mk S) 0 75 i k = if 0 ≤ i.toInt ∧ i.toInt < 15784 then k (Int32.ofInt (gI S 75 i.toInt)) else none := G_ald (Nat.le_of_ble_eq_true rfl) (Or.inl rfl) (zd75 S)
theorem s_75 {k : zM → Option ρ} : z_ast none (mk S) 0 75 i x k = if 0 ≤ i.toInt ∧ i.toInt < 15784 then k (mk (sI S 75 i.toInt x.toInt)) else none := G_ast (zd75 S)
theorem zd76 (S : zS) : zdes S 76 = some (.inr (2, 2)) := rfl
theorem n_76 {k : Int32 → Option ρ} : z_len X none (mk S) 76 k = k (Int32.ofInt 2) := L_len (Nat.le_of_ble_eq_true rfl) (Nat.le_of_ble_eq_true rfl) (zd76 S)
theorem a_76 {k : Int32 → Option ρ} : z_ald X none (mk S) 2 76 i k = if 0 ≤ i.toInt ∧ i.toInt < 2 then k (Int32.ofInt (gI S 76 i.toInt)) else none := G_ald (Nat.le_of_ble_eq_true rfl) (Or.inr rfl) (zd76 S)
theorem s_76 {k : zM → Option ρ} : z_ast none (mk S) 2 76 i x k = if (0 ≤ i.toInt ∧ i.toInt < 2) ∧ (x.toInt = 0 ∨ x.toInt = 1) then k (mk (sI S 76 i.toInt x.toInt)) else none := G_bst (zd76 S)
theorem zd77 (S : zS) : zdes S 77 = some (.inr (0, 1134)) := rfl
theorem n_77 {k : Int32 → Option ρ} : z_len X none (mk S) 77 k = k (Int32.ofInt 1134) := L_len (Nat.le_of_ble_eq_true rfl) (Nat.le_of_ble_eq_true rfl) (zd77 S)
theorem a_77 {k : Int32 → Option ρ} : z_ald X none (mk S) 0 77 i k = if 0 ≤ i.toInt ∧ i.toInt < 1134 then k (Int32.ofInt (gI S 77 i.toInt)) else none := G_ald (Nat.le_of_ble_eq_true rfl) (Or.inl rfl) (zd77 S)
theorem s_77 {k : zM → Option ρ} : z_ast none (mk S) 0 77 i x k = if 0 ≤ i.toInt ∧ i.toInt < 1134 then k (mk (sI S 77 i.toInt x.toInt)) else none := G_ast (zd77 S)
theorem zd78 (S : zS) : zdes S 78 = some (.inr (0, 16)) := rfl
theorem n_78 {k : Int32 → Option ρ} : z_len X none (mk S) 78 k = k (Int32.ofInt 16) := L_len (Nat.le_of_ble_eq_true rfl) (Nat.le_of_ble_eq_true rfl) (zd78 S)
theorem a_78 {k : Int32 → Option ρ} : z_ald X none (mk S) 0 78 i k = if 0 ≤ i.toInt ∧ i.toInt < 16 then k (Int32.ofInt (gI S 78 i.toInt)) else none := G_ald (Nat.le_of_ble_eq_true rfl) (Or.inl rfl) (zd78 S)
theorem s_78 {k : zM → Option ρ} : z_ast none (mk S) 0 78 i x k = if 0 ≤ i.toInt ∧ i.toInt < 16 then k (mk (sI S 78 i.toInt x.toInt)) else none := G_ast (zd78 S)
theorem zd79 (S : zS) : zdes S 79 = some (.inr (0, 1008)) := rfl
theorem n_79 {k : Int32 → Option ρ} : z_len X none (mk S) 79 k = k (Int32.ofInt 1008) := L_len (Nat.le_of_ble_eq_true rfl) (Nat.le_of_ble_eq_true rfl) (zd79 S)
theorem a_79 {k : Int32 → Option ρ} : z_ald X none (mk S) 0 79 i k = if 0 ≤ i.toInt ∧ i.toInt < 1008 then k (Int32.ofInt (gI S 79 i.toInt)) else none := G_ald (Nat.le_of_ble_eq_true rfl) (Or.inl rfl) (zd79 S)
theorem s_79 {k : zM → Option ρ} : z_ast none (mk S) 0 79 i x k = if 0 ≤ i.toInt ∧ i.toInt < 1008 then k (mk (sI S 79 i.toInt x.toInt)) else none := G_ast (zd79 S)
theorem zd80 (S : zS) : zdes S 80 = some (.inr (0, 16)) := rfl
theorem n_80 {k : Int32 → Option ρ} : z_len X none (mk S) 80 k = k (Int32.ofInt 16) := L_len (Nat.le_of_ble_eq_true rfl) (Nat.le_of_ble_eq_true rfl) (zd80 S)
theorem a_80 {k : Int32 → Option ρ} : z_ald X none (mk S) 0 80 i k = if 0 ≤ i.toInt ∧ i.toInt < 16 then k (Int32.ofInt (gI S 80 i.toInt)) else none := G_ald (Nat.le_of_ble_eq_true rfl) (Or.inl rfl) (zd80 S)
theorem s_80 {k : zM → Option ρ} : z_ast none (mk S) 0 80 i x k = if 0 ≤ i.toInt ∧ i.toInt < 16 then k (mk (sI S 80 i.toInt x.toInt)) else none := G_ast (zd80 S)
theorem zd81 (S : zS) : zdes S 81 = some (.inr (0, 400)) := rfl
theorem n_81 {k : Int32 → Option ρ} : z_len X none (mk S) 81 k = k (Int32.ofInt 400) := L_len (Nat.le_of_ble_eq_true rfl) (Nat.le_of_ble_eq_true rfl) (zd81 S)
theorem a_81 {k : Int32 → Option ρ} : z_ald X none (mk S) 0 81 i k = if 0 ≤ i.toInt ∧ i.toInt < 400 then k (Int32.ofInt (gI S 81 i.toInt)) else none := G_ald (Nat.le_of_ble_eq_true rfl) (Or.inl rfl) (zd81 S)
theorem s_81 {k : zM → Option ρ} : z_ast none (mk S) 0 81 i x k = if 0 ≤ i.toInt ∧ i.toInt < 400 then k (mk (sI S 81 i.toInt x.toInt)) else none := G_ast (zd81 S)
theorem zd82 (S : zS) : zdes S 82 = some (.inr (0, 96)) := rfl
theorem n_82 {k : Int32 → Option ρ} : z_len X none (mk S) 82 k = k (Int32.ofInt 96) := L_len (Nat.le_of_ble_eq_true rfl) (Nat.le_of_ble_eq_true rfl) (zd82 S)
theorem a_82 {k : Int32 → Option ρ} : z_ald X none (mk S) 0 82 i k = if 0 ≤ i.toInt ∧ i.toInt < 96 then k (Int32.ofInt (gI S 82 i.toInt)) else none := G_ald (Nat.le_of_ble_eq_true rfl) (Or.inl rfl) (zd82 S)
theorem s_82 {k : zM → Option ρ} : z_ast none (mk S) 0 82 i x k = if 0 ≤ i.toInt ∧ i.toInt < 96 then k (mk (sI S 82 i.toInt x.toInt)) else none := G_ast (zd82 S)
theorem zd83 (S : zS) : zdes S 83 = some (.inr (0, 400)) := rfl
theorem n_83 {k : Int32 → Option ρ} : z_len X none (mk S) 83 k = k (Int32.ofInt 400) := L_len (Nat.le_of_ble_eq_true rfl) (Nat.le_of_ble_eq_true rfl) (zd83 S)
theorem a_83 {k : Int32 → Option ρ} : z_ald X none (mk S) 0 83 i k = if 0 ≤ i.toInt ∧ i.toInt < 400 then k (Int32.ofInt (gI S 83 i.toInt)) else none := G_ald (Nat.le_of_ble_eq_true rfl) (Or.inl rfl) (zd83 S)
theorem s_83 {k : zM → Option ρ} : z_ast none (mk S) 0 83 i x k = if 0 ≤ i.toInt ∧ i.toInt < 400 then k (mk (sI S 83 i.toInt x.toInt)) else none := G_ast (zd83 S)
theorem zd84 (S : zS) : zdes S 84 = some (.inr (0, 400)) := rfl
theorem n_84 {k : Int32 → Option ρ} : z_len X none (mk S) 84 k = k (Int32.ofInt 400) := L_len (Nat.le_of_ble_eq_true rfl) (Nat.le_of_ble_eq_true rfl) (zd84 S)
theorem a_84 {k : Int32 → Option ρ} : z_ald X none (mk S) 0 84 i k = if 0 ≤ i.toInt ∧ i.toInt < 400 then k (Int32.ofInt (gI S 84 i.toInt)) else none := G_ald (Nat.le_of_ble_eq_true rfl) (Or.inl rfl) (zd84 S)
theorem s_84 {k : zM → Option ρ} : z_ast none (mk S) 0 84 i x k = if 0 ≤ i.toInt ∧ i.toInt < 400 then k (mk (sI S 84 i.toInt x.toInt)) else none := G_ast (zd84 S)
theorem zd85 (S : zS) : zdes S 85 = some (.inr (0, 400)) := rfl
theorem n_85 {k : Int32 → Option ρ} : z_len X none (mk S) 85 k = k (Int32.ofInt 400) := L_len (Nat.le_of_ble_eq_true rfl) (Nat.le_of_ble_eq_true rfl) (zd85 S)
theorem a_85 {k : Int32 → Option ρ} : z_ald X none (mk S) 0 85 i k = if 0 ≤ i.toInt ∧ i.toInt < 400 then k (Int32.ofInt (gI S 85 i.toInt)) else none := G_ald (Nat.le_of_ble_eq_true rfl) (Or.inl rfl) (zd85 S)
theorem s_85 {k : zM → Option ρ} : z_ast none (mk S) 0 85 i x k = if 0 ≤ i.toInt ∧ i.toInt < 400 then k (mk (sI S 85 i.toInt x.toInt)) else none := G_ast (zd85 S)
theorem zd86 (S : zS) : zdes S 86 = some (.inr (0, 400)) := rfl
theorem n_86 {k : Int32 → Option ρ} : z_len X none (mk S) 86 k = k (Int32.ofInt 400) := L_len (Nat.le_of_ble_eq_true rfl) (Nat.le_of_ble_eq_true rfl) (zd86 S)
theorem a_86 {k : Int32 → Option ρ} : z_ald X none (mk S) 0 86 i k = if 0 ≤ i.toInt ∧ i.toInt < 400 then k (Int32.ofInt (gI S 86 i.toInt)) else none := G_ald (Nat.le_of_ble_eq_true rfl) (Or.inl rfl) (zd86 S)
theorem s_86 {k : zM → Option ρ} : z_ast none (mk S) 0 86 i x k = if 0 ≤ i.toInt ∧ i.toInt < 400 then k (mk (sI S 86 i.toInt x.toInt)) else none := G_ast (zd86 S)
theorem zd87 (S : zS) : zdes S 87 = some (.inr (1, 8)) := rfl
theorem n_87 {k : Int32 → Option ρ} : z_len X none (mk S) 87 k = k (Int32.ofInt 8) := L_len (Nat.le_of_ble_eq_true rfl) (Nat.le_of_ble_eq_true rfl) (zd87 S)
theorem a_87 {k : Int64 → Option ρ} : z_jld none (mk S) 87 i k = if 0 ≤ i.toInt ∧ i.toInt < 8 then k (Int64.ofInt (gJ S 87 i.toInt)) else none := G_jld (zd87 S)
theorem s_87 {k : zM → Option ρ} : z_jst none (mk S) 87 i y k = if 0 ≤ i.toInt ∧ i.toInt < 8 then k (mk (sJ S 87 i.toInt y.toInt)) else none := G_jst (zd87 S)
theorem zd88 (S : zS) : zdes S 88 = some (.inr (1, 6)) := rfl
theorem n_88 {k : Int32 → Option ρ} : z_len X none (mk S) 88 k = k (Int32.ofInt 6) := L_len (Nat.le_of_ble_eq_true rfl) (Nat.le_of_ble_eq_true rfl) (zd88 S)
theorem a_88 {k : Int64 → Option ρ} : z_jld none (mk S) 88 i k = if 0 ≤ i.toInt ∧ i.toInt < 6 then k (Int64.ofInt (gJ S 88 i.toInt)) else none := G_jld (zd88 S)
theorem s_88 {k : zM → Option ρ} : z_jst none (mk S) 88 i y k = if 0 ≤ i.toInt ∧ i.toInt < 6 then k (mk (sJ S 88 i.toInt y.toInt)) else none := G_jst (zd88 S)
theorem zd89 (S : zS) : zdes S 89 = some (.inr (1, 3)) := rfl
theorem n_89 {k : Int32 → Option ρ} : z_len X none (mk S) 89 k = k (Int32.ofInt 3) := L_len (Nat.le_of_ble_eq_true rfl) (Nat.le_of_ble_eq_true rfl) (zd89 S)
theorem a_89 {k : Int64 → Option ρ} : z_jld none (mk S) 89 i k = if 0 ≤ i.toInt ∧ i.toInt < 3 then k (Int64.ofInt (gJ S 89 i.toInt)) else none := G_jld (zd89 S)
theorem s_89 {k : zM → Option ρ} : z_jst none (mk S) 89 i y k = if 0 ≤ i.toInt ∧ i.toInt < 3 then k (mk (sJ S 89 i.toInt y.toInt)) else none := G_jst (zd89 S)
theorem zd90 (S : zS) : zdes S 90 = some (.inr (1, 13)) := rfl
theorem n_90 {k : Int32 → Option ρ} : z_len X none (mk S) 90 k = k (Int32.ofInt 13) := L_len (Nat.le_of_ble_eq_true rfl) (Nat.le_of_ble_eq_true rfl) (zd90 S)
theorem a_90 {k : Int64 → Option ρ} : z_jld none (mk S) 90 i k = if 0 ≤ i.toInt ∧ i.toInt < 13 then k (Int64.ofInt (gJ S 90 i.toInt)) else none := G_jld (zd90 S)
theorem s_90 {k : zM → Option ρ} : z_jst none (mk S) 90 i y k = if 0 ≤ i.toInt ∧ i.toInt < 13 then k (mk (sJ S 90 i.toInt y.toInt)) else none := G_jst (zd90 S)
theorem zd91 (S : zS) : zdes S 91 = some (.inr (1, 13)) := rfl
theorem n_91 {k : Int32 → Option ρ} : z_len X none (mk S) 91 k = k (Int32.ofInt 13) := L_len (Nat.le_of_ble_eq_true rfl) (Nat.le_of_ble_eq_true rfl) (zd91 S)
theorem a_91 {k : Int64 → Option ρ} : z_jld none (mk S) 91 i k = if 0 ≤ i.toInt ∧ i.toInt < 13 then k (Int64.ofInt (gJ S 91 i.toInt)) else none := G_jld (zd91 S)
theorem s_91 {k : zM → Option ρ} : z_jst none (mk S) 91 i y k = if 0 ≤ i.toInt ∧ i.toInt < 13 then k (mk (sJ S 91 i.toInt y.toInt)) else none := G_jst (zd91 S)
theorem zd92 (S : zS) : zdes S 92 = some (.inr (1, 400)) := rfl
theorem n_92 {k : Int32 → Option ρ} : z_len X none (mk S) 92 k = k (Int32.ofInt 400) := L_len (Nat.le_of_ble_eq_true rfl) (Nat.le_of_ble_eq_true rfl) (zd92 S)
theorem a_92 {k : Int64 → Option ρ} : z_jld none (mk S) 92 i k = if 0 ≤ i.toInt ∧ i.toInt < 400 then k (Int64.ofInt (gJ S 92 i.toInt)) else none := G_jld (zd92 S)
theorem s_92 {k : zM → Option ρ} : z_jst none (mk S) 92 i y k = if 0 ≤ i.toInt ∧ i.toInt < 400 then k (mk (sJ S 92 i.toInt y.toInt)) else none := G_jst (zd92 S)
theorem zd93 (S : zS) : zdes S 93 = some (.inr (1, 4)) := rfl
theorem n_93 {k : Int32 → Option ρ} : z_len X none (mk S) 93 k = k (Int32.ofInt 4) := L_len (Nat.le_of_ble_eq_true rfl) (Nat.le_of_ble_eq_true rfl) (zd93 S)
theorem a_93 {k : Int64 → Option ρ} : z_jld none (mk S) 93 i k = if 0 ≤ i.toInt ∧ i.toInt < 4 then k (Int64.ofInt (gJ S 93 i.toInt)) else none := G_jld (zd93 S)
theorem s_93 {k : zM → Option ρ} : z_jst none (mk S) 93 i y k = if 0 ≤ i.toInt ∧ i.toInt < 4 then k (mk (sJ S 93 i.toInt y.toInt)) else none := G_jst (zd93 S)
theorem zd94 (S : zS) : zdes S 94 = some (.inr (0, 900)) := rfl
theorem n_94 {k : Int32 → Option ρ} : z_len X none (mk S) 94 k = k (Int32.ofInt 900) := L_len (Nat.le_of_ble_eq_true rfl) (Nat.le_of_ble_eq_true rfl) (zd94 S)
theorem a_94 {k : Int32 → Option ρ} : z_ald X none (mk S) 0 94 i k = if 0 ≤ i.toInt ∧ i.toInt < 900 then k (Int32.ofInt (gI S 94 i.toInt)) else none := G_ald (Nat.le_of_ble_eq_true rfl) (Or.inl rfl) (zd94 S)
theorem s_94 {k : zM → Option ρ} : z_ast none (mk S) 0 94 i x k = if 0 ≤ i.toInt ∧ i.toInt < 900 then k (mk (sI S 94 i.toInt x.toInt)) else none := G_ast (zd94 S)
theorem zd95 (S : zS) : zdes S 95 = some (.inr (0, 9)) := rfl
theorem n_95 {k : Int32 → Option ρ} : z_len X none (mk S) 95 k = k (Int32.ofInt 9) := L_len (Nat.le_of_ble_eq_true rfl) (Nat.le_of_ble_eq_true rfl) (zd95 S)
theorem a_95 {k : Int32 → Option ρ} : z_ald X none (mk S) 0 95 i k = if 0 ≤ i.toInt ∧ i.toInt < 9 then k (Int32.ofInt (gI S 95 i.toInt)) else none := G_ald (Nat.le_of_ble_eq_true rfl) (Or.inl rfl) (zd95 S)
theorem s_95 {k : zM → Option ρ} : z_ast none (mk S) 0 95 i x k = if 0 ≤ i.toInt ∧ i.toInt < 9 then k (mk (sI S 95 i.toInt x.toInt)) else none := G_ast (zd95 S)
theorem zd96 (S : zS) : zdes S 96 = some (.inr (0, 9)) := rfl
theorem n_96 {k : Int32 → Option ρ} : z_len X none (mk S) 96 k = k (Int32.ofInt 9) := L_len (Nat.le_of_ble_eq_true rfl) (Nat.le_of_ble_eq_true rfl) (zd96 S)
theorem a_96 {k : Int32 → Option ρ} : z_ald X none (mk S) 0 96 i k = if 0 ≤ i.toInt ∧ i.toInt < 9 then k (Int32.ofInt (gI S 96 i.toInt)) else none := G_ald (Nat.le_of_ble_eq_true rfl) (Or.inl rfl) (zd96 S)
theorem s_96 {k : zM → Option ρ} : z_ast none (mk S) 0 96 i x k = if 0 ≤ i.toInt ∧ i.toInt < 9 then k (mk (sI S 96 i.toInt x.toInt)) else none := G_ast (zd96 S)
theorem zd97 (S : zS) : zdes S 97 = some (.inr (0, 900)) := rfl
theorem n_97 {k : Int32 → Option ρ} : z_len X none (mk S) 97 k = k (Int32.ofInt 900) := L_len (Nat.le_of_ble_eq_true rfl) (Nat.le_of_ble_eq_true rfl) (zd97 S)
theorem a_97 {k : Int32 → Option ρ} : z_ald X none (mk S) 0 97 i k = if 0 ≤ i.toInt ∧ i.toInt < 900 then k (Int32.ofInt (gI S 97 i.toInt)) else none := G_ald (Nat.le_of_ble_eq_true rfl) (Or.inl rfl) (zd97 S)
theorem s_97 {k : zM → Option ρ} : z_ast none (mk S) 0 97 i x k = if 0 ≤ i.toInt ∧ i.toInt < 900 then k (mk (sI S 97 i.toInt x.toInt)) else none := G_ast (zd97 S)
theorem zd98 (S : zS) : zdes S 98 = some (.inr (0, 400)) := rfl
theorem n_98 {k : Int32 → Option ρ} : z_len X none (mk S) 98 k = k (Int32.ofInt 400) := L_len (Nat.le_of_ble_eq_true rfl) (Nat.le_of_ble_eq_true rfl) (zd98 S)
theorem a_98 {k : Int32 → Option ρ} : z_ald X none (mk S) 0 98 i k = if 0 ≤ i.toInt ∧ i.toInt < 400 then k (Int32.ofInt (gI S 98 i.toInt)) else none := G_ald (Nat.le_of_ble_eq_true rfl) (Or.inl rfl) (zd98 S)
theorem s_98 {k : zM → Option ρ} : z_ast none (mk S) 0 98 i x k = if 0 ≤ i.toInt ∧ i.toInt < 400 then k (mk (sI S 98 i.toInt x.toInt)) else none := G_ast (zd98 S)
theorem zd99 (S : zS) : zdes S 99 = some (.inr (0, 201)) := rfl
theorem n_99 {k : Int32 → Option ρ} : z_len X none (mk S) 99 k = k (Int32.ofInt 201) := L_len (Nat.le_of_ble_eq_true rfl) (Nat.le_of_ble_eq_true rfl) (zd99 S)
theorem a_99 {k : Int32 → Option ρ} : z_ald X none (mk S) 0 99 i k = if 0 ≤ i.toInt ∧ i.toInt < 201 then k (Int32.ofInt (gI S 99 i.toInt)) else none := G_ald (Nat.le_of_ble_eq_true rfl) (Or.inl rfl) (zd99 S)
theorem s_99 {k : zM → Option ρ} : z_ast none (mk S) 0 99 i x k = if 0 ≤ i.toInt ∧ i.toInt < 201 then k (mk (sI S 99 i.toInt x.toInt)) else none := G_ast (zd99 S)
theorem zd100 (S : zS) : zdes S 100 = some (.inr (2, 40401)) := rfl
theorem n_100 {k : Int32 → Option ρ} : z_len X none (mk S) 100 k = k (Int32.ofInt 40401) := L_len (Nat.le_of_ble_eq_true rfl) (Nat.le_of_ble_eq_true rfl) (zd100 S)
theorem a_100 {k : Int32 → Option ρ} : z_ald X none (mk S) 2 100 i k = if 0 ≤ i.toInt ∧ i.toInt < 40401 then k (Int32.ofInt (gI S 100 i.toInt)) else none := G_ald (Nat.le_of_ble_eq_true rfl) (Or.inr rfl) (zd100 S)
theorem s_100 {k : zM → Option ρ} : z_ast none (mk S) 2 100 i x k = if (0 ≤ i.toInt ∧ i.toInt < 40401) ∧ (x.toInt = 0 ∨ x.toInt = 1) then k (mk (sI S 100 i.toInt x.toInt)) else none := G_bst (zd100 S)
theorem zd101 (S : zS) : zdes S 101 = some (.inr (2, 201)) := rfl
theorem n_101 {k : Int32 → Option ρ} : z_len X none (mk S) 101 k = k (Int32.ofInt 201) := L_len (Nat.le_of_ble_eq_true rfl) (Nat.le_of_ble_eq_true rfl) (zd101 S)
theorem a_101 {k : Int32 → Option ρ} : z_ald X none (mk S) 2 101 i k = if 0 ≤ i.toInt ∧ i.toInt < 201 then k (Int32.ofInt (gI S 101 i.toInt)) else none := G_ald (Nat.le_of_ble_eq_true rfl) (Or.inr rfl) (zd101 S)
theorem s_101 {k : zM → Option ρ} : z_ast none (mk S) 2 101 i x k = if (0 ≤ i.toInt ∧ i.toInt < 201) ∧ (x.toInt = 0 ∨ x.toInt = 1) then k (mk (sI S 101 i.toInt x.toInt)) else none := G_bst (zd101 S)
theorem zd102 (S : zS) : zdes S 102 = some (.inr (2, 201)) := rfl
theorem n_102 {k : Int32 → Option ρ} : z_len X none (mk S) 102 k = k (Int32.ofInt 201) := L_len (Nat.le_of_ble_eq_true rfl) (Nat.le_of_ble_eq_true rfl) (zd102 S)
theorem a_102 {k : Int32 → Option ρ} : z_ald X none (mk S) 2 102 i k = if 0 ≤ i.toInt ∧ i.toInt < 201 then k (Int32.ofInt (gI S 102 i.toInt)) else none := G_ald (Nat.le_of_ble_eq_true rfl) (Or.inr rfl) (zd102 S)
theorem s_102 {k : zM → Option ρ} : z_ast none (mk S) 2 102 i x k = if (0 ≤ i.toInt ∧ i.toInt < 201) ∧ (x.toInt = 0 ∨ x.toInt = 1) then k (mk (sI S 102 i.toInt x.toInt)) else none := G_bst (zd102 S)
theorem zd103 (S : zS) : zdes S 103 = some (.inr (0, 60)) := rfl
theorem n_103 {k : Int32 → Option ρ} : z_len X none (mk S) 103 k = k (Int32.ofInt 60) := L_len (Nat.le_of_ble_eq_true rfl) (Nat.le_of_ble_eq_true rfl) (zd103 S)
theorem a_103 {k : Int32 → Option ρ} : z_ald X none (mk S) 0 103 i k = if 0 ≤ i.toInt ∧ i.toInt < 60 then k (Int32.ofInt (gI S 103 i.toInt)) else none := G_ald (Nat.le_of_ble_eq_true rfl) (Or.inl rfl) (zd103 S)
theorem s_103 {k : zM → Option ρ} : z_ast none (mk S) 0 103 i x k = if 0 ≤ i.toInt ∧ i.toInt < 60 then k (mk (sI S 103 i.toInt x.toInt)) else none := G_ast (zd103 S)
theorem zd104 (S : zS) : zdes S 104 = some (.inr (0, 4221)) := rfl
theorem n_104 {k : Int32 → Option ρ} : z_len X none (mk S) 104 k = k (Int32.ofInt 4221) := L_len (Nat.le_of_ble_eq_true rfl) (Nat.le_of_ble_eq_true rfl) (zd104 S)
theorem a_104 {k : Int32 → Option ρ} : z_ald X none (mk S) 0 104 i k = if 0 ≤ i.toInt ∧ i.toInt < 4221 then k (Int32.ofInt (gI S 104 i.toInt)) else none := G_ald (Nat.le_of_ble_eq_true rfl) (Or.inl rfl) (zd104 S)
theorem s_104 {k : zM → Option ρ} : z_ast none (mk S) 0 104 i x k = if 0 ≤ i.toInt ∧ i.toInt < 4221 then k (mk (sI S 104 i.toInt x.toInt)) else none := G_ast (zd104 S)
theorem zd105 (S : zS) : zdes S 105 = some (.inr (2, 201)) := rfl
theorem n_105 {k : Int32 → Option ρ} : z_len X none (mk S) 105 k = k (Int32.ofInt 201) := L_len (Nat.le_of_ble_eq_true rfl) (Nat.le_of_ble_eq_true rfl) (zd105 S)
theorem a_105 {k : Int32 → Option ρ} : z_ald X none (mk S) 2 105 i k = if 0 ≤ i.toInt ∧ i.toInt < 201 then k (Int32.ofInt (gI S 105 i.toInt)) else none := G_ald (Nat.le_of_ble_eq_true rfl) (Or.inr rfl) (zd105 S)
theorem s_105 {k : zM → Option ρ} : z_ast none (mk S) 2 105 i x k = if (0 ≤ i.toInt ∧ i.toInt < 201) ∧ (x.toInt = 0 ∨ x.toInt = 1) then k (mk (sI S 105 i.toInt x.toInt)) else none := G_bst (zd105 S)
theorem zd106 (S : zS) : zdes S 106 = some (.inr (2, 201)) := rfl
theorem n_106 {k : Int32 → Option ρ} : z_len X none (mk S) 106 k = k (Int32.ofInt 201) := L_len (Nat.le_of_ble_eq_true rfl) (Nat.le_of_ble_eq_true rfl) (zd106 S)
theorem a_106 {k : Int32 → Option ρ} : z_ald X none (mk S) 2 106 i k = if 0 ≤ i.toInt ∧ i.toInt < 201 then k (Int32.ofInt (gI S 106 i.toInt)) else none := G_ald (Nat.le_of_ble_eq_true rfl) (Or.inr rfl) (zd106 S)
theorem s_106 {k : zM → Option ρ} : z_ast none (mk S) 2 106 i x k = if (0 ≤ i.toInt ∧ i.toInt < 201) ∧ (x.toInt = 0 ∨ x.toInt = 1) then k (mk (sI S 106 i.toInt x.toInt)) else none := G_bst (zd106 S)
theorem zd107 (S : zS) : zdes S 107 = some (.inr (0, 20)) := rfl
theorem n_107 {k : Int32 → Option ρ} : z_len X none (mk S) 107 k = k (Int32.ofInt 20) := L_len (Nat.le_of_ble_eq_true rfl) (Nat.le_of_ble_eq_true rfl) (zd107 S)
theorem a_107 {k : Int32 → Option ρ} : z_ald X none (mk S) 0 107 i k = if 0 ≤ i.toInt ∧ i.toInt < 20 then k (Int32.ofInt (gI S 107 i.toInt)) else none := G_ald (Nat.le_of_ble_eq_true rfl) (Or.inl rfl) (zd107 S)
theorem s_107 {k : zM → Option ρ} : z_ast none (mk S) 0 107 i x k = if 0 ≤ i.toInt ∧ i.toInt < 20 then k (mk (sI S 107 i.toInt x.toInt)) else none := G_ast (zd107 S)
theorem zd108 (S : zS) : zdes S 108 = some (.inr (2, 4221)) := rfl
theorem n_108 {k : Int32 → Option ρ} : z_len X none (mk S) 108 k = k (Int32.ofInt 4221) := L_len (Nat.le_of_ble_eq_true rfl) (Nat.le_of_ble_eq_true rfl) (zd108 S)
theorem a_108 {k : Int32 → Option ρ} : z_ald X none (mk S) 2 108 i k = if 0 ≤ i.toInt ∧ i.toInt < 4221 then k (Int32.ofInt (gI S 108 i.toInt)) else none := G_ald (Nat.le_of_ble_eq_true rfl) (Or.inr rfl) (zd108 S)
theorem s_108 {k : zM → Option ρ} : z_ast none (mk S) 2 108 i x k = if (0 ≤ i.toInt ∧ i.toInt < 4221) ∧ (x.toInt = 0 ∨ x.toInt = 1) then k (mk (sI S 108 i.toInt x.toInt)) else none := G_bst (zd108 S)
theorem zd109 (S : zS) : zdes S 109 = some (.inr (0, 120)) := rfl
theorem n_109 {k : Int32 → Option ρ} : z_len X none (mk S) 109 k = k (Int32.ofInt 120) := L_len (Nat.le_of_ble_eq_true rfl) (Nat.le_of_ble_eq_true rfl) (zd109 S)
theorem a_109 {k : Int32 → Option ρ} : z_ald X none (mk S) 0 109 i k = if 0 ≤ i.toInt ∧ i.toInt < 120 then k (Int32.ofInt (gI S 109 i.toInt)) else none := G_ald (Nat.le_of_ble_eq_true rfl) (Or.inl rfl) (zd109 S)
theorem s_109 {k : zM → Option ρ} : z_ast none (mk S) 0 109 i x k = if 0 ≤ i.toInt ∧ i.toInt < 120 then k (mk (sI S 109 i.toInt x.toInt)) else none := G_ast (zd109 S)
theorem zd110 (S : zS) : zdes S 110 = some (.inr (1, 21)) := rfl
theorem n_110 {k : Int32 → Option ρ} : z_len X none (mk S) 110 k = k (Int32.ofInt 21) := L_len (Nat.le_of_ble_eq_true rfl) (Nat.le_of_ble_eq_true rfl) (zd110 S)
theorem a_110 {k : Int64 → Option ρ} : z_jld none (mk S) 110 i k = if 0 ≤ i.toInt ∧ i.toInt < 21 then k (Int64.ofInt (gJ S 110 i.toInt)) else none := G_jld (zd110 S)
theorem s_110 {k : zM → Option ρ} : z_jst none (mk S) 110 i y k = if 0 ≤ i.toInt ∧ i.toInt < 21 then k (mk (sJ S 110 i.toInt y.toInt)) else none := G_jst (zd110 S)
theorem zd111 (S : zS) : zdes S 111 = some (.inr (1, 4)) := rfl
theorem n_111 {k : Int32 → Option ρ} : z_len X none (mk S) 111 k = k (Int32.ofInt 4) := L_len (Nat.le_of_ble_eq_true rfl) (Nat.le_of_ble_eq_true rfl) (zd111 S)
theorem a_111 {k : Int64 → Option ρ} : z_jld none (mk S) 111 i k = if 0 ≤ i.toInt ∧ i.toInt < 4 then k (Int64.ofInt (gJ S 111 i.toInt)) else none := G_jld (zd111 S)
theorem s_111 {k : zM → Option ρ} : z_jst none (mk S) 111 i y k = if 0 ≤ i.toInt ∧ i.toInt < 4 then k (mk (sJ S 111 i.toInt y.toInt)) else none := G_jst (zd111 S)
theorem zd112 (S : zS) : zdes S 112 = some (.inr (0, 96)) := rfl
theorem n_112 {k : Int32 → Option ρ} : z_len X none (mk S) 112 k = k (Int32.ofInt 96) := L_len (Nat.le_of_ble_eq_true rfl) (Nat.le_of_ble_eq_true rfl) (zd112 S)
theorem a_112 {k : Int32 → Option ρ} : z_ald X none (mk S) 0 112 i k = if 0 ≤ i.toInt ∧ i.toInt < 96 then k (Int32.ofInt (gI S 112 i.toInt)) else none := G_ald (Nat.le_of_ble_eq_true rfl) (Or.inl rfl) (zd112 S)
theorem s_112 {k : zM → Option ρ} : z_ast none (mk S) 0 112 i x k = if 0 ≤ i.toInt ∧ i.toInt < 96 then k (mk (sI S 112 i.toInt x.toInt)) else none := G_ast (zd112 S)
theorem zd113 (S : zS) : zdes S 113 = some (.inr (0, 63)) := rfl
theorem n_113 {k : Int32 → Option ρ} : z_len X none (mk S) 113 k = k (Int32.ofInt 63) := L_len (Nat.le_of_ble_eq_true rfl) (Nat.le_of_ble_eq_true rfl) (zd113 S)
theorem a_113 {k : Int32 → Option ρ} : z_ald X none (mk S) 0 113 i k = if 0 ≤ i.toInt ∧ i.toInt < 63 then k (Int32.ofInt (gI S 113 i.toInt)) else none := G_ald (Nat.le_of_ble_eq_true rfl) (Or.inl rfl) (zd113 S)
theorem s_113 {k : zM → Option ρ} : z_ast none (mk S) 0 113 i x k = if 0 ≤ i.toInt ∧ i.toInt < 63 then k (mk (sI S 113 i.toInt x.toInt)) else none := G_ast (zd113 S)
end
