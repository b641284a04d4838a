/-! THE START: both are made, and what holds between calls holds -/
set_option maxRecDepth 20000 in
theorem start {X : zX} {d : Nat} (hd : 60 ≤ d) : z_ev X d (z_entry 283 [.ref 2] (4, 0, fun _ => none)) = z_ev X d (283, 18, [some (.ref 2), some (.ref 4), some (.ref 72), some (.int 0)], [], mk S0) := by
  have e1 : z_new (4, 0, fun _ => none) (.inr (10, z_defs 10)) = zmm 5 4 (fun _ => none) 10 (z_defs 10) [] 20 := by
    refine Prod.ext rfl (Prod.ext rfl (funext fun a => ?_))
    show (if a = 4 then some (.inr (10, z_defs 10)) else none) = if 4 < a then (if a < 5 then ([] : List va_E)[5 - 1 - a]? else none) else if a = 4 then some (.inr (10, z_defs 10)) else none
    by_cases q : 4 < a
    · rw [if_pos q, if_neg (show ¬ a = 4 by omega), if_neg (show ¬ a < 5 by omega)]
    · rw [if_neg q]
  show z_ev X d (283, 0, [some (.ref 2), none, none, none], [], (4, 0, fun _ => none)) = _
  rw [B283_0, e1]
  show z_obj none (zmm 5 4 (fun _ => none) 10 (z_defs 10) [] 20) (.ref 4) 10 (z_evc X d 96 [.ref 4] (283, 7, [some (.ref 2), none, none, none], [.ref 4], zmm 5 4 (fun _ => none) 10 (z_defs 10) [] 20)) = _
  rw [zm_objb, z_evc_of (k := 40) (r := (none, zmm 72 4 (fun _ => none) 10 [.ref 5, .ref 12, .ref 19, .ref 26, .ref 27, .ref 31, .ref 35, .ref 37, .ref 41, .ref 52, .ref 56, .ref 58, .ref 68, .ref 69, .ref 70, .ref 71, .int (0), .int (-1), .int (0), .int (-1)] [.inl (0, 5, .inl (fun _ => 0)), .inl (1, 20, .inr (.inl (fun _ => 0))), .inl (1, 6, .inr (.inl (fun _ => 0))), .inl (0, 30, .inl (fun _ => 0)), .inl (1, 400, .inr (.inl (fun _ => 0))), .inl (1, 400, .inr (.inl (fun _ => 0))), .inl (0, 400, .inl (fun _ => 0)), .inl (1, 60, .inr (.inl (fun _ => 0))), .inl (0, 60, .inl (fun _ => 0)), .inl (0, 3, .inl (fun _ => 0)), .inl (0, 8, .inl (fun _ => 0)), .inl (0, 51, .inl (fun _ => 0)), .inr (5, [.ref 60]), .inr (6, [.ref 59, .ref 61, .ref 62, .ref 63, .ref 64, .ref 65, .ref 66, .ref 67, .int (0), .int (0), .int (0)]), .inl (0, 51, .inl (fun _ => 0)), .inr (5, [.ref 57]), .inl (0, 60, .inl (fun _ => 0)), .inl (0, 436, .inl (fun _ => 0)), .inr (1, [.ref 54, .ref 55, .int (0), .int (0), .int (0)]), .inr (0, [.ref 53, .int (0), .int (0)]), .inl (0, 400, .inl (fun _ => 0)), .inl (0, 400, .inl (fun _ => 0)), .inl (0, 400, .inl (fun _ => 0)), .inl (0, 400, .inl (fun _ => 0)), .inl (0, 400, .inl (fun _ => 0)), .inl (0, 402, .inl (fun _ => 0)), .inl (0, 402, .inl (fun _ => 0)), .inl (0, 402, .inl (fun _ => 0)), .inl (0, 402, .inl (fun _ => 0)), .inl (0, 402, .inl (fun _ => 0)), .inr (4, [.ref 42, .ref 43, .ref 44, .ref 45, .ref 46, .ref 47, .ref 48, .ref 49, .ref 50, .ref 51, .int (0)]), .inl (0, 401, .inl (fun _ => 0)), .inl (0, 401, .inl (fun _ => 0)), .inl (0, 401, .inl (fun _ => 0)), .inr (9, [.ref 38, .ref 39, .ref 40, .int (0), .int (0), .int (-1)]), .inl (0, 400, .inl (fun _ => 0)), .inr (8, [.ref 36, .int (0)]), .inl (0, 16, .inl (fun _ => 0)), .inl (0, 16, .inl (fun _ => 0)), .inl (0, 16, .inl (fun _ => 0)), .inr (2, [.ref 32, .ref 33, .ref 34, .int (0)]), .inl (0, 16, .inl (fun _ => 0)), .inl (0, 16, .inl (fun _ => 0)), .inl (0, 16, .inl (fun _ => 0)), .inr (2, [.ref 28, .ref 29, .ref 30, .int (0)]), .inl (5, 2, .inr (.inr (.inr (.inr (fun _ => none))))), .inl (4, 6, .inr (.inr (.inr (.inr (fun _ => none))))), .inl (3, 6, .inr (.inr (.inr (.inr (fun _ => none))))), .inl (0, 6, .inl (fun _ => 0)), .inl (0, 6, .inl (fun _ => 0)), .inl (0, 3, .inl (upd (upd (upd (fun _ => 0) 0 0) 1 1) 2 0)), .inl (0, 60, .inl (fun _ => 0)), .inr (7, [.ref 20, .ref 21, .ref 22, .ref 23, .ref 24, .ref 25, .int (0), .int (0), .int (0), .int (0), .int (-1)]), .inl (4, 6, .inr (.inr (.inr (.inr (fun _ => none))))), .inl (3, 6, .inr (.inr (.inr (.inr (fun _ => none))))), .inl (0, 6, .inl (fun _ => 0)), .inl (0, 6, .inl (fun _ => 0)), .inl (0, 3, .inl (upd (upd (upd (fun _ => 0) 0 0) 1 1) 2 0)), .inl (0, 60, .inl (fun _ => 0)), .inr (7, [.ref 13, .ref 14, .ref 15, .ref 16, .ref 17, .ref 18, .int (0), .int (0), .int (0), .int (0), .int (-1)]), .inl (4, 6, .inr (.inr (.inr (.inr (fun _ => none))))), .inl (3, 6, .inr (.inr (.inr (.inr (fun _ => none))))), .inl (0, 6, .inl (fun _ => 0)), .inl (0, 6, .inl (fun _ => 0)), .inl (0, 3, .inl (upd (upd (upd (fun _ => 0) 0 0) 1 1) 2 0)), .inl (0, 60, .inl (fun _ => 0)), .inr (7, [.ref 6, .ref 7, .ref 8, .ref 9, .ref 10, .ref 11, .int (0), .int (0), .int (0), .int (0), .int (-1)])] (20 + 8043))) (ck := (283, 7, [some (.ref 2), none, none, none], [.ref 4], zmm 5 4 (fun _ => none) 10 (z_defs 10) [] 20)) (by omega) (k96_4 (X := X) (Nat.le_refl _) (fun _ => none) 20)]
  show z_ev X d (283, 7, [some (.ref 2), none, none, none], [.ref 4], zmm 72 4 (fun _ => none) 10 [.ref 5, .ref 12, .ref 19, .ref 26, .ref 27, .ref 31, .ref 35, .ref 37, .ref 41, .ref 52, .ref 56, .ref 58, .ref 68, .ref 69, .ref 70, .ref 71, .int (0), .int (-1), .int (0), .int (-1)] [.inl (0, 5, .inl (fun _ => 0)), .inl (1, 20, .inr (.inl (fun _ => 0))), .inl (1, 6, .inr (.inl (fun _ => 0))), .inl (0, 30, .inl (fun _ => 0)), .inl (1, 400, .inr (.inl (fun _ => 0))), .inl (1, 400, .inr (.inl (fun _ => 0))), .inl (0, 400, .inl (fun _ => 0)), .inl (1, 60, .inr (.inl (fun _ => 0))), .inl (0, 60, .inl (fun _ => 0)), .inl (0, 3, .inl (fun _ => 0)), .inl (0, 8, .inl (fun _ => 0)), .inl (0, 51, .inl (fun _ => 0)), .inr (5, [.ref 60]), .inr (6, [.ref 59, .ref 61, .ref 62, .ref 63, .ref 64, .ref 65, .ref 66, .ref 67, .int (0), .int (0), .int (0)]), .inl (0, 51, .inl (fun _ => 0)), .inr (5, [.ref 57]), .inl (0, 60, .inl (fun _ => 0)), .inl (0, 436, .inl (fun _ => 0)), .inr (1, [.ref 54, .ref 55, .int (0), .int (0), .int (0)]), .inr (0, [.ref 53, .int (0), .int (0)]), .inl (0, 400, .inl (fun _ => 0)), .inl (0, 400, .inl (fun _ => 0)), .inl (0, 400, .inl (fun _ => 0)), .inl (0, 400, .inl (fun _ => 0)), .inl (0, 400, .inl (fun _ => 0)), .inl (0, 402, .inl (fun _ => 0)), .inl (0, 402, .inl (fun _ => 0)), .inl (0, 402, .inl (fun _ => 0)), .inl (0, 402, .inl (fun _ => 0)), .inl (0, 402, .inl (fun _ => 0)), .inr (4, [.ref 42, .ref 43, .ref 44, .ref 45, .ref 46, .ref 47, .ref 48, .ref 49, .ref 50, .ref 51, .int (0)]), .inl (0, 401, .inl (fun _ => 0)), .inl (0, 401, .inl (fun _ => 0)), .inl (0, 401, .inl (fun _ => 0)), .inr (9, [.ref 38, .ref 39, .ref 40, .int (0), .int (0), .int (-1)]), .inl (0, 400, .inl (fun _ => 0)), .inr (8, [.ref 36, .int (0)]), .inl (0, 16, .inl (fun _ => 0)), .inl (0, 16, .inl (fun _ => 0)), .inl (0, 16, .inl (fun _ => 0)), .inr (2, [.ref 32, .ref 33, .ref 34, .int (0)]), .inl (0, 16, .inl (fun _ => 0)), .inl (0, 16, .inl (fun _ => 0)), .inl (0, 16, .inl (fun _ => 0)), .inr (2, [.ref 28, .ref 29, .ref 30, .int (0)]), .inl (5, 2, .inr (.inr (.inr (.inr (fun _ => none))))), .inl (4, 6, .inr (.inr (.inr (.inr (fun _ => none))))), .inl (3, 6, .inr (.inr (.inr (.inr (fun _ => none))))), .inl (0, 6, .inl (fun _ => 0)), .inl (0, 6, .inl (fun _ => 0)), .inl (0, 3, .inl (upd (upd (upd (fun _ => 0) 0 0) 1 1) 2 0)), .inl (0, 60, .inl (fun _ => 0)), .inr (7, [.ref 20, .ref 21, .ref 22, .ref 23, .ref 24, .ref 25, .int (0), .int (0), .int (0), .int (0), .int (-1)]), .inl (4, 6, .inr (.inr (.inr (.inr (fun _ => none))))), .inl (3, 6, .inr (.inr (.inr (.inr (fun _ => none))))), .inl (0, 6, .inl (fun _ => 0)), .inl (0, 6, .inl (fun _ => 0)), .inl (0, 3, .inl (upd (upd (upd (fun _ => 0) 0 0) 1 1) 2 0)), .inl (0, 60, .inl (fun _ => 0)), .inr (7, [.ref 13, .ref 14, .ref 15, .ref 16, .ref 17, .ref 18, .int (0), .int (0), .int (0), .int (0), .int (-1)]), .inl (4, 6, .inr (.inr (.inr (.inr (fun _ => none))))), .inl (3, 6, .inr (.inr (.inr (.inr (fun _ => none))))), .inl (0, 6, .inl (fun _ => 0)), .inl (0, 6, .inl (fun _ => 0)), .inl (0, 3, .inl (upd (upd (upd (fun _ => 0) 0 0) 1 1) 2 0)), .inl (0, 60, .inl (fun _ => 0)), .inr (7, [.ref 6, .ref 7, .ref 8, .ref 9, .ref 10, .ref 11, .int (0), .int (0), .int (0), .int (0), .int (-1)])] (20 + 8043)) = _
  rw [B283_7, zm_o (by decide), zm_1, zm_objt (by decide) rfl, zm_call (k := 0) (c := 72) (w0 := 0) (by omega) (k149_72 (X := X)) (by decide) rfl rfl, B283_15]
  exact congrArg (fun M => z_ev X d (283, 18, [some (.ref 2), some (.ref 4), some (.ref 72), some (.int 0)], [], M)) M0_mk
theorem h0_74 {i : Int} (h0 : 0 ≤ i) (h4 : i ≠ 4) (h6 : i ≠ 6) : gI S0 74 i = 0 := by
  show (upd (upd (fun _ => (0 : Int32)) 4 (-1)) 6 1 i.toNat).toInt = 0
  unfold upd
  rw [if_neg (by omega), if_neg (by omega)]
  rfl
theorem inv0 : Inv PM QL S0 := by
  have g0 : gI S0 74 0 = 0 := h0_74 (by omega) (by omega) (by omega)
  have g1 : gI S0 74 1 = 0 := h0_74 (by omega) (by omega) (by omega)
  have g2 : gI S0 74 2 = 0 := h0_74 (by omega) (by omega) (by omega)
  have g3 : gI S0 74 3 = 0 := h0_74 (by omega) (by omega) (by omega)
  have g4 : gI S0 74 4 = -1 := by decide
  have g5 : gI S0 74 5 = 0 := h0_74 (by omega) (by omega) (by omega)
  have g6 : gI S0 74 6 = 1 := by decide
  have g7 : gI S0 74 7 = 0 := h0_74 (by omega) (by omega) (by omega)
  have qn : ∀ a i, a ≠ 58 → gQ S0 a i = none := fun a i h => by
    show zs0Q a i = none
    unfold zs0Q; rw [if_neg h]
  have z32 : ((0 : Int32)).toInt = 0 := rfl
  have z64 : ((0 : Int64)).toInt = 0 := rfl
  have a6 : ∀ i, gI S0 6 i = 0 := fun _ => rfl
  have a76 : ∀ i, gI S0 76 i = 0 := fun _ => rfl
  have h8 : gI S0 72 8 = 0 := by decide
  have h13 : gI S0 72 13 = 0 := by decide
  have b66 : ∀ i, gJ S0 66 i = 0 := fun _ => rfl
  have b67 : ∀ i, gJ S0 67 i = 0 := fun _ => rfl
  refine ⟨⟨?_, ?_, ?_, ?_, ?_, ?_, ?_, ?_, ?_, ?_⟩, ⟨⟨?_, ?_, ?_⟩, ?_⟩, ⟨⟨?_, ?_, ?_⟩, ?_⟩, ⟨?_, ?_, ?_, ?_, ?_, ?_, ?_, ?_, ?_⟩, Or.inl ⟨?_, ?_⟩, ⟨⟨?_, ?_⟩, ⟨?_, ?_⟩, ?_⟩, ?_, Or.inl ⟨?_, ?_⟩, ?_, ?_, ?_, ?_, ?_, ?_, ?_⟩
  · rw [g0]; decide
  · rw [g1]; decide
  · rw [g2]; decide
  · rw [g3]; decide
  · rw [g4, g3]; decide
  · rw [g5, g6, g7]; decide
  · intro p q1 q2
    rw [h0_74 (i := 8 + p) (by omega) (by omega) (by omega), h0_74 (i := 28 + p) (by omega) (by omega) (by omega), h0_74 (i := 48 + p) (by omega) (by omega) (by omega)]
    exact ⟨a6 _, a6 _, a6 _, by omega, by omega, by omega, by omega, by omega, by omega⟩
  · intro k q1 q2; rw [g2] at q2; omega
  · intro k q1 q2; rw [g1] at q2; omega
  · intro k q1 q2; rw [g3] at q2; omega
  · rw [h8]; decide
  · rw [h8]; decide
  · rw [h8]; decide
  · intro k q1 q2; rw [h8] at q2; omega
  · rw [h13]; decide
  · rw [h13]; decide
  · rw [h13]; decide
  · intro k q1 q2; rw [h13] at q2; omega
  · decide
  · decide
  · decide
  · decide
  · decide
  · decide
  · decide
  · decide
  · decide
  · decide
  · decide
  · intro k a q1 q2 q3; rw [qn _ _ (by omega)] at q3; cases q3
  · intro k a q1 q2 q3; rw [qn _ _ (by omega)] at q3; cases q3
  · intro b _ _; rfl
  · intro s q; rw [qn _ _ (by omega)] at q; cases q
  · intro k _ _; exact Or.inl ⟨a76 _, qn _ _ (by omega)⟩
  · decide
  · decide
  · decide
  · decide
  · decide
  · decide
  · decide
  · decide
  · decide
  · intro i _ _
    rw [b66, b67]; omega
