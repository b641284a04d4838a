/-! a new state; image and back in pairs -/
def newSt (S : zS) : zS := let s := gN S; sI (sQ (sN (sQ (sN (sQ (sN (sQ (sN (sQ (sI (sI (sI (sN (sQ (sN (sN S (.inl 7) 11) (.inr (0, 60)) 60) s 0 (some (s + 1))) (.inr (0, 3)) 3) (s + 2) 0 0) (s + 2) 1 1) (s + 2) 2 0) s 1 (some (s + 2))) (.inr (0, 6)) 6) s 2 (some (s + 3))) (.inr (0, 6)) 6) s 3 (some (s + 4))) (.inr (3, 6)) 6) s 4 (some (s + 5))) (.inr (4, 6)) 6) s 5 (some (s + 6))) s 10 (-1)
section
variable {ρ : Type} {T : zS} {s m j t : Nat} {n : Int32} {k : zM → Option ρ}
theorem z62_A (hs : 114 ≤ s) (hN : s < gN T) (h7 : gH T s = some (.inl 7)) (hj : z_get [2, 2, 2, 2, 2, 2, 0, 0, 0, 0, 0] j = some 2) (hn : (0 ≤ n ∧ n ≤ 100000)) (hm : n.toNatClampNeg = m) : (if 0 ≤ n ∧ n ≤ 100000 then z_fset none (z_new (mk T) (.inl (0, n.toNatClampNeg, .inl (fun _ => 0)))) s 7 j (.ref (mk T).1) k else none) = k (mk (sQ (sN T (.inr (0, m)) m) s (j : Int) (some (gN T)))) := by
  rw [if_pos hn, hm, L_newA (by omega), L_setQ (st_dyn hs (by rw [gH_sN, if_neg (by omega)]; exact h7)) hj]; rfl
theorem z62_Q (ht : 3 ≤ t) (hs : 114 ≤ s) (hN : s < gN T) (h7 : gH T s = some (.inl 7)) (hj : z_get [2, 2, 2, 2, 2, 2, 0, 0, 0, 0, 0] j = some 2) (hn : (0 ≤ n ∧ n ≤ 100000)) (hm : n.toNatClampNeg = m) : (if 0 ≤ n ∧ n ≤ 100000 then z_fset none (z_new (mk T) (.inl (t, n.toNatClampNeg, .inr (.inr (.inr (.inr (fun _ => none))))))) s 7 j (.ref (mk T).1) k else none) = k (mk (sQ (sN T (.inr (t, m)) m) s (j : Int) (some (gN T)))) := by
  rw [if_pos hn, hm, L_newQ (by omega) ht, L_setQ (st_dyn hs (by rw [gH_sN, if_neg (by omega)]; exact h7)) hj]; rfl
theorem z62_3 (hs : 114 ≤ s) (hN : s < gN T) (h7 : gH T s = some (.inl 7)) : (if 0 ≤ (3 : Int32) ∧ (3 : Int32) ≤ 100000 then z_ast none (z_new (mk T) (.inl (0, (3 : Int32).toNatClampNeg, .inl (fun _ => 0)))) 0 (mk T).1 0 0 (fun y2 => z_ast none y2 0 (mk T).1 1 1 (fun y3 => z_ast none y3 0 (mk T).1 2 0 (fun y4 => z_fset none y4 s 7 1 (.ref (mk T).1) k))) else none) = k (mk (sQ (sI (sI (sI (sN T (.inr (0, 3)) 3) (gN T) 0 0) (gN T) 1 1) (gN T) 2 0) s 1 (some (gN T)))) := by
  have hz : ∀ U : zS, gH U (gN T) = some (.inr (0, 3)) → zdes U (gN T) = some (.inr (0, 3)) := fun U h => zdes_arr (by omega) h
  have h3 : gH (sN T (.inr (0, 3)) 3) (gN T) = some (.inr (0, 3)) := by rw [gH_sN, if_pos rfl]
  rw [if_pos (by decide), show (3 : Int32).toNatClampNeg = 3 from rfl, L_newA (by omega), show (mk T).1 = gN T from rfl]
  rw [G_ast (hz _ h3), if_pos (by decide)]
  rw [G_ast (hz (sI (sN T (.inr (0, 3)) 3) _ _ _) h3), if_pos (by decide)]
  rw [G_ast (hz (sI (sI (sN T (.inr (0, 3)) 3) _ _ _) _ _ _) h3), if_pos (by decide)]
  rw [L_setQ (S := sI (sI (sI (sN T (.inr (0, 3)) 3) _ _ _) _ _ _) _ _ _) (st_dyn hs (show gH (sN T (.inr (0, 3)) 3) s = _ by rw [gH_sN, if_neg (by omega)]; exact h7)) rfl]
  rfl
end
theorem e62 {X : zX} {d : Nat} {S : zS} (hN : 114 ≤ gN S) : z_ev X d (62, 0, [some (.ref (gN S))], [], mk (sN S (.inl 7) 11)) = some (none, mk (newSt S)) := by
  rw [B62_0]
  obtain ⟨s, hs⟩ : ∃ s, s = gN S := ⟨_, rfl⟩
  unfold newSt
  simp only []
  rw [← hs]
  rw [← hs] at hN
  obtain ⟨T0, e0⟩ : ∃ T, T = sN S (.inl 7) 11 := ⟨_, rfl⟩
  have n0 : gN T0 = s + 1 := by rw [e0, gN_sN, hs]
  have h0 : gH T0 s = some (.inl 7) := by rw [e0, gH_sN, if_pos hs]
  rw [← e0, z62_A (m := 60) hN (by omega) h0 rfl (by decide) rfl, n0]
  obtain ⟨T1, e1⟩ : ∃ T, T = sQ (sN T0 (.inr (0, 60)) 60) s 0 (some (s + 1)) := ⟨_, rfl⟩
  have n1 : gN T1 = s + 2 := by rw [e1, gN_sQ, gN_sN, n0]
  have h1 : gH T1 s = some (.inl 7) := by rw [e1, gH_sQ, gH_sN, if_neg (by omega)]; exact h0
  rw [show ((0 : Nat) : Int) = 0 from rfl, ← e1, z62_3 hN (by omega) h1, n1]
  obtain ⟨T2, e2⟩ : ∃ T, T = sQ (sI (sI (sI (sN T1 (.inr (0, 3)) 3) (s + 2) 0 0) (s + 2) 1 1) (s + 2) 2 0) s 1 (some (s + 2)) := ⟨_, rfl⟩
  have n2 : gN T2 = s + 3 := by rw [e2, gN_sQ, gN_sI, gN_sI, gN_sI, gN_sN, n1]
  have h2 : gH T2 s = some (.inl 7) := by rw [e2, gH_sQ, gH_sI, gH_sI, gH_sI, gH_sN, if_neg (by omega)]; exact h1
  rw [← e2, z62_A (m := 6) hN (by omega) h2 rfl (by decide) rfl, n2]
  obtain ⟨T3, e3⟩ : ∃ T, T = sQ (sN T2 (.inr (0, 6)) 6) s 2 (some (s + 3)) := ⟨_, rfl⟩
  have n3 : gN T3 = s + 4 := by rw [e3, gN_sQ, gN_sN, n2]
  have h3 : gH T3 s = some (.inl 7) := by rw [e3, gH_sQ, gH_sN, if_neg (by omega)]; exact h2
  rw [show ((2 : Nat) : Int) = 2 from rfl, ← e3, z62_A (m := 6) hN (by omega) h3 rfl (by decide) rfl, n3]
  obtain ⟨T4, e4⟩ : ∃ T, T = sQ (sN T3 (.inr (0, 6)) 6) s 3 (some (s + 4)) := ⟨_, rfl⟩
  have n4 : gN T4 = s + 5 := by rw [e4, gN_sQ, gN_sN, n3]
  have h4 : gH T4 s = some (.inl 7) := by rw [e4, gH_sQ, gH_sN, if_neg (by omega)]; exact h3
  rw [show ((3 : Nat) : Int) = 3 from rfl, ← e4, z62_Q (m := 6) (t := 3) (by decide) hN (by omega) h4 rfl (by decide) rfl, n4]
  obtain ⟨T5, e5⟩ : ∃ T, T = sQ (sN T4 (.inr (3, 6)) 6) s 4 (some (s + 5)) := ⟨_, rfl⟩
  have n5 : gN T5 = s + 6 := by rw [e5, gN_sQ, gN_sN, n4]
  have h5 : gH T5 s = some (.inl 7) := by rw [e5, gH_sQ, gH_sN, if_neg (by omega)]; exact h4
  rw [show ((4 : Nat) : Int) = 4 from rfl, ← e5, z62_Q (m := 6) (t := 4) (by decide) hN (by omega) h5 rfl (by decide) rfl, n5]
  rw [G_setI (S := sQ (sN T5 (.inr (4, 6)) 6) s ((5 : Nat) : Int) (some (s + 6))) (st_dyn hN (show gH (sN T5 (.inr (4, 6)) 6) s = _ by rw [gH_sN, if_neg (by omega)]; exact h5)) rfl]
  rfl
theorem newSt_I {S : zS} {b : Nat} {i : Int} (h : b < gN S) : gI (newSt S) b i = gI S b i := by
  have c : ∀ k, (b = gN S + k) = False := fun k => eq_false (by omega)
  have c0 : (b = gN S) = False := eq_false (by omega)
  unfold newSt
  simp only [gI_sI, gI_sQ, gI_sN, gN_sN, gN_sQ, gN_sI, Nat.add_assoc, Nat.reduceAdd, c, c0, false_and, if_false]
theorem newSt_Q {S : zS} {b : Nat} {i : Int} (h : b < gN S) : gQ (newSt S) b i = gQ S b i := by
  have c : ∀ k, (b = gN S + k) = False := fun k => eq_false (by omega)
  have c0 : (b = gN S) = False := eq_false (by omega)
  unfold newSt
  simp only [gQ_sI, gQ_sQ, gQ_sN, gN_sN, gN_sQ, gN_sI, Nat.add_assoc, Nat.reduceAdd, c, c0, false_and, if_false]
theorem newSt_H {S : zS} {b : Nat} (h : b < gN S ∨ gN S + 6 < b) : gH (newSt S) b = gH S b := by
  have c : ∀ k, k < 7 → (b = gN S + k) = False := fun k hk => eq_false (by omega)
  have c0 : (b = gN S) = False := eq_false (by omega)
  unfold newSt
  simp only [gH_sI, gH_sQ, gH_sN, gN_sN, gN_sQ, gN_sI, Nat.add_assoc, Nat.reduceAdd, c 1 (by decide), c 2 (by decide), c 3 (by decide), c 4 (by decide), c 5 (by decide), c 6 (by decide), c0, if_false]
theorem newSt_N {S : zS} : gN (newSt S) = gN S + 7 ∧ gW (newSt S) = gW S + 98 := ⟨rfl, by show gW S + 11 + 60 + 3 + 6 + 6 + 6 + 6 = gW S + 98; omega⟩
theorem newSt_J {S : zS} {b : Nat} {i : Int} : gJ (newSt S) b i = gJ S b i := rfl
theorem newSt_h {S : zS} (j : Nat) (hj : j < 7) : gH (newSt S) (gN S + j) = if j = 0 then some (.inl 7) else if j = 1 then some (.inr (0, 60)) else if j = 2 then some (.inr (0, 3)) else if j = 3 then some (.inr (0, 6)) else if j = 4 then some (.inr (0, 6)) else if j = 5 then some (.inr (3, 6)) else some (.inr (4, 6)) := by
  have c : ∀ k, (gN S + j = gN S + k) = (j = k) := fun k => propext ⟨fun h => by omega, fun h => by omega⟩
  have c0 : (gN S + j = gN S) = (j = 0) := propext ⟨fun h => by omega, fun h => by omega⟩
  unfold newSt
  simp only [gH_sI, gH_sQ, gH_sN, gN_sN, gN_sQ, gN_sI, Nat.add_assoc, Nat.reduceAdd, c, c0]
  rcases (show j = 0 ∨ j = 1 ∨ j = 2 ∨ j = 3 ∨ j = 4 ∨ j = 5 ∨ j = 6 by omega) with rfl | rfl | rfl | rfl | rfl | rfl | rfl <;> rfl
theorem newSt_q {S : zS} (j : Nat) (i : Int) : gQ (newSt S) (gN S + j) i = if j = 0 ∧ 0 ≤ i ∧ i < 6 then some (gN S + 1 + i.toNat) else if j < 7 then none else gQ S (gN S + j) i := by
  have c : ∀ k, (gN S + j = gN S + k) = (j = k) := fun k => propext ⟨fun h => by omega, fun h => by omega⟩
  have c0 : (gN S + j = gN S) = (j = 0) := propext ⟨fun h => by omega, fun h => by omega⟩
  unfold newSt
  simp only [gQ_sI, gQ_sQ, gQ_sN, gN_sN, gN_sQ, gN_sI, Nat.add_assoc, Nat.reduceAdd, c, c0]
  by_cases q : j = 0
  · subst q
    simp only [true_and, Nat.reduceEqDiff, if_false, if_true]
    by_cases q2 : 0 ≤ i ∧ i < 6
    · rw [if_pos q2]
      rcases (show i = 0 ∨ i = 1 ∨ i = 2 ∨ i = 3 ∨ i = 4 ∨ i = 5 by omega) with rfl | rfl | rfl | rfl | rfl | rfl <;> rfl
    · rw [if_neg q2, if_neg (by omega), if_neg (by omega), if_neg (by omega), if_neg (by omega), if_neg (by omega), if_neg (by omega)]
      rfl
  · simp only [q, false_and, if_false]
    by_cases q2 : j < 7
    · rw [if_pos q2]
      rcases (show j = 1 ∨ j = 2 ∨ j = 3 ∨ j = 4 ∨ j = 5 ∨ j = 6 by omega) with rfl | rfl | rfl | rfl | rfl | rfl <;> rfl
    · rw [if_neg q2, if_neg (by omega), if_neg (by omega), if_neg (by omega), if_neg (by omega), if_neg (by omega), if_neg (by omega)]
theorem newSt_st {S : zS} (h : 114 ≤ gN S) : isSt (newSt S) (gN S) ∧ RefOK (newSt S) (gN S) := by
  refine ⟨Or.inr ⟨h, newSt_h 0 (by omega), fun j hj => ?_, newSt_h 1 (by omega), newSt_h 2 (by omega), newSt_h 3 (by omega), newSt_h 4 (by omega), newSt_h 5 (by omega), newSt_h 6 (by omega)⟩, ⟨fun k a q1 q2 q3 => ?_, fun k a q1 q2 q3 => ?_⟩⟩
  · have := newSt_q (S := S) 0 (j : Int)
    rw [Nat.add_zero, if_pos (by omega)] at this
    rw [this]; congr 1
  · rw [newSt_q 5 k, if_neg (by omega), if_pos (by omega)] at q3; cases q3
  · rw [newSt_q 6 k, if_neg (by omega), if_pos (by omega)] at q3; cases q3
