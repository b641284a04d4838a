/-! THE START: the reference, and the memory that both leave -/
theorem zm_fldA {ρ : Type} {fail : ρ} {n b ci w j r : Nat} {g : Nat → Option va_E} {fs : List Value} {l : List va_E} {k : Nat → ρ} (h : fs[j]? = some (.ref r)) : z_fldA fail (zmm n b g ci fs l w) b ci j k = k r := by
  unfold z_fldA z_fld
  rw [zm_b]
  show (if ci = ci then (match fs[j]? with
    | some v => z_isR fail v k
    | none => fail) else fail) = _
  rw [if_pos rfl, h]
  rfl
theorem zm_astin {ρ : Type} {fail : ρ} {n b ci w a m : Nat} {g : Nat → Option va_E} {fs : List Value} {l : List va_E} {f : Nat → Int32} {i x : Int32} {k : zM → ρ} (h1 : b < a) (h2 : a < n) (hl : l[n - 1 - a]? = some (.inl (0, m, .inl f))) (hi : 0 ≤ i ∧ i.toNatClampNeg < m) : z_ast fail (zmm n b g ci fs l w) 0 a i x k = k (zmm n b g ci fs (l.set (n - 1 - a) (.inl (0, m, .inl (upd f i.toNatClampNeg x)))) w) := by
  unfold z_ast
  rw [zm_a h1 h2, hl]
  show (if 0 = 0 ∧ z_in i m ∧ (0 = 2 → x = 0 ∨ x = 1) then k (z_upd _ a _) else fail) = _
  rw [if_pos ⟨rfl, hi, fun q => absurd q (by decide)⟩]
  congr 1
  have hlen : n - 1 - a < l.length := (List.getElem?_eq_some_iff.mp hl).1
  refine Prod.ext rfl (Prod.ext rfl (funext fun c => ?_))
  show (if c = a then some _ else if b < c then (if c < n then l[n - 1 - c]? else none) else if c = b then some (.inr (ci, fs)) else g c) = if b < c then (if c < n then (l.set (n - 1 - a) _)[n - 1 - c]? else none) else if c = b then some (.inr (ci, fs)) else g c
  by_cases q : c = a
  · subst q; rw [if_pos rfl, if_pos h1, if_pos h2, List.getElem?_set_self hlen]
  · rw [if_neg q]
    by_cases q2 : b < c
    · rw [if_pos q2, if_pos q2]
      by_cases q3 : c < n
      · rw [if_pos q3, if_pos q3, List.getElem?_set_ne (by omega)]
      · rw [if_neg q3, if_neg q3]
    · rw [if_neg q2, if_neg q2]
set_option maxHeartbeats 4000000 in
set_option maxRecDepth 50000 in
theorem k149_72 {X : zX} {d : Nat} (g : Nat → Option va_E) (w : Nat) : z_ev X d (z_entry 149 [.ref 72] (zmm 73 72 g 11 (z_defs 11) [] w)) = some (none, zmm 114 72 g 11 [.int (0), .int (0), .ref 73, .ref 74, .ref 75, .ref 76, .ref 77, .ref 78, .int (0), .ref 79, .ref 80, .int (0), .ref 81, .int (0), .int (0), .int (0), .int (0), .long (0), .int (-1), .int (0), .int (0), .int (0), .ref 82, .int (0), .ref 83, .ref 84, .int (0), .ref 85, .ref 86, .int (0), .int (0), .ref 87, .ref 88, .ref 89, .int (0), .ref 90, .ref 91, .ref 92, .int (0), .long (0), .int (0), .long (0), .ref 93, .ref 94, .int (0), .ref 95, .ref 96, .int (0), .ref 97, .ref 98, .ref 99, .int (0), .ref 100, .ref 101, .ref 102, .ref 103, .ref 104, .ref 105, .ref 106, .ref 107, .ref 108, .ref 109, .ref 110, .ref 111, .ref 112, .int (0), .int (0), .int (-1), .int (0), .long (0), .ref 113, .int (-1)] [.inl (0, 63, .inl (fun _ => 0)), .inl (0, 96, .inl (fun _ => 0)), .inl (1, 4, .inr (.inl (vp_updL (vp_updL (vp_updL (vp_updL (fun _ => 0) 0 24290536) 1 5572) 2 431284) 3 525939))), .inl (1, 21, .inr (.inl (fun _ => 0))), .inl (0, 120, .inl (fun _ => 0)), .inl (2, 4221, .inl (fun _ => 0)), .inl (0, 20, .inl (fun _ => 0)), .inl (2, 201, .inl (fun _ => 0)), .inl (2, 201, .inl (fun _ => 0)), .inl (0, 4221, .inl (fun _ => 0)), .inl (0, 60, .inl (fun _ => 0)), .inl (2, 201, .inl (fun _ => 0)), .inl (2, 201, .inl (fun _ => 0)), .inl (2, 40401, .inl (fun _ => 0)), .inl (0, 201, .inl (fun _ => 0)), .inl (0, 400, .inl (fun _ => 0)), .inl (0, 900, .inl (fun _ => 0)), .inl (0, 9, .inl (fun _ => 0)), .inl (0, 9, .inl (fun _ => 0)), .inl (0, 900, .inl (fun _ => 0)), .inl (1, 4, .inr (.inl (vp_updL (vp_updL (vp_updL (vp_updL (fun _ => 0) 0 409031) 1 20201044) 2 1497) 3 3764))), .inl (1, 400, .inr (.inl (fun _ => 0))), .inl (1, 13, .inr (.inl (fun _ => 0))), .inl (1, 13, .inr (.inl (fun _ => 0))), .inl (1, 3, .inr (.inl (vp_updL (vp_updL (vp_updL (fun _ => 0) 0 3657363) 1 46546675) 2 67155))), .inl (1, 6, .inr (.inl (vp_updL (vp_updL (vp_updL (vp_updL (vp_updL (vp_updL (fun _ => 0) 0 4153) 1 146885) 2 404362868) 3 3659220) 4 777297172) 5 20022739))), .inl (1, 8, .inr (.inl (vp_updL (vp_updL (vp_updL (vp_updL (vp_updL (vp_updL (vp_updL (vp_updL (fun _ => 0) 0 17171557) 1 777297172) 2 51) 3 178323) 4 13801107) 5 3659220) 6 4153) 7 441828))), .inl (0, 400, .inl (fun _ => 0)), .inl (0, 400, .inl (fun _ => 0)), .inl (0, 400, .inl (fun _ => 0)), .inl (0, 400, .inl (fun _ => 0)), .inl (0, 96, .inl (fun _ => 0)), .inl (0, 400, .inl (fun _ => 0)), .inl (0, 16, .inl (fun _ => 0)), .inl (0, 1008, .inl (fun _ => 0)), .inl (0, 16, .inl (fun _ => 0)), .inl (0, 1134, .inl (fun _ => 0)), .inl (2, 2, .inl (fun _ => 0)), .inl (0, 15784, .inl (fun _ => 0)), .inl (0, 7892, .inl (upd (upd (fun _ => 0) 4 (-1)) 6 1)), .inl (0, 7, .inl (fun _ => 0))] (w + 80852)) := by
  show z_ev X d (149, 0, [some (.ref 72)], [], zmm 73 72 g 11 (z_defs 11) [] w) = _
  rw [B149_0]
  simp (maxSteps := 10000000) (disch := first | omega | decide) only [↓zm_1, ↓zm_arr, ↓zm_o, ↓zm_set, ↓zm_ast, ↓zm_jst, ↓zm_objt, ↓reduceIte, List.length_set, Nat.add_assoc, Nat.reduceAdd, Nat.reduceLT, zkc_2, ztc_2, zkc_3, ztc_3, zkc_4, ztc_4, zkc_6, ztc_6, zkc_7, ztc_7, zkc_8, ztc_8, zkc_9, ztc_9, zkc_13, ztc_13, zkc_16, ztc_16, zkc_20, ztc_20, zkc_21, ztc_21, zkc_30, ztc_30, zkc_51, ztc_51, zkc_60, ztc_60, zkc_63, ztc_63, zkc_96, ztc_96, zkc_120, ztc_120, zkc_201, ztc_201, zkc_400, ztc_400, zkc_401, ztc_401, zkc_402, ztc_402, zkc_436, ztc_436, zkc_900, ztc_900, zkc_1008, ztc_1008, zkc_1134, ztc_1134, zkc_4221, ztc_4221, zkc_7892, ztc_7892, zkc_15784, ztc_15784, zkc_40401, ztc_40401]
  rw [zm_fldA (r := 74) rfl, zm_astin (m := 7892) (by decide) (by decide) rfl (by decide), zm_fldA (r := 74) rfl, zm_astin (m := 7892) (by decide) (by decide) rfl (by decide)]
  rfl
