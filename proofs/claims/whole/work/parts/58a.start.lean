/-! THE START: both constructors -/
/-- a memory in which an object is being built: cells up to n, the object at b, older cells by g, what came after it on a pile -/
def zmm (n b : Nat) (g : Nat → Option va_E) (ci : Nat) (fs : List Value) (l : List va_E) (w : Nat) : zM := (n, w, fun a => if b < a then (if a < n then l[n - 1 - a]? else none) else if a = b then some (.inr (ci, fs)) else g a)
section
variable {ρ : Type} {X : zX} {d n b ci ci' : Nat} {g : Nat → Option va_E} {fs fs' : List Value} {l : List va_E} {w : Nat} {fail : ρ}
theorem zm_1 : (zmm n b g ci fs l w).1 = n := rfl
theorem zm_b : (zmm n b g ci fs l w).2.2 b = some (.inr (ci, fs)) := by
  show (if b < b then _ else if b = b then _ else _) = _
  rw [if_neg (by omega), if_pos rfl]
theorem zm_a {a : Nat} (h1 : b < a) (h2 : a < n) : (zmm n b g ci fs l w).2.2 a = l[n - 1 - a]? := by
  show (if b < a then (if a < n then _ else _) else _) = _
  rw [if_pos h1, if_pos h2]
theorem zm_new {e : va_E} (h : b < n) : z_new (zmm n b g ci fs l w) e = zmm (n + 1) b g ci fs (e :: l) (w + z_esz e) := by
  refine Prod.ext rfl (Prod.ext rfl (funext fun a => ?_))
  show (if a = n then some e else if b < a then (if a < n then l[n - 1 - a]? else none) else if a = b then some (.inr (ci, fs)) else g a) = if b < a then (if a < n + 1 then (e :: l)[n + 1 - 1 - a]? else none) else if a = b then some (.inr (ci, fs)) else g a
  by_cases q : a = n
  · subst q
    rw [if_pos rfl, if_pos h, if_pos (by omega), show a + 1 - 1 - a = 0 by omega]; rfl
  · rw [if_neg q]
    by_cases q2 : b < a
    · rw [if_pos q2, if_pos q2]
      by_cases q3 : a < n
      · rw [if_pos q3, if_pos (by omega), show n + 1 - 1 - a = (n - 1 - a) + 1 by omega, List.getElem?_cons_succ]
      · rw [if_neg q3, if_neg (by omega)]
    · rw [if_neg q2, if_neg q2]
theorem zm_arr {t m : Nat} {f : (Nat → Int32) ⊕ (Nat → Int64) ⊕ (Nat → UInt32) ⊕ (Nat → UInt64) ⊕ (Nat → Option Nat)} (h : b < n) : z_new (zmm n b g ci fs l w) (.inl (t, m, f)) = zmm (n + 1) b g ci fs (.inl (t, m, f) :: l) (w + m) := zm_new h
theorem zm_o {q : Nat × List Value} (h : b < n) : z_new (zmm n b g ci fs l w) (.inr q) = zmm (n + 1) b g ci fs (.inr q :: l) (w + q.2.length) := zm_new h
theorem zm_set {j : Nat} {v : Value} {k : zM → ρ} (h : j < fs.length) : z_fset fail (zmm n b g ci fs l w) b ci j v k = k (zmm n b g ci (fs.set j v) l w) := by
  unfold z_fset
  rw [zm_b]
  show (if ci = ci ∧ j < fs.length then _ else _) = _
  rw [if_pos ⟨rfl, h⟩]
  congr 1
  refine Prod.ext rfl (Prod.ext rfl (funext fun a => ?_))
  show (if a = b then some (.inr (ci, fs.set j v)) else if b < a then (if a < n then l[n - 1 - a]? else none) else if a = b then some (.inr (ci, fs)) else g a) = if b < a then (if a < n then l[n - 1 - a]? else none) else if a = b then some (.inr (ci, fs.set j v)) else g a
  by_cases q : a = b
  · subst q; rw [if_pos rfl, if_neg (by omega), if_pos rfl]
  · rw [if_neg q, if_neg q, if_neg q]
theorem zm_upd {a : Nat} {e e' : va_E} (h1 : b < a) (hn : n = a + 1) : z_upd (zmm n b g ci fs (e :: l) w) a e' = zmm n b g ci fs (e' :: l) w := by
  subst hn
  refine Prod.ext rfl (Prod.ext rfl (funext fun c => ?_))
  show (if c = a then some e' else if b < c then (if c < a + 1 then (e :: l)[a + 1 - 1 - c]? else none) else if c = b then some (.inr (ci, fs)) else g c) = if b < c then (if c < a + 1 then (e' :: l)[a + 1 - 1 - c]? else none) else if c = b then some (.inr (ci, fs)) else g c
  by_cases q : c = a
  · subst q; rw [if_pos rfl, if_pos h1, if_pos (by omega), show c + 1 - 1 - c = 0 by omega]; rfl
  · rw [if_neg q]
    by_cases q2 : b < c
    · rw [if_pos q2, if_pos q2]
      by_cases q3 : c < a + 1
      · rw [if_pos q3, if_pos q3, show a + 1 - 1 - c = (a - 1 - c) + 1 by omega, List.getElem?_cons_succ, List.getElem?_cons_succ]
      · rw [if_neg q3, if_neg q3]
    · rw [if_neg q2, if_neg q2]
theorem zm_top {a : Nat} {e : va_E} (h1 : b < a) (hn : n = a + 1) : (zmm n b g ci fs (e :: l) w).2.2 a = some e := by
  subst hn
  rw [zm_a h1 (by omega), show a + 1 - 1 - a = 0 by omega]; rfl
theorem zm_objt {a : Nat} {k : ρ} (h1 : b < a) (hn : n = a + 1) : z_obj fail (zmm n b g ci fs (.inr (ci', fs') :: l) w) (.ref a) ci' k = k := by
  unfold z_obj
  show (match (zmm n b g ci fs (.inr (ci', fs') :: l) w).2.2 a with
    | some (.inr (ci'', _)) => if ci'' = ci' then k else fail
    | _ => fail) = k
  rw [zm_top h1 hn]
  show (if ci' = ci' then k else fail) = k
  rw [if_pos rfl]
theorem zm_ast {a m : Nat} {f : Nat → Int32} {i x : Int32} {k : zM → ρ} (h1 : b < a) (hn : n = a + 1) (hi : 0 ≤ i ∧ i.toNatClampNeg < m) : z_ast fail (zmm n b g ci fs (.inl (0, m, .inl f) :: l) w) 0 a i x k = k (zmm n b g ci fs (.inl (0, m, .inl (upd f i.toNatClampNeg x)) :: l) w) := by
  unfold z_ast
  rw [zm_top h1 hn]
  show (if 0 = 0 ∧ z_in i m ∧ (0 = 2 → x = 0 ∨ x = 1) then k (z_upd _ a _) else fail) = _
  rw [if_pos ⟨rfl, hi, fun q => absurd q (by decide)⟩, zm_upd h1 hn]
theorem zm_jst {a m : Nat} {f : Nat → Int64} {i : Int32} {x : Int64} {k : zM → ρ} (h1 : b < a) (hn : n = a + 1) (hi : 0 ≤ i ∧ i.toNatClampNeg < m) : z_jst fail (zmm n b g ci fs (.inl (1, m, .inr (.inl f)) :: l) w) a i x k = k (zmm n b g ci fs (.inl (1, m, .inr (.inl (vp_updL f i.toNatClampNeg x))) :: l) w) := by
  unfold z_jst
  rw [zm_top h1 hn]
  show (if 1 = 1 ∧ z_in i m then k (z_upd _ a _) else fail) = _
  rw [if_pos ⟨rfl, hi⟩, zm_upd h1 hn]
theorem zm_nest {c : Nat} {w0 w' : Nat} {l' : List va_E} (h : b < c) (hn : n = c + 1 + l'.length) : zmm n c (zmm c b g ci fs l w0).2.2 ci' fs' l' w' = zmm n b g ci fs (l' ++ .inr (ci', fs') :: l) w' := by
  subst hn
  refine Prod.ext rfl (Prod.ext rfl (funext fun a => ?_))
  show (if c < a then (if a < c + 1 + l'.length then l'[c + 1 + l'.length - 1 - a]? else none) else if a = c then some (.inr (ci', fs')) else if b < a then (if a < c then l[c - 1 - a]? else none) else if a = b then some (.inr (ci, fs)) else g a) = if b < a then (if a < c + 1 + l'.length then (l' ++ .inr (ci', fs') :: l)[c + 1 + l'.length - 1 - a]? else none) else if a = b then some (.inr (ci, fs)) else g a
  by_cases q : c < a
  · rw [if_pos q, if_pos (show b < a by omega)]
    by_cases q2 : a < c + 1 + l'.length
    · rw [if_pos q2, if_pos q2, List.getElem?_append_left (by omega)]
    · rw [if_neg q2, if_neg q2]
  · rw [if_neg q]
    by_cases q2 : a = c
    · subst q2
      rw [if_pos rfl, if_pos h, if_pos (show a < a + 1 + l'.length by omega), List.getElem?_append_right (by omega), show a + 1 + l'.length - 1 - a - l'.length = 0 by omega]; rfl
    · rw [if_neg q2]
      by_cases q3 : b < a
      · rw [if_pos q3, if_pos q3, if_pos (show a < c by omega), if_pos (show a < c + 1 + l'.length by omega), List.getElem?_append_right (by omega), show c + 1 + l'.length - 1 - a - l'.length = (c - 1 - a) + 1 by omega, List.getElem?_cons_succ]
      · rw [if_neg q3, if_neg q3]
theorem zm_call {k mi c w0 w' : Nat} {as : List Value} {ds : List Value} {l' l2 : List va_E} {cm cp : Nat} {L : zL} {st : List Value} (hd : k < d) (h : ∀ (g : Nat → Option va_E) (w : Nat), z_ev X k (z_entry mi as (zmm (c + 1) c g ci' ds [] w)) = some (none, zmm n c g ci' fs' l' (w + w'))) (hb : b < c) (hn : n = c + 1 + l'.length) (hl : l' ++ .inr (ci', fs') :: l = l2) : z_evc X d mi as (cm, cp, L, st, zmm (c + 1) b g ci fs (.inr (ci', ds) :: l) w) = z_ev X d (cm, cp, L, st, zmm n b g ci fs l2 (w + w')) := by
  have e1 : zmm (c + 1) b g ci fs (.inr (ci', ds) :: l) w = zmm (c + 1) c (zmm c b g ci fs l w0).2.2 ci' ds [] w := (zm_nest (l' := []) hb rfl).symm
  have e2 : zmm n b g ci fs l2 (w + w') = zmm n c (zmm c b g ci fs l w0).2.2 ci' fs' l' (w + w') := by rw [zm_nest hb hn, hl]
  rw [e1, e2]
  exact z_evc_of (r := (none, zmm n c (zmm c b g ci fs l w0).2.2 ci' fs' l' (w + w'))) (ck := (cm, cp, L, st, zmm (c + 1) c (zmm c b g ci fs l w0).2.2 ci' ds [] w)) hd (h _ _)
end
theorem zkc_2 : (0 ≤ (2 : Int32) ∧ (2 : Int32) ≤ 100000) = True := by decide
theorem ztc_2 : (2 : Int32).toNatClampNeg = 2 := by decide
theorem zkc_3 : (0 ≤ (3 : Int32) ∧ (3 : Int32) ≤ 100000) = True := by decide
theorem ztc_3 : (3 : Int32).toNatClampNeg = 3 := by decide
theorem zkc_4 : (0 ≤ (4 : Int32) ∧ (4 : Int32) ≤ 100000) = True := by decide
theorem ztc_4 : (4 : Int32).toNatClampNeg = 4 := by decide
theorem zkc_6 : (0 ≤ (6 : Int32) ∧ (6 : Int32) ≤ 100000) = True := by decide
theorem ztc_6 : (6 : Int32).toNatClampNeg = 6 := by decide
theorem zkc_7 : (0 ≤ (7 : Int32) ∧ (7 : Int32) ≤ 100000) = True := by decide
theorem ztc_7 : (7 : Int32).toNatClampNeg = 7 := by decide
theorem zkc_8 : (0 ≤ (8 : Int32) ∧ (8 : Int32) ≤ 100000) = True := by decide
theorem ztc_8 : (8 : Int32).toNatClampNeg = 8 := by decide
theorem zkc_9 : (0 ≤ (9 : Int32) ∧ (9 : Int32) ≤ 100000) = True := by decide
theorem ztc_9 : (9 : Int32).toNatClampNeg = 9 := by decide
theorem zkc_13 : (0 ≤ (13 : Int32) ∧ (13 : Int32) ≤ 100000) = True := by decide
theorem ztc_13 : (13 : Int32).toNatClampNeg = 13 := by decide
theorem zkc_16 : (0 ≤ (16 : Int32) ∧ (16 : Int32) ≤ 100000) = True := by decide
theorem ztc_16 : (16 : Int32).toNatClampNeg = 16 := by decide
theorem zkc_20 : (0 ≤ (20 : Int32) ∧ (20 : Int32) ≤ 100000) = True := by decide
theorem ztc_20 : (20 : Int32).toNatClampNeg = 20 := by decide
theorem zkc_21 : (0 ≤ (21 : Int32) ∧ (21 : Int32) ≤ 100000) = True := by decide
theorem ztc_21 : (21 : Int32).toNatClampNeg = 21 := by decide
theorem zkc_30 : (0 ≤ (30 : Int32) ∧ (30 : Int32) ≤ 100000) = True := by decide
theorem ztc_30 : (30 : Int32).toNatClampNeg = 30 := by decide
theorem zkc_51 : (0 ≤ (51 : Int32) ∧ (51 : Int32) ≤ 100000) = True := by decide
theorem ztc_51 : (51 : Int32).toNatClampNeg = 51 := by decide
theorem zkc_60 : (0 ≤ (60 : Int32) ∧ (60 : Int32) ≤ 100000) = True := by decide
theorem ztc_60 : (60 : Int32).toNatClampNeg = 60 := by decide
theorem zkc_63 : (0 ≤ (63 : Int32) ∧ (63 : Int32) ≤ 100000) = True := by decide
theorem ztc_63 : (63 : Int32).toNatClampNeg = 63 := by decide
theorem zkc_96 : (0 ≤ (96 : Int32) ∧ (96 : Int32) ≤ 100000) = True := by decide
theorem ztc_96 : (96 : Int32).toNatClampNeg = 96 := by decide
theorem zkc_120 : (0 ≤ (120 : Int32) ∧ (120 : Int32) ≤ 100000) = True := by decide
theorem ztc_120 : (120 : Int32).toNatClampNeg = 120 := by decide
theorem zkc_201 : (0 ≤ (201 : Int32) ∧ (201 : Int32) ≤ 100000) = True := by decide
theorem ztc_201 : (201 : Int32).toNatClampNeg = 201 := by decide
theorem zkc_400 : (0 ≤ (400 : Int32) ∧ (400 : Int32) ≤ 100000) = True := by decide
theorem ztc_400 : (400 : Int32).toNatClampNeg = 400 := by decide
theorem zkc_401 : (0 ≤ (401 : Int32) ∧ (401 : Int32) ≤ 100000) = True := by decide
theorem ztc_401 : (401 : Int32).toNatClampNeg = 401 := by decide
theorem zkc_402 : (0 ≤ (402 : Int32) ∧ (402 : Int32) ≤ 100000) = True := by decide
theorem ztc_402 : (402 : Int32).toNatClampNeg = 402 := by decide
theorem zkc_436 : (0 ≤ (436 : Int32) ∧ (436 : Int32) ≤ 100000) = True := by decide
theorem ztc_436 : (436 : Int32).toNatClampNeg = 436 := by decide
theorem zkc_900 : (0 ≤ (900 : Int32) ∧ (900 : Int32) ≤ 100000) = True := by decide
theorem ztc_900 : (900 : Int32).toNatClampNeg = 900 := by decide
theorem zkc_1008 : (0 ≤ (1008 : Int32) ∧ (1008 : Int32) ≤ 100000) = True := by decide
theorem ztc_1008 : (1008 : Int32).toNatClampNeg = 1008 := by decide
theorem zkc_1134 : (0 ≤ (1134 : Int32) ∧ (1134 : Int32) ≤ 100000) = True := by decide
theorem ztc_1134 : (1134 : Int32).toNatClampNeg = 1134 := by decide
theorem zkc_4221 : (0 ≤ (4221 : Int32) ∧ (4221 : Int32) ≤ 100000) = True := by decide
theorem ztc_4221 : (4221 : Int32).toNatClampNeg = 4221 := by decide
theorem zkc_7892 : (0 ≤ (7892 : Int32) ∧ (7892 : Int32) ≤ 100000) = True := by decide
theorem ztc_7892 : (7892 : Int32).toNatClampNeg = 7892 := by decide
theorem zkc_15784 : (0 ≤ (15784 : Int32) ∧ (15784 : Int32) ≤ 100000) = True := by decide
theorem ztc_15784 : (15784 : Int32).toNatClampNeg = 15784 := by decide
theorem zkc_40401 : (0 ≤ (40401 : Int32) ∧ (40401 : Int32) ≤ 100000) = True := by decide
theorem ztc_40401 : (40401 : Int32).toNatClampNeg = 40401 := by decide
theorem zd_0 (w : Nat) : w + 0 = w := rfl
set_option maxRecDepth 20000 in
theorem k62_5 {X : zX} {d : Nat} (hd : 8 ≤ d) (g : Nat → Option va_E) (w : Nat) : z_ev X d (z_entry 62 [.ref 5] (zmm 6 5 g 7 (z_defs 7) [] w)) = some (none, zmm 12 5 g 7 [.ref 6, .ref 7, .ref 8, .ref 9, .ref 10, .ref 11, .int (0), .int (0), .int (0), .int (0), .int (-1)] [.inl (4, 6, .inr (.inr (.inr (.inr (fun _ => none))))), .inl (3, 6, .inr (.inr (.inr (.inr (fun _ => none))))), .inl (0, 6, .inl (fun _ => 0)), .inl (0, 6, .inl (fun _ => 0)), .inl (0, 3, .inl (upd (upd (upd (fun _ => 0) 0 0) 1 1) 2 0)), .inl (0, 60, .inl (fun _ => 0))] (w + 87)) := by
  show z_ev X d (62, 0, [some (.ref 5)], [], zmm 6 5 g 7 (z_defs 7) [] w) = _
  simp (disch := first | omega | decide) only [↓B62_0, ↓zm_1, ↓zm_arr, ↓zm_o, ↓zm_set, ↓zm_ast, ↓zm_jst, ↓zm_objt, ↓reduceIte, List.length_set, Nat.add_assoc, Nat.reduceAdd, Nat.reduceLT, zkc_2, ztc_2, zkc_3, ztc_3, zkc_4, ztc_4, zkc_6, ztc_6, zkc_7, ztc_7, zkc_8, ztc_8, zkc_9, ztc_9, zkc_13, ztc_13, zkc_16, ztc_16, zkc_20, ztc_20, zkc_21, ztc_21, zkc_30, ztc_30, zkc_51, ztc_51, zkc_60, ztc_60, zkc_63, ztc_63, zkc_96, ztc_96, zkc_120, ztc_120, zkc_201, ztc_201, zkc_400, ztc_400, zkc_401, ztc_401, zkc_402, ztc_402, zkc_436, ztc_436, zkc_900, ztc_900, zkc_1008, ztc_1008, zkc_1134, ztc_1134, zkc_4221, ztc_4221, zkc_7892, ztc_7892, zkc_15784, ztc_15784, zkc_40401, ztc_40401]
  rfl
set_option maxRecDepth 20000 in
theorem k62_12 {X : zX} {d : Nat} (hd : 8 ≤ d) (g : Nat → Option va_E) (w : Nat) : z_ev X d (z_entry 62 [.ref 12] (zmm 13 12 g 7 (z_defs 7) [] w)) = some (none, zmm 19 12 g 7 [.ref 13, .ref 14, .ref 15, .ref 16, .ref 17, .ref 18, .int (0), .int (0), .int (0), .int (0), .int (-1)] [.inl (4, 6, .inr (.inr (.inr (.inr (fun _ => none))))), .inl (3, 6, .inr (.inr (.inr (.inr (fun _ => none))))), .inl (0, 6, .inl (fun _ => 0)), .inl (0, 6, .inl (fun _ => 0)), .inl (0, 3, .inl (upd (upd (upd (fun _ => 0) 0 0) 1 1) 2 0)), .inl (0, 60, .inl (fun _ => 0))] (w + 87)) := by
  show z_ev X d (62, 0, [some (.ref 12)], [], zmm 13 12 g 7 (z_defs 7) [] w) = _
  simp (disch := first | omega | decide) only [↓B62_0, ↓zm_1, ↓zm_arr, ↓zm_o, ↓zm_set, ↓zm_ast, ↓zm_jst, ↓zm_objt, ↓reduceIte, List.length_set, Nat.add_assoc, Nat.reduceAdd, Nat.reduceLT, zkc_2, ztc_2, zkc_3, ztc_3, zkc_4, ztc_4, zkc_6, ztc_6, zkc_7, ztc_7, zkc_8, ztc_8, zkc_9, ztc_9, zkc_13, ztc_13, zkc_16, ztc_16, zkc_20, ztc_20, zkc_21, ztc_21, zkc_30, ztc_30, zkc_51, ztc_51, zkc_60, ztc_60, zkc_63, ztc_63, zkc_96, ztc_96, zkc_120, ztc_120, zkc_201, ztc_201, zkc_400, ztc_400, zkc_401, ztc_401, zkc_402, ztc_402, zkc_436, ztc_436, zkc_900, ztc_900, zkc_1008, ztc_1008, zkc_1134, ztc_1134, zkc_4221, ztc_4221, zkc_7892, ztc_7892, zkc_15784, ztc_15784, zkc_40401, ztc_40401]
  rfl
set_option maxRecDepth 20000 in
theorem k62_19 {X : zX} {d : Nat} (hd : 8 ≤ d) (g : Nat → Option va_E) (w : Nat) : z_ev X d (z_entry 62 [.ref 19] (zmm 20 19 g 7 (z_defs 7) [] w)) = some (none, zmm 26 19 g 7 [.ref 20, .ref 21, .ref 22, .ref 23, .ref 24, .ref 25, .int (0), .int (0), .int (0), .int (0), .int (-1)] [.inl (4, 6, .inr (.inr (.inr (.inr (fun _ => none))))), .inl (3, 6, .inr (.inr (.inr (.inr (fun _ => none))))), .inl (0, 6, .inl (fun _ => 0)), .inl (0, 6, .inl (fun _ => 0)), .inl (0, 3, .inl (upd (upd (upd (fun _ => 0) 0 0) 1 1) 2 0)), .inl (0, 60, .inl (fun _ => 0))] (w + 87)) := by
  show z_ev X d (62, 0, [some (.ref 19)], [], zmm 20 19 g 7 (z_defs 7) [] w) = _
  simp (disch := first | omega | decide) only [↓B62_0, ↓zm_1, ↓zm_arr, ↓zm_o, ↓zm_set, ↓zm_ast, ↓zm_jst, ↓zm_objt, ↓reduceIte, List.length_set, Nat.add_assoc, Nat.reduceAdd, Nat.reduceLT, zkc_2, ztc_2, zkc_3, ztc_3, zkc_4, ztc_4, zkc_6, ztc_6, zkc_7, ztc_7, zkc_8, ztc_8, zkc_9, ztc_9, zkc_13, ztc_13, zkc_16, ztc_16, zkc_20, ztc_20, zkc_21, ztc_21, zkc_30, ztc_30, zkc_51, ztc_51, zkc_60, ztc_60, zkc_63, ztc_63, zkc_96, ztc_96, zkc_120, ztc_120, zkc_201, ztc_201, zkc_400, ztc_400, zkc_401, ztc_401, zkc_402, ztc_402, zkc_436, ztc_436, zkc_900, ztc_900, zkc_1008, ztc_1008, zkc_1134, ztc_1134, zkc_4221, ztc_4221, zkc_7892, ztc_7892, zkc_15784, ztc_15784, zkc_40401, ztc_40401]
  rfl
set_option maxRecDepth 20000 in
theorem k19_27 {X : zX} {d : Nat} (hd : 8 ≤ d) (g : Nat → Option va_E) (w : Nat) : z_ev X d (z_entry 19 [.ref 27] (zmm 28 27 g 2 (z_defs 2) [] w)) = some (none, zmm 31 27 g 2 [.ref 28, .ref 29, .ref 30, .int (0)] [.inl (0, 16, .inl (fun _ => 0)), .inl (0, 16, .inl (fun _ => 0)), .inl (0, 16, .inl (fun _ => 0))] (w + 48)) := by
  show z_ev X d (19, 0, [some (.ref 27)], [], zmm 28 27 g 2 (z_defs 2) [] w) = _
  simp (disch := first | omega | decide) only [↓B19_0, ↓zm_1, ↓zm_arr, ↓zm_o, ↓zm_set, ↓zm_ast, ↓zm_jst, ↓zm_objt, ↓reduceIte, List.length_set, Nat.add_assoc, Nat.reduceAdd, Nat.reduceLT, zkc_2, ztc_2, zkc_3, ztc_3, zkc_4, ztc_4, zkc_6, ztc_6, zkc_7, ztc_7, zkc_8, ztc_8, zkc_9, ztc_9, zkc_13, ztc_13, zkc_16, ztc_16, zkc_20, ztc_20, zkc_21, ztc_21, zkc_30, ztc_30, zkc_51, ztc_51, zkc_60, ztc_60, zkc_63, ztc_63, zkc_96, ztc_96, zkc_120, ztc_120, zkc_201, ztc_201, zkc_400, ztc_400, zkc_401, ztc_401, zkc_402, ztc_402, zkc_436, ztc_436, zkc_900, ztc_900, zkc_1008, ztc_1008, zkc_1134, ztc_1134, zkc_4221, ztc_4221, zkc_7892, ztc_7892, zkc_15784, ztc_15784, zkc_40401, ztc_40401]
  rfl
set_option maxRecDepth 20000 in
theorem k19_31 {X : zX} {d : Nat} (hd : 8 ≤ d) (g : Nat → Option va_E) (w : Nat) : z_ev X d (z_entry 19 [.ref 31] (zmm 32 31 g 2 (z_defs 2) [] w)) = some (none, zmm 35 31 g 2 [.ref 32, .ref 33, .ref 34, .int (0)] [.inl (0, 16, .inl (fun _ => 0)), .inl (0, 16, .inl (fun _ => 0)), .inl (0, 16, .inl (fun _ => 0))] (w + 48)) := by
  show z_ev X d (19, 0, [some (.ref 31)], [], zmm 32 31 g 2 (z_defs 2) [] w) = _
  simp (disch := first | omega | decide) only [↓B19_0, ↓zm_1, ↓zm_arr, ↓zm_o, ↓zm_set, ↓zm_ast, ↓zm_jst, ↓zm_objt, ↓reduceIte, List.length_set, Nat.add_assoc, Nat.reduceAdd, Nat.reduceLT, zkc_2, ztc_2, zkc_3, ztc_3, zkc_4, ztc_4, zkc_6, ztc_6, zkc_7, ztc_7, zkc_8, ztc_8, zkc_9, ztc_9, zkc_13, ztc_13, zkc_16, ztc_16, zkc_20, ztc_20, zkc_21, ztc_21, zkc_30, ztc_30, zkc_51, ztc_51, zkc_60, ztc_60, zkc_63, ztc_63, zkc_96, ztc_96, zkc_120, ztc_120, zkc_201, ztc_201, zkc_400, ztc_400, zkc_401, ztc_401, zkc_402, ztc_402, zkc_436, ztc_436, zkc_900, ztc_900, zkc_1008, ztc_1008, zkc_1134, ztc_1134, zkc_4221, ztc_4221, zkc_7892, ztc_7892, zkc_15784, ztc_15784, zkc_40401, ztc_40401]
  rfl
set_option maxRecDepth 20000 in
theorem k79_35 {X : zX} {d : Nat} (hd : 8 ≤ d) (g : Nat → Option va_E) (w : Nat) : z_ev X d (z_entry 79 [.ref 35] (zmm 36 35 g 8 (z_defs 8) [] w)) = some (none, zmm 37 35 g 8 [.ref 36, .int (0)] [.inl (0, 400, .inl (fun _ => 0))] (w + 400)) := by
  show z_ev X d (79, 0, [some (.ref 35)], [], zmm 36 35 g 8 (z_defs 8) [] w) = _
  simp (disch := first | omega | decide) only [↓B79_0, ↓zm_1, ↓zm_arr, ↓zm_o, ↓zm_set, ↓zm_ast, ↓zm_jst, ↓zm_objt, ↓reduceIte, List.length_set, Nat.add_assoc, Nat.reduceAdd, Nat.reduceLT, zkc_2, ztc_2, zkc_3, ztc_3, zkc_4, ztc_4, zkc_6, ztc_6, zkc_7, ztc_7, zkc_8, ztc_8, zkc_9, ztc_9, zkc_13, ztc_13, zkc_16, ztc_16, zkc_20, ztc_20, zkc_21, ztc_21, zkc_30, ztc_30, zkc_51, ztc_51, zkc_60, ztc_60, zkc_63, ztc_63, zkc_96, ztc_96, zkc_120, ztc_120, zkc_201, ztc_201, zkc_400, ztc_400, zkc_401, ztc_401, zkc_402, ztc_402, zkc_436, ztc_436, zkc_900, ztc_900, zkc_1008, ztc_1008, zkc_1134, ztc_1134, zkc_4221, ztc_4221, zkc_7892, ztc_7892, zkc_15784, ztc_15784, zkc_40401, ztc_40401]
  rfl
set_option maxRecDepth 20000 in
theorem k83_37 {X : zX} {d : Nat} (hd : 8 ≤ d) (g : Nat → Option va_E) (w : Nat) : z_ev X d (z_entry 83 [.ref 37] (zmm 38 37 g 9 (z_defs 9) [] w)) = some (none, zmm 41 37 g 9 [.ref 38, .ref 39, .ref 40, .int (0), .int (0), .int (-1)] [.inl (0, 401, .inl (fun _ => 0)), .inl (0, 401, .inl (fun _ => 0)), .inl (0, 401, .inl (fun _ => 0))] (w + 1203)) := by
  show z_ev X d (83, 0, [some (.ref 37)], [], zmm 38 37 g 9 (z_defs 9) [] w) = _
  simp (disch := first | omega | decide) only [↓B83_0, ↓zm_1, ↓zm_arr, ↓zm_o, ↓zm_set, ↓zm_ast, ↓zm_jst, ↓zm_objt, ↓reduceIte, List.length_set, Nat.add_assoc, Nat.reduceAdd, Nat.reduceLT, zkc_2, ztc_2, zkc_3, ztc_3, zkc_4, ztc_4, zkc_6, ztc_6, zkc_7, ztc_7, zkc_8, ztc_8, zkc_9, ztc_9, zkc_13, ztc_13, zkc_16, ztc_16, zkc_20, ztc_20, zkc_21, ztc_21, zkc_30, ztc_30, zkc_51, ztc_51, zkc_60, ztc_60, zkc_63, ztc_63, zkc_96, ztc_96, zkc_120, ztc_120, zkc_201, ztc_201, zkc_400, ztc_400, zkc_401, ztc_401, zkc_402, ztc_402, zkc_436, ztc_436, zkc_900, ztc_900, zkc_1008, ztc_1008, zkc_1134, ztc_1134, zkc_4221, ztc_4221, zkc_7892, ztc_7892, zkc_15784, ztc_15784, zkc_40401, ztc_40401]
  rfl
set_option maxRecDepth 20000 in
theorem k28_41 {X : zX} {d : Nat} (hd : 8 ≤ d) (g : Nat → Option va_E) (w : Nat) : z_ev X d (z_entry 28 [.ref 41] (zmm 42 41 g 4 (z_defs 4) [] w)) = some (none, zmm 52 41 g 4 [.ref 42, .ref 43, .ref 44, .ref 45, .ref 46, .ref 47, .ref 48, .ref 49, .ref 50, .ref 51, .int (0)] [.inl (0, 400, .inl (fun _ => 0)), .inl (0, 400, .inl (fun _ => 0)), .inl (0, 400, .inl (fun _ => 0)), .inl (0, 400, .inl (fun _ => 0)), .inl (0, 400, .inl (fun _ => 0)), .inl (0, 402, .inl (fun _ => 0)), .inl (0, 402, .inl (fun _ => 0)), .inl (0, 402, .inl (fun _ => 0)), .inl (0, 402, .inl (fun _ => 0)), .inl (0, 402, .inl (fun _ => 0))] (w + 4010)) := by
  show z_ev X d (28, 0, [some (.ref 41)], [], zmm 42 41 g 4 (z_defs 4) [] w) = _
  simp (disch := first | omega | decide) only [↓B28_0, ↓zm_1, ↓zm_arr, ↓zm_o, ↓zm_set, ↓zm_ast, ↓zm_jst, ↓zm_objt, ↓reduceIte, List.length_set, Nat.add_assoc, Nat.reduceAdd, Nat.reduceLT, zkc_2, ztc_2, zkc_3, ztc_3, zkc_4, ztc_4, zkc_6, ztc_6, zkc_7, ztc_7, zkc_8, ztc_8, zkc_9, ztc_9, zkc_13, ztc_13, zkc_16, ztc_16, zkc_20, ztc_20, zkc_21, ztc_21, zkc_30, ztc_30, zkc_51, ztc_51, zkc_60, ztc_60, zkc_63, ztc_63, zkc_96, ztc_96, zkc_120, ztc_120, zkc_201, ztc_201, zkc_400, ztc_400, zkc_401, ztc_401, zkc_402, ztc_402, zkc_436, ztc_436, zkc_900, ztc_900, zkc_1008, ztc_1008, zkc_1134, ztc_1134, zkc_4221, ztc_4221, zkc_7892, ztc_7892, zkc_15784, ztc_15784, zkc_40401, ztc_40401]
  rfl
set_option maxRecDepth 20000 in
theorem k40_56 {X : zX} {d : Nat} (hd : 8 ≤ d) (g : Nat → Option va_E) (w : Nat) : z_ev X d (z_entry 40 [.ref 56] (zmm 57 56 g 5 (z_defs 5) [] w)) = some (none, zmm 58 56 g 5 [.ref 57] [.inl (0, 51, .inl (fun _ => 0))] (w + 51)) := by
  show z_ev X d (40, 0, [some (.ref 56)], [], zmm 57 56 g 5 (z_defs 5) [] w) = _
  simp (disch := first | omega | decide) only [↓B40_0, ↓zm_1, ↓zm_arr, ↓zm_o, ↓zm_set, ↓zm_ast, ↓zm_jst, ↓zm_objt, ↓reduceIte, List.length_set, Nat.add_assoc, Nat.reduceAdd, Nat.reduceLT, zkc_2, ztc_2, zkc_3, ztc_3, zkc_4, ztc_4, zkc_6, ztc_6, zkc_7, ztc_7, zkc_8, ztc_8, zkc_9, ztc_9, zkc_13, ztc_13, zkc_16, ztc_16, zkc_20, ztc_20, zkc_21, ztc_21, zkc_30, ztc_30, zkc_51, ztc_51, zkc_60, ztc_60, zkc_63, ztc_63, zkc_96, ztc_96, zkc_120, ztc_120, zkc_201, ztc_201, zkc_400, ztc_400, zkc_401, ztc_401, zkc_402, ztc_402, zkc_436, ztc_436, zkc_900, ztc_900, zkc_1008, ztc_1008, zkc_1134, ztc_1134, zkc_4221, ztc_4221, zkc_7892, ztc_7892, zkc_15784, ztc_15784, zkc_40401, ztc_40401]
  rfl
set_option maxRecDepth 20000 in
theorem k40_59 {X : zX} {d : Nat} (hd : 8 ≤ d) (g : Nat → Option va_E) (w : Nat) : z_ev X d (z_entry 40 [.ref 59] (zmm 60 59 g 5 (z_defs 5) [] w)) = some (none, zmm 61 59 g 5 [.ref 60] [.inl (0, 51, .inl (fun _ => 0))] (w + 51)) := by
  show z_ev X d (40, 0, [some (.ref 59)], [], zmm 60 59 g 5 (z_defs 5) [] w) = _
  simp (disch := first | omega | decide) only [↓B40_0, ↓zm_1, ↓zm_arr, ↓zm_o, ↓zm_set, ↓zm_ast, ↓zm_jst, ↓zm_objt, ↓reduceIte, List.length_set, Nat.add_assoc, Nat.reduceAdd, Nat.reduceLT, zkc_2, ztc_2, zkc_3, ztc_3, zkc_4, ztc_4, zkc_6, ztc_6, zkc_7, ztc_7, zkc_8, ztc_8, zkc_9, ztc_9, zkc_13, ztc_13, zkc_16, ztc_16, zkc_20, ztc_20, zkc_21, ztc_21, zkc_30, ztc_30, zkc_51, ztc_51, zkc_60, ztc_60, zkc_63, ztc_63, zkc_96, ztc_96, zkc_120, ztc_120, zkc_201, ztc_201, zkc_400, ztc_400, zkc_401, ztc_401, zkc_402, ztc_402, zkc_436, ztc_436, zkc_900, ztc_900, zkc_1008, ztc_1008, zkc_1134, ztc_1134, zkc_4221, ztc_4221, zkc_7892, ztc_7892, zkc_15784, ztc_15784, zkc_40401, ztc_40401]
  rfl
