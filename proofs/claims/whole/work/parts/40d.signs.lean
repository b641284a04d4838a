/-! rows of signs: the language they tell, how many steps, the signs written out -/
abbrev T3 : Type := Lg × Nat × List Int
/-- k times more, joined -/
def fpow (f : List Int) : Nat → List Int
  | 0 => f
  | k + 1 => fpow f k ++ f ++ [4]
def often3 (x : T3) (k : Nat) : T3 := (lpow x.1 k, k * x.2.1, fpow x.2.2 (k - 1))
def cat3 (a b : T3) : T3 := (lcat a.1 b.1, a.2.1 + b.2.1, a.2.2 ++ b.2.2 ++ [4])
def or3 (a b : T3) : T3 := (lor a.1 b.1, a.2.1 + b.2.1, a.2.2 ++ b.2.2 ++ [5])
def dst3 (st : List T3) (op : Int) : List T3 := if op < 4 then (l1 op, 1, [op]) :: st else match st with
  | b :: a :: r => if op = 4 then cat3 a b :: r else if op = 5 then or3 a b :: r else often3 b (op - 6).toNat :: a :: r
  | [a] => if op < 6 then [a] else [often3 a (op - 6).toNat]
  | [] => []
/-- no sign lacks what it joins -/
def vld : List Int → Nat → Prop
  | [], _ => True
  | op :: r, h => if op < 4 then 0 ≤ op ∧ vld r (h + 1) else if op < 6 then 2 ≤ h ∧ vld r (h - 1) else 7 ≤ op ∧ op ≤ 15 ∧ 1 ≤ h ∧ vld r h
def Den3 (ops : List Int) (x : T3) : Prop := (∀ st, ops.foldl dst3 st = x :: st) ∧ ∀ h r, vld r (h + 1) → vld (ops ++ r) h
theorem Den3.ne {ops : List Int} {x : T3} (h : Den3 ops x) : ops ≠ [] := by
  rintro rfl
  have := h.1 []
  cases this
theorem Den3.step {s : Int} (h : 0 ≤ s ∧ s < 4) : Den3 [s] (l1 s, 1, [s]) := by
  refine ⟨fun st => ?_, fun k r hr => ?_⟩
  · show dst3 st s = _
    unfold dst3; rw [if_pos h.2]
  · show (if s < 4 then _ else _)
    rw [if_pos h.2]; exact ⟨h.1, hr⟩
theorem Den3.cat {a b : List Int} {x y : T3} (ha : Den3 a x) (hb : Den3 b y) : Den3 (a ++ b ++ [4]) (cat3 x y) := by
  refine ⟨fun st => ?_, fun k r hr => ?_⟩
  · rw [List.foldl_append, List.foldl_append, ha.1, hb.1]; rfl
  · rw [List.append_assoc, List.append_assoc]
    refine ha.2 _ _ (hb.2 _ _ ?_)
    show (if (4 : Int) < 4 then _ else if (4 : Int) < 6 then _ else _)
    rw [if_neg (by decide), if_pos (by decide)]
    exact ⟨by omega, hr⟩
theorem Den3.or {a b : List Int} {x y : T3} (ha : Den3 a x) (hb : Den3 b y) : Den3 (a ++ b ++ [5]) (or3 x y) := by
  refine ⟨fun st => ?_, fun k r hr => ?_⟩
  · rw [List.foldl_append, List.foldl_append, ha.1, hb.1]; rfl
  · rw [List.append_assoc, List.append_assoc]
    refine ha.2 _ _ (hb.2 _ _ ?_)
    show (if (5 : Int) < 4 then _ else if (5 : Int) < 6 then _ else _)
    rw [if_neg (by decide), if_pos (by decide)]
    exact ⟨by omega, hr⟩
theorem Den3.often {a : List Int} {x : T3} (ha : Den3 a x) {k : Int} (hk : 1 ≤ k ∧ k ≤ 9) : Den3 (a ++ [6 + k]) (often3 x k.toNat) := by
  refine ⟨fun st => ?_, fun h r hr => ?_⟩
  · rw [List.foldl_append, ha.1]
    show dst3 (x :: st) (6 + k) = _
    unfold dst3
    rw [if_neg (by omega)]
    cases st with
    | nil => simp only []; rw [if_neg (by omega), show 6 + k - 6 = k by omega]
    | cons B r => simp only []; rw [if_neg (by omega), if_neg (by omega), show 6 + k - 6 = k by omega]
  · rw [List.append_assoc]
    refine ha.2 _ _ ?_
    show (if 6 + k < 4 then _ else if 6 + k < 6 then _ else _)
    rw [if_neg (by omega), if_neg (by omega)]
    exact ⟨by omega, by omega, by omega, hr⟩
/-- steps among signs -/
def nst (l : List Int) : Nat := (l.filter (fun x => decide (x < 4))).length
theorem nst_app (a b : List Int) : nst (a ++ b) = nst a + nst b := by unfold nst; rw [List.filter_append, List.length_append]
def OK3 (x : T3) : Prop := Den3 x.2.2 x ∧ 1 ≤ x.2.1 ∧ x.2.2.length + 1 = 2 * x.2.1 ∧ (∀ y ∈ x.2.2, 0 ≤ y ∧ y ≤ 5) ∧ nst x.2.2 = x.2.1
theorem OK3.step {s : Int} (h : 0 ≤ s ∧ s ≤ 3) : OK3 (l1 s, 1, [s]) := by
  refine ⟨Den3.step (by omega), Nat.le_refl 1, rfl, fun y hy => ?_, ?_⟩
  · simp only [List.mem_cons, List.not_mem_nil, or_false] at hy; omega
  · show ([s].filter (fun x => decide (x < 4))).length = 1
    rw [List.filter_cons, if_pos (by simp only [decide_eq_true_eq]; omega)]; rfl
theorem nst_4 : nst [4] = 0 := rfl
theorem nst_5 : nst [5] = 0 := rfl
theorem OK3.cat {x y : T3} (hx : OK3 x) (hy : OK3 y) : OK3 (cat3 x y) := by
  obtain ⟨a1, a2, a3, a4, a5⟩ := hx
  obtain ⟨b1, b2, b3, b4, b5⟩ := hy
  refine ⟨Den3.cat a1 b1, by show 1 ≤ x.2.1 + y.2.1; omega, ?_, ?_, ?_⟩
  · show (x.2.2 ++ y.2.2 ++ [4]).length + 1 = 2 * (x.2.1 + y.2.1)
    simp only [List.length_append, List.length_cons, List.length_nil]; omega
  · intro z hz
    have hz' : z ∈ x.2.2 ++ y.2.2 ++ [4] := hz
    simp only [List.mem_append, List.mem_cons, List.not_mem_nil, or_false] at hz'
    rcases hz' with (h | h) | h
    · exact a4 z h
    · exact b4 z h
    · omega
  · show nst (x.2.2 ++ y.2.2 ++ [4]) = x.2.1 + y.2.1
    rw [nst_app, nst_app, nst_4, a5, b5]; omega
theorem OK3.or {x y : T3} (hx : OK3 x) (hy : OK3 y) : OK3 (or3 x y) := by
  obtain ⟨a1, a2, a3, a4, a5⟩ := hx
  obtain ⟨b1, b2, b3, b4, b5⟩ := hy
  refine ⟨Den3.or a1 b1, by show 1 ≤ x.2.1 + y.2.1; omega, ?_, ?_, ?_⟩
  · show (x.2.2 ++ y.2.2 ++ [5]).length + 1 = 2 * (x.2.1 + y.2.1)
    simp only [List.length_append, List.length_cons, List.length_nil]; omega
  · intro z hz
    have hz' : z ∈ x.2.2 ++ y.2.2 ++ [5] := hz
    simp only [List.mem_append, List.mem_cons, List.not_mem_nil, or_false] at hz'
    rcases hz' with (h | h) | h
    · exact a4 z h
    · exact b4 z h
    · omega
  · show nst (x.2.2 ++ y.2.2 ++ [5]) = x.2.1 + y.2.1
    rw [nst_app, nst_app, nst_5, a5, b5]; omega
theorem OK3.often {x : T3} (hx : OK3 x) : ∀ k : Nat, OK3 (often3 x (k + 1)) := by
  intro k
  induction k with
  | zero =>
    have e : often3 x (0 + 1) = x := by
      unfold often3
      rw [Nat.zero_add, lpow_1, Nat.one_mul]
      rfl
    rw [e]; exact hx
  | succ k ih =>
    have e : often3 x (k + 1 + 1) = cat3 (often3 x (k + 1)) x := by
      unfold often3 cat3
      simp only [Nat.add_sub_cancel]
      refine Prod.ext rfl (Prod.ext ?_ rfl)
      show (k + 1 + 1) * x.2.1 = (k + 1) * x.2.1 + x.2.1
      rw [Nat.succ_mul (k + 1)]
    rw [e]; exact ih.cat hx
/-! graphs: a node's language -/
def lcnt (w : List Int) : Int := (w.filter (fun x => decide (x ≠ 3))).length
theorem lcnt_nil : lcnt [] = 0 := rfl
theorem lcnt_cons (x : Int) (w : List Int) : lcnt (x :: w) = (if x = 3 then 0 else 1) + lcnt w := by
  unfold lcnt
  rw [List.filter_cons]
  by_cases q : x = 3
  · simp [q]
  · rw [if_pos (by simp only [decide_eq_true_eq]; exact q), if_neg q, List.length_cons]; omega
theorem lcnt_app (u v : List Int) : lcnt (u ++ v) = lcnt u + lcnt v := by
  unfold lcnt
  rw [List.filter_append, List.length_append]; omega
def LMin (A : Lg) (v : Int) : Prop := (∃ w, A w ∧ lcnt w = v) ∧ ∀ w, A w → v ≤ lcnt w
def LMax (A : Lg) (v : Int) : Prop := (∃ w, A w ∧ lcnt w = v) ∧ ∀ w, A w → lcnt w ≤ v
theorem LMin.uniq {A : Lg} {u v : Int} (h1 : LMin A u) (h2 : LMin A v) : u = v := by
  obtain ⟨⟨w, a1, a2⟩, a3⟩ := h1
  obtain ⟨⟨w', b1, b2⟩, b3⟩ := h2
  have := a3 w' b1
  have := b3 w a1
  omega
theorem LMax.uniq {A : Lg} {u v : Int} (h1 : LMax A u) (h2 : LMax A v) : u = v := by
  obtain ⟨⟨w, a1, a2⟩, a3⟩ := h1
  obtain ⟨⟨w', b1, b2⟩, b3⟩ := h2
  have := a3 w' b1
  have := b3 w a1
  omega
theorem LMin.nil : LMin lnil 0 := ⟨⟨[], rfl, rfl⟩, fun w h => by have : w = [] := h; subst this; exact Int.le_refl _⟩
theorem LMax.nil : LMax lnil 0 := ⟨⟨[], rfl, rfl⟩, fun w h => by have : w = [] := h; subst this; exact Int.le_refl _⟩
theorem LMin.cat {A B : Lg} {u v : Int} (h1 : LMin A u) (h2 : LMin B v) : LMin (lcat A B) (u + v) := by
  obtain ⟨⟨w, a1, a2⟩, a3⟩ := h1
  obtain ⟨⟨w', b1, b2⟩, b3⟩ := h2
  refine ⟨⟨w ++ w', ⟨w, w', rfl, a1, b1⟩, by rw [lcnt_app, a2, b2]⟩, ?_⟩
  rintro z ⟨p, q, rfl, h3, h4⟩
  have := a3 p h3
  have := b3 q h4
  rw [lcnt_app]; omega
theorem LMax.cat {A B : Lg} {u v : Int} (h1 : LMax A u) (h2 : LMax B v) : LMax (lcat A B) (u + v) := by
  obtain ⟨⟨w, a1, a2⟩, a3⟩ := h1
  obtain ⟨⟨w', b1, b2⟩, b3⟩ := h2
  refine ⟨⟨w ++ w', ⟨w, w', rfl, a1, b1⟩, by rw [lcnt_app, a2, b2]⟩, ?_⟩
  rintro z ⟨p, q, rfl, h3, h4⟩
  have := a3 p h3
  have := b3 q h4
  rw [lcnt_app]; omega
theorem LMin.or {A B : Lg} {u v : Int} (h1 : LMin A u) (h2 : LMin B v) : LMin (lor A B) (min u v) := by
  obtain ⟨⟨w, a1, a2⟩, a3⟩ := h1
  obtain ⟨⟨w', b1, b2⟩, b3⟩ := h2
  refine ⟨?_, ?_⟩
  · by_cases q : u ≤ v
    · exact ⟨w, Or.inl a1, by omega⟩
    · exact ⟨w', Or.inr b1, by omega⟩
  · rintro z (h | h)
    · have := a3 z h; omega
    · have := b3 z h; omega
theorem LMax.or {A B : Lg} {u v : Int} (h1 : LMax A u) (h2 : LMax B v) : LMax (lor A B) (max u v) := by
  obtain ⟨⟨w, a1, a2⟩, a3⟩ := h1
  obtain ⟨⟨w', b1, b2⟩, b3⟩ := h2
  refine ⟨?_, ?_⟩
  · by_cases q : u ≤ v
    · exact ⟨w', Or.inr b1, by omega⟩
    · exact ⟨w, Or.inl a1, by omega⟩
  · rintro z (h | h)
    · have := a3 z h; omega
    · have := b3 z h; omega
def rd1 (x : Int) : Int := if x = 3 then 0 else 1
theorem LMin.one (x : Int) : LMin (l1 x) (rd1 x) := ⟨⟨[x], rfl, by rw [lcnt_cons, lcnt_nil, Int.add_zero]; rfl⟩, fun w h => by have : w = [x] := h; subst this; rw [lcnt_cons, lcnt_nil, Int.add_zero]; exact Int.le_refl _⟩
theorem LMax.one (x : Int) : LMax (l1 x) (rd1 x) := ⟨⟨[x], rfl, by rw [lcnt_cons, lcnt_nil, Int.add_zero]; rfl⟩, fun w h => by have : w = [x] := h; subst this; rw [lcnt_cons, lcnt_nil, Int.add_zero]; exact Int.le_refl _⟩
/-- node j of a graph: 0 is the end, a step leads to a lower one, a fork to two -/
def GN (k nx ot : Int → Int) (F : Nat → Lg) (j : Nat) : Prop := (j = 0 ∧ k j = 0 ∧ F j = lnil) ∨ (∃ x : Int, 0 ≤ x ∧ x ≤ 3 ∧ k j = x + 1 ∧ ∃ q : Nat, q < j ∧ nx j = q ∧ F j = lcat (l1 x) (F q)) ∨ (k j = 5 ∧ ∃ q r : Nat, q < j ∧ r < j ∧ nx j = q ∧ ot j = r ∧ F j = lor (F q) (F r))
def Gr (k nx ot : Int → Int) (m : Nat) (F : Nat → Lg) : Prop := ∀ j, j < m → GN k nx ot F j
theorem Gr.fr {k nx ot k' nx' ot' : Int → Int} {m : Nat} {F F' : Nat → Lg} (h : Gr k nx ot m F) (hk : ∀ j : Nat, j < m → k' j = k j) (hn : ∀ j : Nat, j < m → nx' j = nx j) (ho : ∀ j : Nat, j < m → ot' j = ot j) (hF : ∀ j, j < m → F' j = F j) : Gr k' nx' ot' m F' := by
  intro j hj
  unfold GN
  rw [hk j hj, hn j hj, ho j hj, hF j hj]
  rcases h j hj with h1 | ⟨x, h1, h2, h3, q, h4, h5, h6⟩ | ⟨h1, q, r, h2, h3, h4, h5, h6⟩
  · exact Or.inl h1
  · exact Or.inr (Or.inl ⟨x, h1, h2, h3, q, h4, h5, by rw [hF q (by omega)]; exact h6⟩)
  · exact Or.inr (Or.inr ⟨h1, q, r, h2, h3, h4, h5, by rw [hF q (by omega), hF r (by omega)]; exact h6⟩)
/-- the class's graph while it is written -/
def G (S : zS) (m : Nat) (F : Nat → Lg) : Prop := gI S 41 10 = m ∧ 1 ≤ m ∧ m ≤ 400 ∧ Gr (gI S 47) (gI S 48) (gI S 49) m F ∧ ∀ j : Nat, j < m → LMin (F j) (gI S 50 j) ∧ LMax (F j) (gI S 51 j) ∧ 0 ≤ gI S 50 j ∧ gI S 50 j ≤ j ∧ 0 ≤ gI S 51 j ∧ gI S 51 j ≤ j
def Fup (F : Nat → Lg) (m : Nat) (A : Lg) (j : Nat) : Lg := if j = m then A else F j
theorem Fup_at {F : Nat → Lg} {m : Nat} {A : Lg} : Fup F m A m = A := if_pos rfl
theorem Fup_lt {F : Nat → Lg} {m j : Nat} {A : Lg} (h : j < m) : Fup F m A j = F j := if_neg (by omega)
def nodeS (S : zS) (m k nx ot lo hi : Int) : zS := sI (sI (sI (sI (sI (sI S 47 m k) 48 m nx) 49 m ot) 50 m lo) 51 m hi) 41 10 (m + 1)
theorem zar400 {S : zS} {a : Nat} (h : 47 ≤ a ∧ a ≤ 51) : zdes S a = some (.inr (0, 400)) := by
  rcases (show a = 47 ∨ a = 48 ∨ a = 49 ∨ a = 50 ∨ a = 51 by omega) with rfl | rfl | rfl | rfl | rfl <;> rfl
theorem e38c {X : zX} {d : Nat} (hd : 0 ≤ d) {S : zS} (a : Nat) (i : Int) (ha : 47 ≤ a ∧ a ≤ 51) (hi : 0 ≤ i ∧ i < 400) : z_ev X d (z_entry 38 [.ref a, .int (Int32.ofInt i)] (mk S)) = some (some (.int (Int32.ofInt (gI S a i))), mk S) := by
  show z_ev X d (38, 0, [some (.ref a), some (.int (Int32.ofInt i))], [], mk S) = _
  exact e38a (Nat.zero_le _) a 400 i (zar400 ha) (by omega) (by omega) (by omega)
theorem c38c {X : zX} {d : Nat} (hd : 0 < d) {S : zS} (a : Nat) (i : Int) (ha : 47 ≤ a ∧ a ≤ 51) (hi : 0 ≤ i ∧ i < 400) {cm cp : Nat} {L : zL} {st : List Value} : z_evc X d 38 [.ref a, .int (Int32.ofInt i)] (cm, cp, L, st, mk S) = z_ev X d (cm, cp, L, .int (Int32.ofInt (gI S a i)) :: st, mk S) := z_evc_of (r := (some (.int (Int32.ofInt (gI S a i))), mk S)) (ck := (cm, cp, L, st, mk S)) hd (e38c (X := X) (Nat.le_refl _) a i ha hi)
theorem e38d {X : zX} {d : Nat} (hd : 0 ≤ d) {S : zS} (a : Nat) (i : Int) (ha : 42 ≤ a ∧ a ≤ 46) (hi : 0 ≤ i ∧ i < 402) : z_ev X d (z_entry 38 [.ref a, .int (Int32.ofInt i)] (mk S)) = some (some (.int (Int32.ofInt (gI S a i))), mk S) := by
  show z_ev X d (38, 0, [some (.ref a), some (.int (Int32.ofInt i))], [], mk S) = _
  exact e38a (Nat.zero_le _) a 402 i (zar_put ha) (by omega) (by omega) (by omega)
theorem c38d {X : zX} {d : Nat} (hd : 0 < d) {S : zS} (a : Nat) (i : Int) (ha : 42 ≤ a ∧ a ≤ 46) (hi : 0 ≤ i ∧ i < 402) {cm cp : Nat} {L : zL} {st : List Value} : z_evc X d 38 [.ref a, .int (Int32.ofInt i)] (cm, cp, L, st, mk S) = z_ev X d (cm, cp, L, .int (Int32.ofInt (gI S a i)) :: st, mk S) := z_evc_of (r := (some (.int (Int32.ofInt (gI S a i))), mk S)) (ck := (cm, cp, L, st, mk S)) hd (e38d (X := X) (Nat.le_refl _) a i ha hi)
theorem e38e {X : zX} {d : Nat} (hd : 0 ≤ d) {S : zS} (a : Nat) (i : Int) (ha : 47 ≤ a ∧ a ≤ 51) (hi : -400 < i ∧ i < 0) : z_ev X d (z_entry 38 [.ref a, .int (Int32.ofInt i)] (mk S)) = some (some (.int (Int32.ofInt (-1))), mk S) := by
  show z_ev X d (38, 0, [some (.ref a), some (.int (Int32.ofInt i))], [], mk S) = _
  exact e38b (Nat.zero_le _) a 400 i (zar400 ha) (by omega) (by omega) (by omega) (by omega)
theorem c38e {X : zX} {d : Nat} (hd : 0 < d) {S : zS} (a : Nat) (i : Int) (ha : 47 ≤ a ∧ a ≤ 51) (hi : -400 < i ∧ i < 0) {cm cp : Nat} {L : zL} {st : List Value} : z_evc X d 38 [.ref a, .int (Int32.ofInt i)] (cm, cp, L, st, mk S) = z_ev X d (cm, cp, L, .int (Int32.ofInt (-1)) :: st, mk S) := z_evc_of (r := (some (.int (Int32.ofInt (-1))), mk S)) (ck := (cm, cp, L, st, mk S)) hd (e38e (X := X) (Nat.le_refl _) a i ha hi)
theorem e37a {X : zX} {d : Nat} (hd : 1 ≤ d) {S : zS} (h : gI S 41 10 = 0) : z_ev X d (z_entry 37 [.ref 41, .int (Int32.ofInt 0), .int (Int32.ofInt (-1)), .int (Int32.ofInt (-1))] (mk S)) = some (some (.int (Int32.ofInt 0)), mk (nodeS S 0 0 (-1) (-1) 0 0)) := by
  show z_ev X d (37, 0, [some (.ref 41), some (.int (Int32.ofInt 0)), some (.int (Int32.ofInt (-1))), some (.int (Int32.ofInt (-1))), none, none, none], [], mk S) = _
  simp (disch := first | omega | assumption | exact b01_rng _ | exact st_5 | exact st_12 | exact st_19 | (simp only [isSt_sI, isSt_sJ, isSt_sF, isSt_sG, isSt_sA]; assumption)) only [↓B37_0, ↓B37_7, ↓B37_17, ↓B37_19, ↓B37_53, ↓B37_58, ↓B37_63, ↓B37_67, ↓B37_68, ↓B37_81, ↓B37_84, ↓B37_98, ↓B37_101, ↓B37_117, ↓B37_127, ↓B37_130, ↓B37_133, ↓B37_135, ↓B37_149, ↓B37_159, ↓B37_162, ↓B37_165, ↓B37_167, ↓a_47, ↓a_48, ↓a_49, ↓a_50, ↓a_51, ↓n_47, ↓n_48, ↓n_49, ↓n_50, ↓n_51, ↓r_41_10, ↓r_41_5, ↓r_41_6, ↓r_41_7, ↓r_41_8, ↓r_41_9, ↓s_47, ↓s_48, ↓s_49, ↓s_50, ↓s_51, ↓w_41_10, c38e, c272, c273, i_lit, i_add, i_sub, i_mul, i_neg, i_lt, i_le, i_eq, i32_gI, i64_gJ, i32_id, i32_to, i64_to, sI_i32, sJ_i64, b01_t, b01_f, i32_b01, b01_0, ↓a_s0, ↓n_s0, ↓a_s1, ↓n_s1, Int.add_zero, t_lt, f_lt, t_le, f_le, t_eq, f_eq, true_and, and_true, false_and, and_false, and_self, ↓reduceIte, z_bool_of, or_true, true_or, or_false, false_or, Int.neg_neg, not_true_eq_false, not_false_eq_true, lg_lt, lg_le, lg_gt, lg_ge, lg_eq, j_lit, j_add, j_sub, j_mul, j_neg, j_eq, i64_id, ij, ji, z_rt, Nat.reduceEqDiff, Nat.reduceAdd, Int.reduceAdd, Int.reduceSub, Int.reduceMul, Int.reduceNeg, Int.reduceLT, Int.reduceLE, Int.reduceEq, gI_sI, gI_sJ, gI_sF, gI_sG, gI_sQ, gI_sA, gJ_sI, gJ_sJ, gJ_sF, gJ_sG, gJ_sQ, gJ_sA, gQ_sI, gQ_sJ, gQ_sF, gQ_sG, gQ_sQ, gQ_sA, gH_sI, gH_sJ, gH_sF, gH_sG, gH_sQ, gH_sA, gN_sI, gN_sJ, gN_sF, gN_sG, gN_sQ, gN_sA, gW_sI, gW_sJ, gW_sF, gW_sG, gW_sQ, gW_sA, h, nodeS, Int.zero_add, Int.max_def]
theorem c37a {X : zX} {d : Nat} (hd : 1 < d) {S : zS} (h : gI S 41 10 = 0) {cm cp : Nat} {L : zL} {st : List Value} : z_evc X d 37 [.ref 41, .int (Int32.ofInt 0), .int (Int32.ofInt (-1)), .int (Int32.ofInt (-1))] (cm, cp, L, st, mk S) = z_ev X d (cm, cp, L, .int (Int32.ofInt 0) :: st, mk (nodeS S 0 0 (-1) (-1) 0 0)) := z_evc_of (r := (some (.int (Int32.ofInt 0)), mk (nodeS S 0 0 (-1) (-1) 0 0))) (ck := (cm, cp, L, st, mk S)) hd (e37a (X := X) (Nat.le_refl _) h)
theorem e37b {X : zX} {d : Nat} (hd : 1 ≤ d) {S : zS} (m k q : Int) (h : gI S 41 10 = m) (hm : 0 ≤ m ∧ m < 400) (hk : 1 ≤ k ∧ k ≤ 4) (hq : 0 ≤ q ∧ q < m) (h1 : 0 ≤ gI S 50 q ∧ gI S 50 q ≤ 400) (h2 : 0 ≤ gI S 51 q ∧ gI S 51 q ≤ 400) : z_ev X d (z_entry 37 [.ref 41, .int (Int32.ofInt k), .int (Int32.ofInt q), .int (Int32.ofInt (-1))] (mk S)) = some (some (.int (Int32.ofInt m)), mk (nodeS S m k q (-1) (rd1 (k - 1) + gI S 50 q) (rd1 (k - 1) + gI S 51 q))) := by
  show z_ev X d (37, 0, [some (.ref 41), some (.int (Int32.ofInt k)), some (.int (Int32.ofInt q)), some (.int (Int32.ofInt (-1))), none, none, none], [], mk S) = _
  have m1 : max 0 (gI S 50 q) = gI S 50 q := Int.max_eq_right h1.1
  have m2 : max 0 (gI S 51 q) = gI S 51 q := Int.max_eq_right h2.1
  by_cases q4 : k = 4
  · subst q4
    simp (disch := first | omega | assumption | exact b01_rng _ | exact st_5 | exact st_12 | exact st_19 | (simp only [isSt_sI, isSt_sJ, isSt_sF, isSt_sG, isSt_sA]; assumption)) only [↓B37_0, ↓B37_7, ↓B37_17, ↓B37_19, ↓B37_53, ↓B37_58, ↓B37_63, ↓B37_67, ↓B37_68, ↓B37_81, ↓B37_84, ↓B37_98, ↓B37_101, ↓B37_117, ↓B37_127, ↓B37_130, ↓B37_133, ↓B37_135, ↓B37_149, ↓B37_159, ↓B37_162, ↓B37_165, ↓B37_167, ↓a_47, ↓a_48, ↓a_49, ↓a_50, ↓a_51, ↓n_47, ↓n_48, ↓n_49, ↓n_50, ↓n_51, ↓r_41_10, ↓r_41_5, ↓r_41_6, ↓r_41_7, ↓r_41_8, ↓r_41_9, ↓s_47, ↓s_48, ↓s_49, ↓s_50, ↓s_51, ↓w_41_10, c38c, c272, c273, i_lit, i_add, i_sub, i_mul, i_neg, i_lt, i_le, i_eq, i32_gI, i64_gJ, i32_id, i32_to, i64_to, sI_i32, sJ_i64, b01_t, b01_f, i32_b01, b01_0, ↓a_s0, ↓n_s0, ↓a_s1, ↓n_s1, Int.add_zero, t_lt, f_lt, t_le, f_le, t_eq, f_eq, true_and, and_true, false_and, and_false, and_self, ↓reduceIte, z_bool_of, or_true, true_or, or_false, false_or, Int.neg_neg, not_true_eq_false, not_false_eq_true, lg_lt, lg_le, lg_gt, lg_ge, lg_eq, j_lit, j_add, j_sub, j_mul, j_neg, j_eq, i64_id, ij, ji, z_rt, Nat.reduceEqDiff, Nat.reduceAdd, Int.reduceAdd, Int.reduceSub, Int.reduceMul, Int.reduceNeg, Int.reduceLT, Int.reduceLE, Int.reduceEq, gI_sI, gI_sJ, gI_sF, gI_sG, gI_sQ, gI_sA, gJ_sI, gJ_sJ, gJ_sF, gJ_sG, gJ_sQ, gJ_sA, gQ_sI, gQ_sJ, gQ_sF, gQ_sG, gQ_sQ, gQ_sA, gH_sI, gH_sJ, gH_sF, gH_sG, gH_sQ, gH_sA, gN_sI, gN_sJ, gN_sF, gN_sG, gN_sQ, gN_sA, gW_sI, gW_sJ, gW_sF, gW_sG, gW_sQ, gW_sA, h, nodeS, Int.zero_add, m1, m2, rd1, Int.add_sub_cancel]
  · have e1 : rd1 (k - 1) = 1 := by unfold rd1; rw [if_neg (by omega)]
    simp (disch := first | omega | assumption | exact b01_rng _ | exact st_5 | exact st_12 | exact st_19 | (simp only [isSt_sI, isSt_sJ, isSt_sF, isSt_sG, isSt_sA]; assumption)) only [↓B37_0, ↓B37_7, ↓B37_17, ↓B37_19, ↓B37_53, ↓B37_58, ↓B37_63, ↓B37_67, ↓B37_68, ↓B37_81, ↓B37_84, ↓B37_98, ↓B37_101, ↓B37_117, ↓B37_127, ↓B37_130, ↓B37_133, ↓B37_135, ↓B37_149, ↓B37_159, ↓B37_162, ↓B37_165, ↓B37_167, ↓a_47, ↓a_48, ↓a_49, ↓a_50, ↓a_51, ↓n_47, ↓n_48, ↓n_49, ↓n_50, ↓n_51, ↓r_41_10, ↓r_41_5, ↓r_41_6, ↓r_41_7, ↓r_41_8, ↓r_41_9, ↓s_47, ↓s_48, ↓s_49, ↓s_50, ↓s_51, ↓w_41_10, c38c, c272, c273, i_lit, i_add, i_sub, i_mul, i_neg, i_lt, i_le, i_eq, i32_gI, i64_gJ, i32_id, i32_to, i64_to, sI_i32, sJ_i64, b01_t, b01_f, i32_b01, b01_0, ↓a_s0, ↓n_s0, ↓a_s1, ↓n_s1, Int.add_zero, t_lt, f_lt, t_le, f_le, t_eq, f_eq, true_and, and_true, false_and, and_false, and_self, ↓reduceIte, z_bool_of, or_true, true_or, or_false, false_or, Int.neg_neg, not_true_eq_false, not_false_eq_true, lg_lt, lg_le, lg_gt, lg_ge, lg_eq, j_lit, j_add, j_sub, j_mul, j_neg, j_eq, i64_id, ij, ji, z_rt, Nat.reduceEqDiff, Nat.reduceAdd, Int.reduceAdd, Int.reduceSub, Int.reduceMul, Int.reduceNeg, Int.reduceLT, Int.reduceLE, Int.reduceEq, gI_sI, gI_sJ, gI_sF, gI_sG, gI_sQ, gI_sA, gJ_sI, gJ_sJ, gJ_sF, gJ_sG, gJ_sQ, gJ_sA, gQ_sI, gQ_sJ, gQ_sF, gQ_sG, gQ_sQ, gQ_sA, gH_sI, gH_sJ, gH_sF, gH_sG, gH_sQ, gH_sA, gN_sI, gN_sJ, gN_sF, gN_sG, gN_sQ, gN_sA, gW_sI, gW_sJ, gW_sF, gW_sG, gW_sQ, gW_sA, h, nodeS, m1, m2, e1, Int.add_sub_cancel]
theorem c37b {X : zX} {d : Nat} (hd : 1 < d) {S : zS} (m k q : Int) (h : gI S 41 10 = m) (hm : 0 ≤ m ∧ m < 400) (hk : 1 ≤ k ∧ k ≤ 4) (hq : 0 ≤ q ∧ q < m) (h1 : 0 ≤ gI S 50 q ∧ gI S 50 q ≤ 400) (h2 : 0 ≤ gI S 51 q ∧ gI S 51 q ≤ 400) {cm cp : Nat} {L : zL} {st : List Value} : z_evc X d 37 [.ref 41, .int (Int32.ofInt k), .int (Int32.ofInt q), .int (Int32.ofInt (-1))] (cm, cp, L, st, mk S) = z_ev X d (cm, cp, L, .int (Int32.ofInt m) :: st, mk (nodeS S m k q (-1) (rd1 (k - 1) + gI S 50 q) (rd1 (k - 1) + gI S 51 q))) := z_evc_of (r := (some (.int (Int32.ofInt m)), mk (nodeS S m k q (-1) (rd1 (k - 1) + gI S 50 q) (rd1 (k - 1) + gI S 51 q)))) (ck := (cm, cp, L, st, mk S)) hd (e37b (X := X) (Nat.le_refl _) m k q h hm hk hq h1 h2)
theorem e37c {X : zX} {d : Nat} (hd : 1 ≤ d) {S : zS} (m q r : Int) (h : gI S 41 10 = m) (hm : 0 ≤ m ∧ m < 400) (hq : 0 ≤ q ∧ q < m) (hr : 0 ≤ r ∧ r < m) (h1 : 0 ≤ gI S 50 q ∧ gI S 50 q ≤ 400) (h2 : 0 ≤ gI S 51 q ∧ gI S 51 q ≤ 400) (h3 : 0 ≤ gI S 50 r ∧ gI S 50 r ≤ 400) (h4 : 0 ≤ gI S 51 r ∧ gI S 51 r ≤ 400) : z_ev X d (z_entry 37 [.ref 41, .int (Int32.ofInt 5), .int (Int32.ofInt q), .int (Int32.ofInt r)] (mk S)) = some (some (.int (Int32.ofInt m)), mk (nodeS S m 5 q r (min (gI S 50 q) (gI S 50 r)) (max (gI S 51 q) (gI S 51 r)))) := by
  show z_ev X d (37, 0, [some (.ref 41), some (.int (Int32.ofInt 5)), some (.int (Int32.ofInt q)), some (.int (Int32.ofInt r)), none, none, none], [], mk S) = _
  have m1 : max 0 (gI S 50 q) = gI S 50 q := Int.max_eq_right h1.1
  have m2 : max 0 (gI S 51 q) = gI S 51 q := Int.max_eq_right h2.1
  simp (disch := first | omega | assumption | exact b01_rng _ | exact st_5 | exact st_12 | exact st_19 | (simp only [isSt_sI, isSt_sJ, isSt_sF, isSt_sG, isSt_sA]; assumption)) only [↓B37_0, ↓B37_7, ↓B37_17, ↓B37_19, ↓B37_53, ↓B37_58, ↓B37_63, ↓B37_67, ↓B37_68, ↓B37_81, ↓B37_84, ↓B37_98, ↓B37_101, ↓B37_117, ↓B37_127, ↓B37_130, ↓B37_133, ↓B37_135, ↓B37_149, ↓B37_159, ↓B37_162, ↓B37_165, ↓B37_167, ↓a_47, ↓a_48, ↓a_49, ↓a_50, ↓a_51, ↓n_47, ↓n_48, ↓n_49, ↓n_50, ↓n_51, ↓r_41_10, ↓r_41_5, ↓r_41_6, ↓r_41_7, ↓r_41_8, ↓r_41_9, ↓s_47, ↓s_48, ↓s_49, ↓s_50, ↓s_51, ↓w_41_10, c38c, c272, c273, i_lit, i_add, i_sub, i_mul, i_neg, i_lt, i_le, i_eq, i32_gI, i64_gJ, i32_id, i32_to, i64_to, sI_i32, sJ_i64, b01_t, b01_f, i32_b01, b01_0, ↓a_s0, ↓n_s0, ↓a_s1, ↓n_s1, Int.add_zero, t_lt, f_lt, t_le, f_le, t_eq, f_eq, true_and, and_true, false_and, and_false, and_self, ↓reduceIte, z_bool_of, or_true, true_or, or_false, false_or, Int.neg_neg, not_true_eq_false, not_false_eq_true, lg_lt, lg_le, lg_gt, lg_ge, lg_eq, j_lit, j_add, j_sub, j_mul, j_neg, j_eq, i64_id, ij, ji, z_rt, Nat.reduceEqDiff, Nat.reduceAdd, Int.reduceAdd, Int.reduceSub, Int.reduceMul, Int.reduceNeg, Int.reduceLT, Int.reduceLE, Int.reduceEq, gI_sI, gI_sJ, gI_sF, gI_sG, gI_sQ, gI_sA, gJ_sI, gJ_sJ, gJ_sF, gJ_sG, gJ_sQ, gJ_sA, gQ_sI, gQ_sJ, gQ_sF, gQ_sG, gQ_sQ, gQ_sA, gH_sI, gH_sJ, gH_sF, gH_sG, gH_sQ, gH_sA, gN_sI, gN_sJ, gN_sF, gN_sG, gN_sQ, gN_sA, gW_sI, gW_sJ, gW_sF, gW_sG, gW_sQ, gW_sA, h, nodeS, Int.zero_add, m1, m2, Int.add_sub_cancel]

theorem c37c {X : zX} {d : Nat} (hd : 1 < d) {S : zS} (m q r : Int) (h : gI S 41 10 = m) (hm : 0 ≤ m ∧ m < 400) (hq : 0 ≤ q ∧ q < m) (hr : 0 ≤ r ∧ r < m) (h1 : 0 ≤ gI S 50 q ∧ gI S 50 q ≤ 400) (h2 : 0 ≤ gI S 51 q ∧ gI S 51 q ≤ 400) (h3 : 0 ≤ gI S 50 r ∧ gI S 50 r ≤ 400) (h4 : 0 ≤ gI S 51 r ∧ gI S 51 r ≤ 400) {cm cp : Nat} {L : zL} {st : List Value} : z_evc X d 37 [.ref 41, .int (Int32.ofInt 5), .int (Int32.ofInt q), .int (Int32.ofInt r)] (cm, cp, L, st, mk S) = z_ev X d (cm, cp, L, .int (Int32.ofInt m) :: st, mk (nodeS S m 5 q r (min (gI S 50 q) (gI S 50 r)) (max (gI S 51 q) (gI S 51 r)))) := z_evc_of (r := (some (.int (Int32.ofInt m)), mk (nodeS S m 5 q r (min (gI S 50 q) (gI S 50 r)) (max (gI S 51 q) (gI S 51 r))))) (ck := (cm, cp, L, st, mk S)) hd (e37c (X := X) (Nat.le_refl _) m q r h hm hq hr h1 h2 h3 h4)