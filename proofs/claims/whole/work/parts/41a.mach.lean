/-! LAWS AND ORDERS: what sums and tests mean, and the code that tells it, on both sides -/
abbrev Ev : Type := (Int → Int) → Option Int
def BIG : Int := 1000000000
def chk (v : Int) : Option Int := if -1000000000 ≤ v ∧ v ≤ 1000000000 then some v else none
/-- the class's numbers: 2 + 3 - 4 * 5 / 6 % 7 < 8 > 9 = -/
def opv (op x y : Int) : Option Int := if op = 2 then chk (x + y) else if op = 3 then chk (x - y) else if op = 4 then chk (x * y) else if op = 5 then (if y = 0 then none else chk (x.tdiv y)) else if op = 6 then (if y = 0 then none else chk (x.tmod y)) else if op = 7 then some (b01 (x < y)) else if op = 8 then some (b01 (y < x)) else some (b01 (x = y))
def eK (n : Int) : Ev := fun _ => some n
def eW (i : Int) : Ev := fun w => some (w i)
def eB (op : Int) (l r : Ev) : Ev := fun w => match l w with
  | none => none
  | some x => match r w with
    | none => none
    | some y => opv op x y
def eN (e : Ev) : Ev := fun w => match e w with
  | none => none
  | some x => some (1 - x)
/-- 11 or, 12 and: what stands behind only if it can still matter -/
def eJ (op : Int) (l r : Ev) : Ev := fun w => match l w with
  | none => none
  | some x => if x = (if op = 11 then 1 else 0) then some x else r w
/-- numbers that words tell -/
def WB (w : Int → Int) : Prop := ∀ i, -1000000000 ≤ w i ∧ w i ≤ 1000000000
def EB (e : Ev) : Prop := ∀ w, WB w → ∀ v, e w = some v → -1000000000 ≤ v ∧ v ≤ 1000000000
def E01 (e : Ev) : Prop := ∀ w, WB w → ∀ v, e w = some v → v = 0 ∨ v = 1
theorem E01.b {e : Ev} (h : E01 e) : EB e := fun w hw v hv => by rcases h w hw v hv with rfl | rfl <;> omega
theorem chk_b {v x : Int} (h : chk v = some x) : x = v ∧ -1000000000 ≤ v ∧ v ≤ 1000000000 := by
  unfold chk at h
  split at h
  · next q => cases h; exact ⟨rfl, q⟩
  · cases h
theorem opv_b {op x y v : Int} (h : opv op x y = some v) : -1000000000 ≤ v ∧ v ≤ 1000000000 := by
  unfold opv at h
  split at h
  · have := chk_b h; omega
  split at h
  · have := chk_b h; omega
  split at h
  · have := chk_b h; omega
  split at h
  · split at h
    · cases h
    · have := chk_b h; omega
  split at h
  · split at h
    · cases h
    · have := chk_b h; omega
  have k : ∀ (p : Prop) [Decidable p], some (b01 p) = some v → -1000000000 ≤ v ∧ v ≤ 1000000000 := fun p _ e => by
    have := b01_rng p
    have : b01 p = v := Option.some.inj e
    omega
  split at h
  · exact k _ h
  split at h
  · exact k _ h
  · exact k _ h
theorem opv_01 {op x y v : Int} (ho : 7 ≤ op) (h : opv op x y = some v) : v = 0 ∨ v = 1 := by
  unfold opv at h
  rw [if_neg (by omega), if_neg (by omega), if_neg (by omega), if_neg (by omega), if_neg (by omega)] at h
  have k : ∀ (p : Prop) [Decidable p], some (b01 p) = some v → v = 0 ∨ v = 1 := fun p _ e => by
    have := b01_rng p
    have : b01 p = v := Option.some.inj e
    omega
  split at h
  · exact k _ h
  split at h
  · exact k _ h
  · exact k _ h
theorem eB_b {op : Int} {l r : Ev} : EB (eB op l r) := by
  intro w hw v hv
  unfold eB at hv
  cases hl : l w with
  | none => rw [hl] at hv; cases hv
  | some x =>
    rw [hl] at hv
    cases hr : r w with
    | none => rw [hr] at hv; cases hv
    | some y => rw [hr] at hv; exact opv_b hv
theorem eB_01 {op : Int} (ho : 7 ≤ op) {l r : Ev} : E01 (eB op l r) := by
  intro w hw v hv
  unfold eB at hv
  cases hl : l w with
  | none => rw [hl] at hv; cases hv
  | some x =>
    rw [hl] at hv
    cases hr : r w with
    | none => rw [hr] at hv; cases hv
    | some y => rw [hr] at hv; exact opv_01 ho hv
theorem eN_01 {e : Ev} (h : E01 e) : E01 (eN e) := by
  intro w hw v hv
  unfold eN at hv
  cases hl : e w with
  | none => rw [hl] at hv; cases hv
  | some x =>
    rw [hl] at hv
    have := h w hw x hl
    have : 1 - x = v := Option.some.inj hv
    omega
theorem eN_N (e : Ev) : eN (eN e) = e := by
  funext w
  unfold eN
  cases e w with
  | none => rfl
  | some x => simp only []; congr 1; omega
theorem eJ_01 {op : Int} {l r : Ev} (hl : E01 l) (hr : E01 r) : E01 (eJ op l r) := by
  intro w hw v hv
  unfold eJ at hv
  cases h : l w with
  | none => rw [h] at hv; cases hv
  | some x =>
    rw [h] at hv
    simp only [] at hv
    by_cases q : x = (if op = 11 then 1 else 0)
    · rw [if_pos q] at hv
      have : x = v := Option.some.inj hv
      rw [← this]; exact hl w hw x h
    · rw [if_neg q] at hv
      exact hr w hw v hv
/-! the machine: instructions by their place -/
abbrev Ins : Type := Int → Int × Int
abbrev mQ : Type := Int × List Int
def mst (I : Ins) (w : Int → Int) (x : mQ) : Option mQ :=
  let op := (I x.1).1
  let ar := (I x.1).2
  if op = 0 then (if x.2.length < 51 then some (x.1 + 1, ar :: x.2) else some x)
  else if op = 1 then (if x.2.length < 51 then some (x.1 + 1, w ar :: x.2) else some x)
  else match x.2 with
  | [] => some x
  | y :: st =>
    if op = 10 then some (x.1 + 1, (1 - y) :: st)
    else if op = 11 ∨ op = 12 then (if y = (if op = 11 then 1 else 0) then (if x.1 + 1 ≤ ar then some (ar, y :: st) else some x) else some (x.1 + 1, st))
    else match st with
    | [] => some x
    | z :: st => if 13 ≤ op then some x else match opv op z y with
      | none => none
      | some v => some (x.1 + 1, v :: st)
def rn (I : Ins) (w : Int → Int) : Nat → mQ → Option mQ
  | 0, x => some x
  | m + 1, x => match mst I w x with
    | none => none
    | some y => rn I w m y
theorem rn_add {I : Ins} {w : Int → Int} : ∀ (m : Nat) {n : Nat} {x y : mQ}, rn I w m x = some y → rn I w (m + n) x = rn I w n y := by
  intro m
  induction m with
  | zero => intro n x y h; cases h; rw [Nat.zero_add]
  | succ m ih =>
    intro n x y h
    rw [Nat.succ_add]
    simp only [rn] at h ⊢
    cases hs : mst I w x with
    | none => rw [hs] at h; cases h
    | some z => rw [hs] at h; exact ih h
/-- it comes to b with its value on top, or breaks -/
def RT (I : Ins) (w : Int → Int) (x : mQ) (b : Int) (st : List Int) (r : Option Int) : Prop := match r with
  | some v => ∃ m, rn I w m x = some (b, v :: st)
  | none => ∃ m, rn I w m x = none
theorem RT.step {I : Ins} {w : Int → Int} {x y : mQ} {b : Int} {st : List Int} {r : Option Int} (h : mst I w x = some y) (hr : RT I w y b st r) : RT I w x b st r := by
  cases r with
  | none => obtain ⟨m, hm⟩ := hr; exact ⟨m + 1, by simp only [rn, h]; exact hm⟩
  | some v => obtain ⟨m, hm⟩ := hr; exact ⟨m + 1, by simp only [rn, h]; exact hm⟩
theorem RT.steps {I : Ins} {w : Int → Int} {x y : mQ} {b : Int} {st : List Int} {r : Option Int} {m : Nat} (h : rn I w m x = some y) (hr : RT I w y b st r) : RT I w x b st r := by
  cases r with
  | none => obtain ⟨k, hk⟩ := hr; exact ⟨m + k, by rw [rn_add m h]; exact hk⟩
  | some v => obtain ⟨k, hk⟩ := hr; exact ⟨m + k, by rw [rn_add m h]; exact hk⟩
/-- the code from a to b tells e, with at most n on the stack -/
def Seg (I : Ins) (a b : Int) (n : Nat) (e : Ev) : Prop := a < b ∧ 1 ≤ n ∧ ∀ I' : Ins, (∀ k, a ≤ k → k < b → I' k = I k) → ∀ (w : Int → Int) (st : List Int), WB w → st.length + n ≤ 50 → RT I' w (a, st) b st (e w)
theorem Seg.cg {I I' : Ins} {a b : Int} {n : Nat} {e : Ev} (h : Seg I a b n e) (hI : ∀ k, a ≤ k → k < b → I' k = I k) : Seg I' a b n e := ⟨h.1, h.2.1, fun I2 h2 w st hw hs => h.2.2 I2 (fun k q1 q2 => (h2 k q1 q2).trans (hI k q1 q2)) w st hw hs⟩
theorem Seg.num {I : Ins} {a x : Int} (h : I a = (0, x)) : Seg I a (a + 1) 1 (eK x) := by
  refine ⟨by omega, Nat.le_refl _, fun I' hI w st hw hs => ⟨1, ?_⟩⟩
  have e := (hI a (by omega) (by omega)).trans h
  simp only [rn, mst, e, if_true, if_pos (show st.length < 51 by omega)]
theorem Seg.word {I : Ins} {a i : Int} (h : I a = (1, i)) : Seg I a (a + 1) 1 (eW i) := by
  refine ⟨by omega, Nat.le_refl _, fun I' hI w st hw hs => ⟨1, ?_⟩⟩
  have e := (hI a (by omega) (by omega)).trans h
  simp only [rn, mst, e, if_pos (show st.length < 51 by omega)]
  rfl
theorem Seg.bin {I : Ins} {a b c x op : Int} {n1 n2 : Nat} {l r : Ev} (h1 : Seg I a b n1 l) (h2 : Seg I b c n2 r) (hop : 2 ≤ op ∧ op ≤ 9) (h : I c = (op, x)) : Seg I a (c + 1) (n1 + n2) (eB op l r) := by
  obtain ⟨a1, a2, a3⟩ := h1
  obtain ⟨b1, b2, b3⟩ := h2
  refine ⟨by omega, by omega, fun I' hI w st hw hs => ?_⟩
  have c1 := a3 I' (fun k q1 q2 => hI k (by omega) (by omega)) w st hw (by omega)
  have e := (hI c (by omega) (by omega)).trans h
  unfold eB
  cases hl : l w with
  | none => rw [hl] at c1; exact c1
  | some u =>
    rw [hl] at c1
    obtain ⟨m, hm⟩ := c1
    have c2 := b3 I' (fun k q1 q2 => hI k (by omega) (by omega)) w (u :: st) hw (by show st.length + 1 + n2 ≤ 50; omega)
    simp only []
    cases hr : r w with
    | none =>
      rw [hr] at c2
      obtain ⟨m2, hm2⟩ := c2
      exact ⟨m + m2, by rw [rn_add m hm]; exact hm2⟩
    | some v =>
      rw [hr] at c2
      obtain ⟨m2, hm2⟩ := c2
      simp only []
      refine RT.steps hm (RT.steps hm2 ?_)
      cases ho : opv op u v with
      | none => exact ⟨1, by simp only [rn, mst, e, if_neg (show ¬ op = 0 by omega), if_neg (show ¬ op = 1 by omega), if_neg (show ¬ op = 10 by omega), if_neg (show ¬ (op = 11 ∨ op = 12) by omega), if_neg (show ¬ 13 ≤ op by omega), ho]⟩
      | some z => exact ⟨1, by simp only [rn, mst, e, if_neg (show ¬ op = 0 by omega), if_neg (show ¬ op = 1 by omega), if_neg (show ¬ op = 10 by omega), if_neg (show ¬ (op = 11 ∨ op = 12) by omega), if_neg (show ¬ 13 ≤ op by omega), ho]⟩
theorem Seg.not {I : Ins} {a b x : Int} {n : Nat} {e : Ev} (h1 : Seg I a b n e) (h : I b = (10, x)) : Seg I a (b + 1) n (eN e) := by
  obtain ⟨a1, a2, a3⟩ := h1
  refine ⟨by omega, a2, fun I' hI w st hw hs => ?_⟩
  have c1 := a3 I' (fun k q1 q2 => hI k (by omega) (by omega)) w st hw hs
  have ei := (hI b (by omega) (by omega)).trans h
  unfold eN
  cases hl : e w with
  | none => rw [hl] at c1; exact c1
  | some u =>
    rw [hl] at c1
    obtain ⟨m, hm⟩ := c1
    refine RT.steps hm ⟨1, ?_⟩
    simp only [rn, mst, ei]
    rfl
theorem Seg.join {I : Ins} {a b c op : Int} {n1 n2 : Nat} {l r : Ev} (h1 : Seg I a b n1 l) (h2 : Seg I (b + 1) c n2 r) (hop : op = 11 ∨ op = 12) (h : I b = (op, c)) : Seg I a c (n1 + n2) (eJ op l r) := by
  obtain ⟨a1, a2, a3⟩ := h1
  obtain ⟨b1, b2, b3⟩ := h2
  refine ⟨by omega, by omega, fun I' hI w st hw hs => ?_⟩
  have c1 := a3 I' (fun k q1 q2 => hI k (by omega) (by omega)) w st hw (by omega)
  have ei := (hI b (by omega) (by omega)).trans h
  unfold eJ
  cases hl : l w with
  | none => rw [hl] at c1; exact c1
  | some u =>
    rw [hl] at c1
    obtain ⟨m, hm⟩ := c1
    simp only []
    by_cases q : u = (if op = 11 then 1 else 0)
    · rw [if_pos q]
      refine RT.steps hm ⟨1, ?_⟩
      simp only [rn, mst, ei, if_neg (show ¬ op = 0 by omega), if_neg (show ¬ op = 1 by omega), if_neg (show ¬ op = 10 by omega), if_pos hop, if_pos q, if_pos (show b + 1 ≤ c by omega)]
    · rw [if_neg q]
      have c2 := b3 I' (fun k q1 q2 => hI k (by omega) (by omega)) w st hw (by omega)
      refine RT.steps hm (RT.step (y := (b + 1, st)) ?_ c2)
      simp only [mst, ei, if_neg (show ¬ op = 0 by omega), if_neg (show ¬ op = 1 by omega), if_neg (show ¬ op = 10 by omega), if_pos hop, if_neg q]
/-- of words below 24 alone -/
def NS (e : Ev) : Prop := ∀ w w', (∀ i, i < 24 → w i = w' i) → e w = e w'
theorem NS.k (n : Int) : NS (eK n) := fun _ _ _ => rfl
theorem NS.w {i : Int} (h : i < 24) : NS (eW i) := fun w w' hw => by unfold eW; rw [hw i h]
theorem NS.b {op : Int} {l r : Ev} (h1 : NS l) (h2 : NS r) : NS (eB op l r) := fun w w' hw => by unfold eB; rw [h1 w w' hw, h2 w w' hw]
theorem NS.n {e : Ev} (h1 : NS e) : NS (eN e) := fun w w' hw => by unfold eN; rw [h1 w w' hw]
theorem NS.j {op : Int} {l r : Ev} (h1 : NS l) (h2 : NS r) : NS (eJ op l r) := fun w w' hw => by unfold eJ; rw [h1 w w' hw, h2 w w' hw]
/-! THE GRAMMAR: a fault at a token, or what is meant, how many parts (and whether it asks for scans), the token behind -/
abbrev pE : Type := Nat ⊕ (Ev × (Nat × Int) × Nat)
def pLeaf (c v : Nat → Int) (ord : Int) (p : Nat × Int) (t : Nat) : pE :=
  if 50 ≤ p.1 then .inl t
  else if c t = 300 ∧ 0 ≤ v t ∧ v t ≤ 1000 then .inr (eK (v t), (p.1 + 1, p.2), t + 1)
  else if ord = 0 then (if 268 ≤ c t ∧ c t ≤ 275 then .inr (eW (c t - 268), (p.1 + 1, p.2), t + 1) else .inl t)
  else if c t = 274 then .inr (eW 0, (p.1 + 1, p.2), t + 1)
  else if c t = 281 then .inr (eW 1, (p.1 + 1, p.2), t + 1)
  else if c t = 282 then .inr (eW 2, (p.1 + 1, p.2), t + 1)
  else if c t = 273 then .inr (eW 3, (p.1 + 1, p.2), t + 1)
  else if c t = 269 then (if c (t + 1) = 300 ∧ 0 ≤ v (t + 1) ∧ v (t + 1) ≤ 19 then .inr (eW (4 + v (t + 1)), (p.1 + 1, p.2), t + 2) else .inl (t + 1))
  else if c t = 283 then (if c (t + 1) = 300 ∧ 0 ≤ v (t + 1) ∧ v (t + 1) ≤ 5 then .inr (eW (24 + v (t + 1)), (p.1 + 1, 1), t + 2) else .inl (t + 1))
  else .inl t
abbrev Rdr : Type := Nat × Int → Nat → pE
def pPart (c v : Nat → Int) (ord : Int) (M : Option Rdr) (p : Nat × Int) (t : Nat) : pE := match M with
  | some f => if c t = 91 then (match f p (t + 1) with
      | .inl e => .inl e
      | .inr (e, p1, t1) => if c t1 = 93 then .inr (e, p1, t1 + 1) else .inl t1) else pLeaf c v ord p t
  | none => pLeaf c v ord p t
/-- signs: 4 * 5 / 6 %, 2 + 3 - -/
def scl (c : Int) : Int := if c = 37 then 6 else if c = 42 then 4 else if c = 47 then 5 else -1
def add (c : Int) : Int := if c = 43 then 2 else if c = 45 then 3 else -1
/-- what waits: a sign and what stands ahead of it -/
abbrev Wt : Type := Option (Int × Ev)
def fin (x : Wt) (e : Ev) : Ev := match x with
  | none => e
  | some (op, l) => eB op l e
def pSumL (c : Nat → Int) (P : Rdr) : Nat → Wt → Wt → Rdr
  | 0, _, _, _, t => .inl t
  | m + 1, ad, sc, p, t => match P p t with
    | .inl e => .inl e
    | .inr (e, p1, t1) =>
      if scl (c t1) ≠ -1 then pSumL c P m ad (some (scl (c t1), fin sc e)) p1 (t1 + 1)
      else if add (c t1) ≠ -1 then pSumL c P m (some (add (c t1), fin ad (fin sc e))) none p1 (t1 + 1)
      else .inr (fin ad (fin sc e), p1, t1)
def pSumS (c v : Nat → Int) (ord : Int) (M : Option Rdr) : Rdr := pSumL c (pPart c v ord M) 500 none none
/-- a sum, so many brackets deeper at most -/
def pSum (c v : Nat → Int) (ord : Int) : Nat → Rdr
  | 0 => pSumS c v ord none
  | k + 1 => pSumS c v ord (some (pSum c v ord k))
def pNots (c : Nat → Int) : Nat → Nat → Bool × Nat
  | 0, t => (false, t)
  | m + 1, t => if c t = 267 then (let r := pNots c m (t + 1); (!r.1, r.2)) else (false, t)
def cmpOp (c : Int) : Int := if c = 60 then 7 else if c = 62 then 8 else if c = 61 then 9 else -1
/-- a comparison -/
def pCmp (c : Nat → Int) (Sm : Rdr) : Rdr := fun p t => match Sm p t with
  | .inl e => .inl e
  | .inr (l, p1, t1) => if cmpOp (c t1) = -1 then .inl t1 else match Sm p1 (t1 + 1) with
    | .inl e => .inl e
    | .inr (r, p2, t2) => .inr (eB (cmpOp (c t1)) l r, p2, t2)
/-- a plain test, its nots being passed -/
def pPlain (c : Nat → Int) (Sm : Rdr) (M : Option Rdr) : Rdr := fun p t => match M with
  | some f => if c t = 40 then (match f p (t + 1) with
      | .inl e => .inl e
      | .inr (e, p1, t1) => if c t1 = 41 then .inr (e, p1, t1 + 1) else .inl t1) else pCmp c Sm p t
  | none => pCmp c Sm p t
def jn (op : Int) (x : Option Ev) (e : Ev) : Ev := match x with
  | none => e
  | some l => eJ op l e
def trn (b : Bool) (e : Ev) : Ev := if b then eN e else e
def pTestL (c : Nat → Int) (N : Nat → Bool × Nat) (P : Rdr) : Nat → Option Ev → Option Ev → Rdr
  | 0, _, _, _, t => .inl t
  | m + 1, o, a, p, t => match P p (N t).2 with
    | .inl e => .inl e
    | .inr (e, p1, t1) =>
      if c t1 = 266 then pTestL c N P m o (some (jn 12 a (trn (N t).1 e))) p1 (t1 + 1)
      else if c t1 = 260 then pTestL c N P m (some (jn 11 o (jn 12 a (trn (N t).1 e)))) none p1 (t1 + 1)
      else .inr (jn 11 o (jn 12 a (trn (N t).1 e)), p1, t1)
def pTestS (c : Nat → Int) (Sm : Rdr) (M : Option Rdr) : Rdr := pTestL c (pNots c 500) (pPlain c Sm M) 500 none none
def pTest (c v : Nat → Int) (ord : Int) : Nat → Rdr
  | 0 => pTestS c (pSum c v ord 0) none
  | k + 1 => pTestS c (pSum c v ord (k + 1)) (some (pTest c v ord k))
