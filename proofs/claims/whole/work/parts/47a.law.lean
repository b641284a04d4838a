/-! WHAT A LAW TELLS of a syllable and a way of reading it -/
theorem evI {X : zX} {d k mi : Nat} {as : List Value} {S S1 : zS} {x : Int} (hd : k < d) (h : z_ev X k (z_entry mi as (mk S)) = some (some (.int (Int32.ofInt x)), mk S1)) {cm cp : Nat} {L : zL} {st : List Value} : z_evc X d mi as (cm, cp, L, st, mk S) = z_ev X d (cm, cp, L, .int (Int32.ofInt x) :: st, mk S1) := z_evc_of (r := (some (.int (Int32.ofInt x)), mk S1)) (ck := (cm, cp, L, st, mk S)) hd h
theorem evJ {X : zX} {d k mi : Nat} {as : List Value} {S S1 : zS} {x : Int} (hd : k < d) (h : z_ev X k (z_entry mi as (mk S)) = some (some (.long (Int64.ofInt x)), mk S1)) {cm cp : Nat} {L : zL} {st : List Value} : z_evc X d mi as (cm, cp, L, st, mk S) = z_ev X d (cm, cp, L, .long (Int64.ofInt x) :: st, mk S1) := z_evc_of (r := (some (.long (Int64.ofInt x)), mk S1)) (ck := (cm, cp, L, st, mk S)) hd h
theorem evV {X : zX} {d k mi : Nat} {as : List Value} {S S1 : zS} (hd : k < d) (h : z_ev X k (z_entry mi as (mk S)) = some (none, mk S1)) {cm cp : Nat} {L : zL} {st : List Value} : z_evc X d mi as (cm, cp, L, st, mk S) = z_ev X d (cm, cp, L, st, mk S1) := z_evc_of (r := (none, mk S1)) (ck := (cm, cp, L, st, mk S)) hd h
def hlb (cl : Cl) (w : Int → Int) : Bool := match cl.2.2.2.2 with
  | none => true
  | some e => decide (e w = some 1)
def clp (v : Int) : Int := max 0 (min 99 v)
/-- able, barred, cost: behind a clause -/
def jf (v : Int) (w : Int → Int) (x : Int × Int × Int) (cl : Cl) : Int × Int × Int := if hlb cl w = true then (if cl.1 = 264 then (x.1, 1, x.2.2) else if cl.1 = 263 then (if x.1 = 0 ∧ v = 2 then 0 else 1, x.2.1, x.2.2) else (x.1, x.2.1, if eV cl.2.2.1 w = -2000000000 then x.2.2 else clp (eV cl.2.2.1 w))) else x
/-- words of laws -/
def lww (g : Int → Int) (p v i : Int) : Int := if i = 0 then p else if i = 1 then g (8 + p) else if i = 2 then v else if i = 3 then g (28 + p) else if i = 4 then g (48 + p) else if i = 5 then g 0 else if i = 6 then g 5 else if i = 7 then g 7 else 0
/-- a line's numbers are in bounds -/
def GB (g : Int → Int) : Prop := (0 ≤ g 0 ∧ g 0 ≤ 20) ∧ (0 ≤ g 5 ∧ g 5 ≤ 999) ∧ (0 ≤ g 7 ∧ g 7 ≤ 9) ∧ ∀ p : Int, 0 ≤ p → p < 20 → (0 ≤ g (8 + p) ∧ g (8 + p) ≤ 2) ∧ (0 ≤ g (28 + p) ∧ g (28 + p) ≤ 1) ∧ (0 ≤ g (48 + p) ∧ g (48 + p) ≤ 1)
theorem lww_b {g : Int → Int} (h : GB g) {p v : Int} (hp : 0 ≤ p ∧ p < 20) (hv : 0 ≤ v ∧ v ≤ 2) : WB (lww g p v) := by
  intro i
  obtain ⟨h1, h2, h3, h4⟩ := h
  have h4 := h4 p hp.1 hp.2
  unfold lww
  split
  · omega
  split
  · omega
  split
  · omega
  split
  · omega
  split
  · omega
  split
  · omega
  split
  · omega
  split
  · omega
  · omega
abbrev ntr (g : Int → Int) (p v : Int) : Prop := v ≠ 2 ∧ (g (8 + p) = v ∨ g (8 + p) = 2)
abbrev abl (g : Int → Int) (p v : Int) : Prop := (v = 2 ∧ g (48 + p) = 1 ∧ p + 1 < g 0) ∨ ntr g p v
def jud (cls : List Cl) (g : Int → Int) (p v : Int) : Int × Int × Int := cls.foldl (jf v (lww g p v)) (b01 (abl g p v), 0, 1 - b01 (ntr g p v))
abbrev CanR (cls : List Cl) (g : Int → Int) (p v : Int) : Prop := (jud cls g p v).1 ≠ 0 ∧ (jud cls g p v).2.1 = 0
def CstR (cls : List Cl) (g : Int → Int) (p v : Int) : Int := (jud cls g p v).2.2
/-- what a head tells -/
def tf (hd : Int) (w : Int → Int) (x : Int) (cl : Cl) : Int := if cl.1 - 262 = hd ∧ hlb cl w = true ∧ (hd = 0 → eV cl.2.2.1 w ≠ -2000000000) then (if hd = 0 then eV cl.2.2.1 w else 1) else x
theorem jf_tf {v : Int} {w : Int → Int} : ∀ (cls : List Cl) (a b c : Int), (∀ cl ∈ cls, LwK cl) → (a = 0 ∨ a = 1) → cls.foldl (jf v w) (a, b, clp c) = (if v = 2 then a else cls.foldl (tf 1 w) a, cls.foldl (tf 2 w) b, clp (cls.foldl (tf 0 w) c)) := by
  intro cls
  induction cls with
  | nil =>
    intro a b c _ _
    show (a, b, clp c) = (if v = 2 then a else a, b, clp c)
    split <;> rfl
  | cons cl cls ih =>
    intro a b c hk ha
    have hk' := fun x hx => hk x (List.mem_cons_of_mem _ hx)
    have hc := hk cl (List.mem_cons_self ..)
    show cls.foldl (jf v w) (jf v w (a, b, clp c) cl) = (if v = 2 then a else cls.foldl (tf 1 w) (tf 1 w a cl), cls.foldl (tf 2 w) (tf 2 w b cl), clp (cls.foldl (tf 0 w) (tf 0 w c cl)))
    by_cases hl : hlb cl w = true
    · rcases hc with ⟨k1, -⟩ | k1 | k1
      · have e1 : tf 1 w a cl = a := by unfold tf; rw [if_neg (by omega)]
        have e2 : tf 2 w b cl = b := by unfold tf; rw [if_neg (by omega)]
        by_cases hb : eV cl.2.2.1 w = -2000000000
        · have e3 : tf 0 w c cl = c := by unfold tf; rw [if_neg (fun q => q.2.2 rfl hb)]
          have e4 : jf v w (a, b, clp c) cl = (a, b, clp c) := by unfold jf; rw [if_pos hl, if_neg (by omega), if_neg (by omega), if_pos hb]
          rw [e1, e2, e3, e4]; exact ih a b c hk' ha
        · have e3 : tf 0 w c cl = eV cl.2.2.1 w := by unfold tf; rw [if_pos ⟨by omega, hl, fun _ => hb⟩, if_pos rfl]
          have e4 : jf v w (a, b, clp c) cl = (a, b, clp (eV cl.2.2.1 w)) := by unfold jf; rw [if_pos hl, if_neg (by omega), if_neg (by omega), if_neg hb]
          rw [e1, e2, e3, e4]; exact ih a b _ hk' ha
      · have e1 : tf 1 w a cl = 1 := by unfold tf; rw [if_pos ⟨by omega, hl, fun q => by omega⟩, if_neg (by omega)]
        have e2 : tf 2 w b cl = b := by unfold tf; rw [if_neg (by omega)]
        have e3 : tf 0 w c cl = c := by unfold tf; rw [if_neg (by omega)]
        have e4 : jf v w (a, b, clp c) cl = (if a = 0 ∧ v = 2 then 0 else 1, b, clp c) := by unfold jf; rw [if_pos hl, if_neg (by omega), if_pos k1]
        rw [e1, e2, e3, e4]
        by_cases q : v = 2
        · have : (if a = 0 ∧ v = 2 then (0 : Int) else 1) = a := by
            rcases ha with rfl | rfl
            · rw [if_pos ⟨rfl, q⟩]
            · rw [if_neg (by omega)]
          rw [this, ih a b c hk' ha, if_pos q, if_pos q]
        · rw [if_neg (by omega), ih 1 b c hk' (Or.inr rfl), if_neg q, if_neg q]
      · have e1 : tf 1 w a cl = a := by unfold tf; rw [if_neg (by omega)]
        have e2 : tf 2 w b cl = 1 := by unfold tf; rw [if_pos ⟨by omega, hl, fun q => by omega⟩, if_neg (by omega)]
        have e3 : tf 0 w c cl = c := by unfold tf; rw [if_neg (by omega)]
        have e4 : jf v w (a, b, clp c) cl = (a, 1, clp c) := by unfold jf; rw [if_pos hl, if_pos k1]
        rw [e1, e2, e3, e4]; exact ih a 1 c hk' ha
    · have e1 : tf 1 w a cl = a := by unfold tf; rw [if_neg (fun q => hl q.2.1)]
      have e2 : tf 2 w b cl = b := by unfold tf; rw [if_neg (fun q => hl q.2.1)]
      have e3 : tf 0 w c cl = c := by unfold tf; rw [if_neg (fun q => hl q.2.1)]
      have e4 : jf v w (a, b, clp c) cl = (a, b, clp c) := by unfold jf; rw [if_neg hl]
      rw [e1, e2, e3, e4]; exact ih a b c hk' ha
theorem tf_1 {w : Int → Int} (h : Int) (hh : h ≠ 0) : ∀ (cls : List Cl), cls.foldl (tf h w) 1 = 1 := by
  intro cls
  induction cls with
  | nil => rfl
  | cons cl cls ih =>
    show cls.foldl (tf h w) (tf h w 1 cl) = 1
    have : tf h w 1 cl = 1 := by unfold tf; split <;> rfl
    rw [this]; exact ih
theorem tf_01 {w : Int → Int} (h : Int) (hh : h ≠ 0) : ∀ (cls : List Cl) (x : Int), (x = 0 ∨ x = 1) → (cls.foldl (tf h w) x = 0 ∨ cls.foldl (tf h w) x = 1) := by
  intro cls
  induction cls with
  | nil => intro x hx; exact hx
  | cons cl cls ih =>
    intro x hx
    refine ih (tf h w x cl) ?_
    unfold tf
    split
    · exact Or.inr rfl
    · exact hx
theorem clp_b (v : Int) : 0 ≤ clp v ∧ clp v ≤ 99 := by unfold clp; omega
/-- in the reference's words -/
theorem jud_tf {cls : List Cl} {g : Int → Int} {p v : Int} (hk : ∀ cl ∈ cls, LwK cl) : jud cls g p v = (if v = 2 then b01 (abl g p v) else cls.foldl (tf 1 (lww g p v)) (b01 (abl g p v)), cls.foldl (tf 2 (lww g p v)) 0, clp (cls.foldl (tf 0 (lww g p v)) (1 - b01 (ntr g p v)))) := by
  unfold jud
  have h1 := b01_rng (ntr g p v)
  have e : 1 - b01 (ntr g p v) = clp (1 - b01 (ntr g p v)) := by unfold clp; omega
  rw [e, jf_tf cls _ _ _ hk (b01_rng _), ← e]
theorem CstR_b {cls : List Cl} {g : Int → Int} {p v : Int} (hk : ∀ cl ∈ cls, LwK cl) : 0 ≤ CstR cls g p v ∧ CstR cls g p v ≤ 99 := by
  unfold CstR; rw [jud_tf hk]; exact clp_b _
