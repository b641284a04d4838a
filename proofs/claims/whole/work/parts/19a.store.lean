/-! THE STORE: whole numbers by cell and place, references, what is made later; the interpreter's memory out of it -/
abbrev zS : Type := (Nat → Int → Int32) × (Nat → Int → Int64) × (Nat → Int → Option Nat) × (Nat → Option (Nat ⊕ Nat × Nat)) × Nat × Nat
def gI (S : zS) (a : Nat) (i : Int) : Int := (S.1 a i).toInt
def gJ (S : zS) (a : Nat) (i : Int) : Int := (S.2.1 a i).toInt
def gQ (S : zS) (a : Nat) (i : Int) : Option Nat := S.2.2.1 a i
def gH (S : zS) (a : Nat) : Option (Nat ⊕ Nat × Nat) := S.2.2.2.1 a
def gN (S : zS) : Nat := S.2.2.2.2.1
def gW (S : zS) : Nat := S.2.2.2.2.2
def sI (S : zS) (a : Nat) (i x : Int) : zS := (fun b j => if b = a ∧ j = i then Int32.ofInt x else S.1 b j, S.2)
def sJ (S : zS) (a : Nat) (i x : Int) : zS := (S.1, fun b j => if b = a ∧ j = i then Int64.ofInt x else S.2.1 b j, S.2.2)
def sQ (S : zS) (a : Nat) (i : Int) (x : Option Nat) : zS := (S.1, S.2.1, fun b j => if b = a ∧ j = i then x else S.2.2.1 b j, S.2.2.2)
/-- a row anew, from one place on up to another -/
def sF (S : zS) (a : Nat) (lo hi : Int) (f : Int → Int) : zS := (fun b j => if b = a ∧ lo ≤ j ∧ j < hi then Int32.ofInt (f j) else S.1 b j, S.2)
def sG (S : zS) (a : Nat) (lo hi : Int) (f : Int → Int) : zS := (S.1, fun b j => if b = a ∧ lo ≤ j ∧ j < hi then Int64.ofInt (f j) else S.2.1 b j, S.2.2)
/-- a whole row -/
def sA (S : zS) (a : Nat) (f : Int → Int) : zS := (fun b j => if b = a then Int32.ofInt (f j) else S.1 b j, S.2)
/-- a new cell -/
def sN (S : zS) (h : Nat ⊕ Nat × Nat) (n : Nat) : zS := (fun b j => if b = gN S then 0 else S.1 b j, S.2.1, fun b j => if b = gN S then none else S.2.2.1 b j, fun b => if b = gN S then some h else S.2.2.2.1 b, gN S + 1, gW S + n)
/-- a number as 32 bits tell it -/
def i32 (z : Int) : Int := z.bmod 4294967296
def i64 (z : Int) : Int := z.bmod 18446744073709551616
theorem i32_id {z : Int} (h1 : -2147483648 ≤ z) (h2 : z < 2147483648) : i32 z = z := by
  unfold i32; rw [Int.bmod_eq_of_le (by omega) (by omega)]
theorem i64_id {z : Int} (h1 : -9223372036854775808 ≤ z) (h2 : z < 9223372036854775808) : i64 z = z := by
  unfold i64; rw [Int.bmod_eq_of_le (by omega) (by omega)]
theorem i32_to (z : Int) : (Int32.ofInt z).toInt = i32 z := by rw [Int32.toInt_ofInt]; rfl
theorem i64_to (z : Int) : (Int64.ofInt z).toInt = i64 z := by rw [Int64.toInt_ofInt]; rfl
theorem i32_of (z : Int) : Int32.ofInt (i32 z) = Int32.ofInt z := by rw [← i32_to, Int32.ofInt_toInt]
theorem i64_of (z : Int) : Int64.ofInt (i64 z) = Int64.ofInt z := by rw [← i64_to, Int64.ofInt_toInt]
theorem i_toInt (x : Int32) : Int32.ofInt x.toInt = x := Int32.ofInt_toInt x
theorem j_toInt (x : Int64) : Int64.ofInt x.toInt = x := Int64.ofInt_toInt x
theorem i32_in (x : Int32) : i32 x.toInt = x.toInt := by rw [← i32_to, i_toInt]
theorem i64_in (x : Int64) : i64 x.toInt = x.toInt := by rw [← i64_to, j_toInt]
theorem i32_i32 (z : Int) : i32 (i32 z) = i32 z := by rw [← i32_to z, i32_in]
theorem i32_gI (S : zS) (a : Nat) (i : Int) : i32 (gI S a i) = gI S a i := i32_in _
theorem i64_gJ (S : zS) (a : Nat) (i : Int) : i64 (gJ S a i) = gJ S a i := i64_in _
theorem i32_rng (z : Int) : -2147483648 ≤ i32 z ∧ i32 z < 2147483648 := by
  unfold i32
  have h1 := Int.le_bmod (x := z) (m := 4294967296) (by decide)
  have h2 := Int.bmod_lt (x := z) (m := 4294967296) (by decide)
  omega
theorem i64_rng (z : Int) : -9223372036854775808 ≤ i64 z ∧ i64 z < 9223372036854775808 := by
  unfold i64
  have h1 := Int.le_bmod (x := z) (m := 18446744073709551616) (by decide)
  have h2 := Int.bmod_lt (x := z) (m := 18446744073709551616) (by decide)
  omega
theorem gI_rng (S : zS) (a : Nat) (i : Int) : -2147483648 ≤ gI S a i ∧ gI S a i < 2147483648 := by rw [← i32_gI]; exact i32_rng _
theorem gJ_rng (S : zS) (a : Nat) (i : Int) : -9223372036854775808 ≤ gJ S a i ∧ gJ S a i < 9223372036854775808 := by rw [← i64_gJ]; exact i64_rng _
theorem sI_i32 (S : zS) (a : Nat) (i x : Int) : sI S a i (i32 x) = sI S a i x := by unfold sI; rw [i32_of]
theorem sJ_i64 (S : zS) (a : Nat) (i x : Int) : sJ S a i (i64 x) = sJ S a i x := by unfold sJ; rw [i64_of]
section
variable (S : zS) (a b : Nat) (i j x lo hi : Int) (f : Int → Int) (r : Option Nat)
theorem gI_sI : gI (sI S a i x) b j = if b = a ∧ j = i then i32 x else gI S b j := by
  show (if b = a ∧ j = i then Int32.ofInt x else S.1 b j).toInt = _
  split
  · exact i32_to x
  · rfl
theorem gJ_sJ : gJ (sJ S a i x) b j = if b = a ∧ j = i then i64 x else gJ S b j := by
  show (if b = a ∧ j = i then Int64.ofInt x else S.2.1 b j).toInt = _
  split
  · exact i64_to x
  · rfl
theorem gI_sF : gI (sF S a lo hi f) b j = if b = a ∧ lo ≤ j ∧ j < hi then i32 (f j) else gI S b j := by
  show (if b = a ∧ lo ≤ j ∧ j < hi then Int32.ofInt (f j) else S.1 b j).toInt = _
  split
  · exact i32_to _
  · rfl
theorem gJ_sG : gJ (sG S a lo hi f) b j = if b = a ∧ lo ≤ j ∧ j < hi then i64 (f j) else gJ S b j := by
  show (if b = a ∧ lo ≤ j ∧ j < hi then Int64.ofInt (f j) else S.2.1 b j).toInt = _
  split
  · exact i64_to _
  · rfl
theorem gI_sA : gI (sA S a f) b j = if b = a then i32 (f j) else gI S b j := by
  show (if b = a then Int32.ofInt (f j) else S.1 b j).toInt = _
  split
  · exact i32_to _
  · rfl
theorem gJ_sA : gJ (sA S a f) b j = gJ S b j := rfl
theorem gQ_sA : gQ (sA S a f) b j = gQ S b j := rfl
theorem gH_sA : gH (sA S a f) b = gH S b := rfl
theorem gN_sA : gN (sA S a f) = gN S := rfl
theorem gW_sA : gW (sA S a f) = gW S := rfl
theorem gI_sJ : gI (sJ S a i x) b j = gI S b j := rfl
theorem gI_sG : gI (sG S a lo hi f) b j = gI S b j := rfl
theorem gI_sQ : gI (sQ S a i r) b j = gI S b j := rfl
theorem gJ_sI : gJ (sI S a i x) b j = gJ S b j := rfl
theorem gJ_sF : gJ (sF S a lo hi f) b j = gJ S b j := rfl
theorem gJ_sQ : gJ (sQ S a i r) b j = gJ S b j := rfl
theorem gQ_sI : gQ (sI S a i x) b j = gQ S b j := rfl
theorem gQ_sJ : gQ (sJ S a i x) b j = gQ S b j := rfl
theorem gQ_sF : gQ (sF S a lo hi f) b j = gQ S b j := rfl
theorem gQ_sG : gQ (sG S a lo hi f) b j = gQ S b j := rfl
theorem gQ_sQ : gQ (sQ S a i r) b j = if b = a ∧ j = i then r else gQ S b j := rfl
theorem gH_sI : gH (sI S a i x) b = gH S b := rfl
theorem gH_sJ : gH (sJ S a i x) b = gH S b := rfl
theorem gH_sF : gH (sF S a lo hi f) b = gH S b := rfl
theorem gH_sG : gH (sG S a lo hi f) b = gH S b := rfl
theorem gH_sQ : gH (sQ S a i r) b = gH S b := rfl
theorem gN_sI : gN (sI S a i x) = gN S := rfl
theorem gN_sJ : gN (sJ S a i x) = gN S := rfl
theorem gN_sF : gN (sF S a lo hi f) = gN S := rfl
theorem gN_sG : gN (sG S a lo hi f) = gN S := rfl
theorem gN_sQ : gN (sQ S a i r) = gN S := rfl
theorem gW_sI : gW (sI S a i x) = gW S := rfl
theorem gW_sJ : gW (sJ S a i x) = gW S := rfl
theorem gW_sF : gW (sF S a lo hi f) = gW S := rfl
theorem gW_sG : gW (sG S a lo hi f) = gW S := rfl
theorem gW_sQ : gW (sQ S a i r) = gW S := rfl
end
/-- stores that tell the same are the same -/
theorem zS_ext {S T : zS} (h1 : ∀ a i, gI S a i = gI T a i) (h2 : ∀ a i, gJ S a i = gJ T a i) (h3 : ∀ a i, gQ S a i = gQ T a i) (h4 : ∀ a, gH S a = gH T a) (h5 : gN S = gN T) (h6 : gW S = gW T) : S = T := by
  refine Prod.ext (funext fun a => funext fun i => Int32.toInt_inj.mp (h1 a i)) (Prod.ext (funext fun a => funext fun i => Int64.toInt_inj.mp (h2 a i)) (Prod.ext (funext fun a => funext fun i => h3 a i) (Prod.ext (funext h4) (Prod.ext h5 h6))))
theorem sF_nil {S : zS} {a : Nat} {lo hi : Int} {f : Int → Int} (h : hi ≤ lo) : sF S a lo hi f = S := by
  refine zS_ext (fun b j => ?_) (fun _ _ => rfl) (fun _ _ => rfl) (fun _ => rfl) rfl rfl
  rw [gI_sF, if_neg (by omega)]
theorem sF_step {S : zS} {a : Nat} {lo hi x : Int} {f : Int → Int} (h : lo < hi) (hx : x = f lo) : sF (sI S a lo x) a (lo + 1) hi f = sF S a lo hi f := by
  subst hx
  refine zS_ext (fun b j => ?_) (fun _ _ => rfl) (fun _ _ => rfl) (fun _ => rfl) rfl rfl
  rw [gI_sF, gI_sF, gI_sI]
  by_cases q : b = a ∧ j = lo
  · obtain ⟨rfl, rfl⟩ := q
    rw [if_neg (by omega), if_pos ⟨rfl, rfl⟩, if_pos (by omega)]
  · rw [if_neg q]
    by_cases q2 : b = a ∧ lo ≤ j ∧ j < hi
    · rw [if_pos q2, if_pos (by obtain ⟨h1, h2, h3⟩ := q2; refine ⟨h1, ?_, h3⟩; have : j ≠ lo := fun h => q ⟨h1, h⟩; omega)]
    · rw [if_neg q2, if_neg (by intro h; apply q2; exact ⟨h.1, by omega, h.2.2⟩)]
theorem sG_nil {S : zS} {a : Nat} {lo hi : Int} {f : Int → Int} (h : hi ≤ lo) : sG S a lo hi f = S := by
  refine zS_ext (fun _ _ => rfl) (fun b j => ?_) (fun _ _ => rfl) (fun _ => rfl) rfl rfl
  rw [gJ_sG, if_neg (by omega)]
theorem sG_step {S : zS} {a : Nat} {lo hi x : Int} {f : Int → Int} (h : lo < hi) (hx : x = f lo) : sG (sJ S a lo x) a (lo + 1) hi f = sG S a lo hi f := by
  subst hx
  refine zS_ext (fun _ _ => rfl) (fun b j => ?_) (fun _ _ => rfl) (fun _ => rfl) rfl rfl
  rw [gJ_sG, gJ_sG, gJ_sJ]
  by_cases q : b = a ∧ j = lo
  · obtain ⟨rfl, rfl⟩ := q
    rw [if_neg (by omega), if_pos ⟨rfl, rfl⟩, if_pos (by omega)]
  · rw [if_neg q]
    by_cases q2 : b = a ∧ lo ≤ j ∧ j < hi
    · rw [if_pos q2, if_pos (by obtain ⟨h1, h2, h3⟩ := q2; refine ⟨h1, ?_, h3⟩; have : j ≠ lo := fun h => q ⟨h1, h⟩; omega)]
    · rw [if_neg q2, if_neg (by intro h; apply q2; exact ⟨h.1, by omega, h.2.2⟩)]
/-- a field: 0 a number, 1 a long, 2 a reference; others: that cell, for good -/
def mkV (S : zS) (a j c : Nat) : Value := match c with
  | 0 => .int (S.1 a (j : Int))
  | 1 => .long (S.2.1 a (j : Int))
  | 2 => (match gQ S a (j : Int) with
    | some r => .ref r
    | none => .null)
  | n + 3 => .ref (n + 3)
def mkL (S : zS) (a : Nat) : Nat → List Nat → List Value
  | _, [] => []
  | j, c :: r => mkV S a j c :: mkL S a (j + 1) r
def mkA (S : zS) (a t : Nat) : (Nat → Int32) ⊕ (Nat → Int64) ⊕ (Nat → UInt32) ⊕ (Nat → UInt64) ⊕ (Nat → Option Nat) := match t with
  | 0 => .inl (fun i => S.1 a (i : Int))
  | 1 => .inr (.inl (fun i => S.2.1 a (i : Int)))
  | 2 => .inl (fun i => S.1 a (i : Int))
  | _ + 3 => .inr (.inr (.inr (.inr (fun i => gQ S a (i : Int)))))
abbrev zD : Type := Nat × List Nat ⊕ Nat × Nat
def mkC (S : zS) (a : Nat) (e : zD) : va_E := match e with
  | .inl (ci, cs) => .inr (ci, mkL S a 0 cs)
  | .inr (t, n) => .inl (t, n, mkA S a t)
def zdynk (ci : Nat) : List Nat := match ci with
  | 1 => [2, 2, 0, 0, 0]
  | 3 => [2, 2, 2, 0, 0, 0]
  | 7 => [2, 2, 2, 2, 2, 2, 0, 0, 0, 0, 0]
  | _ => []
def zfix : List (Option zD) := [none,
  none,
  none,
  none,
  some (.inl (10, [5, 12, 19, 26, 27, 31, 35, 37, 41, 52, 56, 58, 68, 69, 70, 71, 0, 0, 0, 0])),
  some (.inl (7, [6, 7, 8, 9, 10, 11, 0, 0, 0, 0, 0])),
  some (.inr (0, 60)),
  some (.inr (0, 3)),
  some (.inr (0, 6)),
  some (.inr (0, 6)),
  some (.inr (3, 6)),
  some (.inr (4, 6)),
  some (.inl (7, [13, 14, 15, 16, 17, 18, 0, 0, 0, 0, 0])),
  some (.inr (0, 60)),
  some (.inr (0, 3)),
  some (.inr (0, 6)),
  some (.inr (0, 6)),
  some (.inr (3, 6)),
  some (.inr (4, 6)),
  some (.inl (7, [20, 21, 22, 23, 24, 25, 0, 0, 0, 0, 0])),
  some (.inr (0, 60)),
  some (.inr (0, 3)),
  some (.inr (0, 6)),
  some (.inr (0, 6)),
  some (.inr (3, 6)),
  some (.inr (4, 6)),
  some (.inr (5, 2)),
  some (.inl (2, [28, 29, 30, 0])),
  some (.inr (0, 16)),
  some (.inr (0, 16)),
  some (.inr (0, 16)),
  some (.inl (2, [32, 33, 34, 0])),
  some (.inr (0, 16)),
  some (.inr (0, 16)),
  some (.inr (0, 16)),
  some (.inl (8, [36, 0])),
  some (.inr (0, 400)),
  some (.inl (9, [38, 39, 40, 0, 0, 0])),
  some (.inr (0, 401)),
  some (.inr (0, 401)),
  some (.inr (0, 401)),
  some (.inl (4, [42, 43, 44, 45, 46, 47, 48, 49, 50, 51, 0])),
  some (.inr (0, 402)),
  some (.inr (0, 402)),
  some (.inr (0, 402)),
  some (.inr (0, 402)),
  some (.inr (0, 402)),
  some (.inr (0, 400)),
  some (.inr (0, 400)),
  some (.inr (0, 400)),
  some (.inr (0, 400)),
  some (.inr (0, 400)),
  some (.inl (0, [53, 0, 0])),
  some (.inl (1, [54, 55, 0, 0, 0])),
  some (.inr (0, 436)),
  some (.inr (0, 60)),
  some (.inl (5, [57])),
  some (.inr (0, 51)),
  some (.inl (6, [59, 61, 62, 63, 64, 65, 2, 2, 0, 0, 0])),
  some (.inl (5, [60])),
  some (.inr (0, 51)),
  some (.inr (0, 8)),
  some (.inr (0, 3)),
  some (.inr (0, 60)),
  some (.inr (1, 60)),
  some (.inr (0, 400)),
  some (.inr (1, 400)),
  some (.inr (1, 400)),
  some (.inr (0, 30)),
  some (.inr (1, 6)),
  some (.inr (1, 20)),
  some (.inr (0, 5)),
  some (.inl (11, [0, 0, 73, 74, 75, 76, 77, 78, 0, 79, 80, 0, 81, 0, 0, 0, 0, 1, 0, 0, 0, 0, 82, 0, 83, 84, 0, 85, 86, 0, 0, 87, 88, 89, 0, 90, 91, 92, 0, 1, 0, 1, 93, 94, 0, 95, 96, 0, 97, 98, 99, 0, 100, 101, 102, 103, 104, 105, 106, 107, 108, 109, 110, 111, 112, 0, 0, 0, 0, 1, 113, 0])),
  some (.inr (0, 7)),
  some (.inr (0, 7892)),
  some (.inr (0, 15784)),
  some (.inr (2, 2)),
  some (.inr (0, 1134)),
  some (.inr (0, 16)),
  some (.inr (0, 1008)),
  some (.inr (0, 16)),
  some (.inr (0, 400)),
  some (.inr (0, 96)),
  some (.inr (0, 400)),
  some (.inr (0, 400)),
  some (.inr (0, 400)),
  some (.inr (0, 400)),
  some (.inr (1, 8)),
  some (.inr (1, 6)),
  some (.inr (1, 3)),
  some (.inr (1, 13)),
  some (.inr (1, 13)),
  some (.inr (1, 400)),
  some (.inr (1, 4)),
  some (.inr (0, 900)),
  some (.inr (0, 9)),
  some (.inr (0, 9)),
  some (.inr (0, 900)),
  some (.inr (0, 400)),
  some (.inr (0, 201)),
  some (.inr (2, 40401)),
  some (.inr (2, 201)),
  some (.inr (2, 201)),
  some (.inr (0, 60)),
  some (.inr (0, 4221)),
  some (.inr (2, 201)),
  some (.inr (2, 201)),
  some (.inr (0, 20)),
  some (.inr (2, 4221)),
  some (.inr (0, 120)),
  some (.inr (1, 21)),
  some (.inr (1, 4)),
  some (.inr (0, 96)),
  some (.inr (0, 63))]
def zdes (S : zS) (a : Nat) : Option zD := match Nat.blt a 114 with
  | true => (match z_get zfix a with
    | some e => e
    | none => none)
  | false => (match gH S a with
    | some (.inl ci) => some (.inl (ci, zdynk ci))
    | some (.inr q) => some (.inr q)
    | none => none)
def mk (S : zS) : zM := (gN S, gW S, fun a => (zdes S a).map (mkC S a))
theorem zdes_sI (S : zS) (a b : Nat) (i x : Int) : zdes (sI S a i x) b = zdes S b := rfl
theorem zdes_sJ (S : zS) (a b : Nat) (i x : Int) : zdes (sJ S a i x) b = zdes S b := rfl
theorem zdes_sF (S : zS) (a b : Nat) (lo hi : Int) (f : Int → Int) : zdes (sF S a lo hi f) b = zdes S b := rfl
theorem zdes_sG (S : zS) (a b : Nat) (lo hi : Int) (f : Int → Int) : zdes (sG S a lo hi f) b = zdes S b := rfl
theorem zdes_sQ (S : zS) (a b : Nat) (i : Int) (r : Option Nat) : zdes (sQ S a i r) b = zdes S b := rfl
theorem mk_at {S : zS} {a : Nat} {e : zD} (h : zdes S a = some e) : (mk S).2.2 a = some (mkC S a e) := by
  show (zdes S a).map (mkC S a) = _
  rw [h]; rfl
theorem mkL_get (S : zS) (a : Nat) : ∀ (cs : List Nat) (k j : Nat), (mkL S a k cs)[j]? = (z_get cs j).map (mkV S a (k + j)) := by
  intro cs
  induction cs with
  | nil => intro k j; rfl
  | cons c r ih =>
    intro k j
    cases j with
    | zero => rfl
    | succ j =>
      show (mkL S a (k + 1) r)[j]? = (z_get r j).map _
      rw [ih, show k + 1 + j = k + (j + 1) by omega]
theorem mkL_len (S : zS) (a : Nat) : ∀ (cs : List Nat) (k : Nat), (mkL S a k cs).length = cs.length := by
  intro cs
  induction cs with
  | nil => intro k; rfl
  | cons c r ih => intro k; show (mkL S a (k + 1) r).length + 1 = r.length + 1; rw [ih]
/-- a cell is what its places tell -/
theorem mkL_congr {S T : zS} {b c : Nat} : ∀ (cs : List Nat) (k : Nat), (∀ n : Nat, k ≤ n → n < k + cs.length → ∀ e, z_get cs (n - k) = some e → mkV S b n e = mkV T c n e) → mkL S b k cs = mkL T c k cs := by
  intro cs
  induction cs with
  | nil => intro k _; rfl
  | cons e r ih =>
    intro k h
    show _ :: _ = _ :: _
    rw [h k (Nat.le_refl _) (by simp) e (by rw [Nat.sub_self]; rfl)]
    rw [ih (k + 1) (fun n h1 h2 e he => h n (by omega) (by simp only [List.length_cons]; omega) e (by rw [show n - k = (n - (k + 1)) + 1 by omega]; exact he))]
theorem mkC_congr {S T : zS} {b : Nat} (h1 : ∀ i, S.1 b i = T.1 b i) (h2 : ∀ i, S.2.1 b i = T.2.1 b i) (h3 : ∀ i, gQ S b i = gQ T b i) (e : zD) : mkC S b e = mkC T b e := by
  match e with
  | .inl (ci, cs) =>
    show Sum.inr (ci, mkL S b 0 cs) = Sum.inr (ci, mkL T b 0 cs)
    rw [mkL_congr cs 0 (T := T) (c := b)]
    intro n _ _ e _
    match e with
    | 0 => show Value.int _ = Value.int _; rw [h1]
    | 1 => show Value.long _ = Value.long _; rw [h2]
    | 2 =>
      show (match gQ S b (n : Int) with | some r => Value.ref r | none => Value.null) = (match gQ T b (n : Int) with | some r => Value.ref r | none => Value.null)
      rw [h3]
    | n + 3 => rfl
  | .inr (0, n) => show Sum.inl (0, n, Sum.inl _) = Sum.inl (0, n, Sum.inl _); rw [funext fun k : Nat => h1 k]
  | .inr (1, n) => show Sum.inl (1, n, Sum.inr (Sum.inl _)) = Sum.inl (1, n, Sum.inr (Sum.inl _)); rw [funext fun k : Nat => h2 k]
  | .inr (2, n) => show Sum.inl (2, n, Sum.inl _) = Sum.inl (2, n, Sum.inl _); rw [funext fun k : Nat => h1 k]
  | .inr (t + 3, n) => show Sum.inl (t + 3, n, Sum.inr (Sum.inr (Sum.inr (Sum.inr _)))) = Sum.inl (t + 3, n, Sum.inr (Sum.inr (Sum.inr (Sum.inr _)))); rw [funext fun k : Nat => h3 k]
/-- only one cell has changed -/
theorem mk_one {S T : zS} {a : Nat} {e : zD} {e' : va_E} (h : zdes S a = some e) (hd : ∀ b, zdes T b = zdes S b) (hN : gN T = gN S) (hW : gW T = gW S) (h1 : ∀ b, b ≠ a → ∀ i, T.1 b i = S.1 b i) (h2 : ∀ b, b ≠ a → ∀ i, T.2.1 b i = S.2.1 b i) (h3 : ∀ b, b ≠ a → ∀ i, gQ T b i = gQ S b i) (he : mkC T a e = e') : mk T = z_upd (mk S) a e' := by
  refine Prod.ext hN (Prod.ext hW (funext fun b => ?_))
  show (zdes T b).map (mkC T b) = if b = a then some e' else (zdes S b).map (mkC S b)
  rw [hd]
  split
  · next q => subst q; rw [h]; exact congrArg some he
  · next q => rw [funext (mkC_congr (h1 b q) (h2 b q) (h3 b q))]
/-- one field has changed -/
theorem mkL_set {S T : zS} {a : Nat} {v : Value} : ∀ (cs : List Nat) (k j c : Nat), z_get cs j = some c → mkV T a (k + j) c = v → (∀ n : Nat, n ≠ k + j → ∀ e, mkV T a n e = mkV S a n e) → mkL T a k cs = (mkL S a k cs).set j v := by
  intro cs
  induction cs with
  | nil => intro k j c h; cases h
  | cons c' r ih =>
    intro k j c h hv hn
    cases j with
    | zero =>
      cases h
      show mkV T a k c' :: mkL T a (k + 1) r = v :: mkL S a (k + 1) r
      rw [mkL_congr r (k + 1) (T := S) (c := a) (fun n h1 _ e _ => hn n (by omega) e)]
      rw [show mkV T a k c' = v from hv]
    | succ j =>
      show mkV T a k c' :: mkL T a (k + 1) r = mkV S a k c' :: (mkL S a (k + 1) r).set j v
      rw [hn k (by omega) c', ih (k + 1) j c h (by rw [show k + 1 + j = k + (j + 1) by omega]; exact hv) (fun n h1 e => hn n (by omega) e)]
theorem sI_ne {S : zS} {a b : Nat} {i j x : Int} (h : b ≠ a ∨ j ≠ i) : (sI S a i x).1 b j = S.1 b j := if_neg (by rintro ⟨h1, h2⟩; rcases h with h | h; exact h h1; exact h h2)
theorem sJ_ne {S : zS} {a b : Nat} {i j x : Int} (h : b ≠ a ∨ j ≠ i) : (sJ S a i x).2.1 b j = S.2.1 b j := if_neg (by rintro ⟨h1, h2⟩; rcases h with h | h; exact h h1; exact h h2)
theorem sQ_ne {S : zS} {a b : Nat} {i j : Int} {x : Option Nat} (h : b ≠ a ∨ j ≠ i) : gQ (sQ S a i x) b j = gQ S b j := if_neg (by rintro ⟨h1, h2⟩; rcases h with h | h; exact h h1; exact h h2)
theorem mkV_sI {S : zS} {a : Nat} {i x : Int} {n : Nat} (h : (n : Int) ≠ i) (e : Nat) : mkV (sI S a i x) a n e = mkV S a n e := by
  match e with
  | 0 => show Value.int _ = Value.int _; rw [sI_ne (Or.inr h)]
  | 1 => rfl
  | 2 => rfl
  | n + 3 => rfl
theorem mkV_sJ {S : zS} {a : Nat} {i x : Int} {n : Nat} (h : (n : Int) ≠ i) (e : Nat) : mkV (sJ S a i x) a n e = mkV S a n e := by
  match e with
  | 0 => rfl
  | 1 => show Value.long _ = Value.long _; rw [sJ_ne (Or.inr h)]
  | 2 => rfl
  | n + 3 => rfl
theorem mkV_sQ {S : zS} {a : Nat} {i : Int} {x : Option Nat} {n : Nat} (h : (n : Int) ≠ i) (e : Nat) : mkV (sQ S a i x) a n e = mkV S a n e := by
  match e with
  | 0 => rfl
  | 1 => rfl
  | 2 =>
    show (match gQ (sQ S a i x) a (n : Int) with | some r => Value.ref r | none => Value.null) = (match gQ S a (n : Int) with | some r => Value.ref r | none => Value.null)
    rw [sQ_ne (Or.inr h)]
  | n + 3 => rfl
theorem z_get_len {α : Type} : ∀ (l : List α) (i : Nat) (x : α), z_get l i = some x → i < l.length := by
  intro l
  induction l with
  | nil => intro i x h; cases h
  | cons y r ih =>
    intro i x h
    cases i with
    | zero => exact Nat.zero_lt_succ _
    | succ i => exact Nat.succ_lt_succ (ih i x h)
section
variable {ρ : Type} {X : zX} {S : zS} {a ci j t n : Nat} {cs : List Nat} {x : Int32} {y : Int64}
theorem L_fldI {k : Int32 → Option ρ} (h : zdes S a = some (.inl (ci, cs))) (hj : z_get cs j = some 0) : z_fldI none (mk S) a ci j k = k (Int32.ofInt (gI S a (j : Int))) := by
  rw [show Int32.ofInt (gI S a (j : Int)) = S.1 a (j : Int) from i_toInt _]
  refine e_fldI (fs := mkL S a 0 cs) (mk_at h) ?_
  rw [mkL_get, hj, Nat.zero_add]; rfl
theorem L_fldJ {k : Int64 → Option ρ} (h : zdes S a = some (.inl (ci, cs))) (hj : z_get cs j = some 1) : z_fldJ none (mk S) a ci j k = k (Int64.ofInt (gJ S a (j : Int))) := by
  rw [show Int64.ofInt (gJ S a (j : Int)) = S.2.1 a (j : Int) from j_toInt _]
  refine e_fldJ (fs := mkL S a 0 cs) (mk_at h) ?_
  rw [mkL_get, hj, Nat.zero_add]; rfl
theorem L_fldA {r : Nat} {k : Nat → Option ρ} (h : zdes S a = some (.inl (ci, cs))) (hj : z_get cs j = some (r + 3)) : z_fldA none (mk S) a ci j k = k (r + 3) := by
  refine e_fldA (fs := mkL S a 0 cs) (mk_at h) ?_
  rw [mkL_get, hj]; rfl
theorem L_fldQ {r : Nat} {k : Nat → Option ρ} (h : zdes S a = some (.inl (ci, cs))) (hj : z_get cs j = some 2) (hr : gQ S a (j : Int) = some r) : z_fldA none (mk S) a ci j k = k r := by
  refine e_fldA (fs := mkL S a 0 cs) (mk_at h) ?_
  rw [mkL_get, hj, Nat.zero_add]
  show some (match gQ S a (j : Int) with | some r => Value.ref r | none => Value.null) = _
  rw [hr]
theorem L_obj {k : Option ρ} (h : zdes S a = some (.inl (ci, cs))) : z_obj none (mk S) (.ref a) ci k = k := e_obj (mk_at h)
theorem G_setI {k : zM → Option ρ} (h : zdes S a = some (.inl (ci, cs))) (hj : z_get cs j = some 0) : z_fset none (mk S) a ci j (.int x) k = k (mk (sI S a (j : Int) x.toInt)) := by
  rw [e_fset (mk_at h) (by rw [mkL_len]; exact z_get_len _ _ _ hj)]
  refine congrArg k (mk_one (T := sI S a (j : Int) x.toInt) h (fun _ => rfl) rfl rfl (fun b q i => sI_ne (Or.inl q)) (fun _ _ _ => rfl) (fun _ _ _ => rfl) ?_).symm
  show Sum.inr (ci, mkL _ a 0 cs) = Sum.inr (ci, _)
  rw [mkL_set cs 0 j 0 hj (v := .int x) (S := S) (by rw [Nat.zero_add]; show Value.int (if a = a ∧ (j : Int) = (j : Int) then Int32.ofInt x.toInt else _) = _; rw [if_pos ⟨rfl, rfl⟩, i_toInt]) (fun n hn e => mkV_sI (by omega) e)]
theorem G_setJ {k : zM → Option ρ} (h : zdes S a = some (.inl (ci, cs))) (hj : z_get cs j = some 1) : z_fset none (mk S) a ci j (.long y) k = k (mk (sJ S a (j : Int) y.toInt)) := by
  rw [e_fset (mk_at h) (by rw [mkL_len]; exact z_get_len _ _ _ hj)]
  refine congrArg k (mk_one (T := sJ S a (j : Int) y.toInt) h (fun _ => rfl) rfl rfl (fun _ _ _ => rfl) (fun b q i => sJ_ne (Or.inl q)) (fun _ _ _ => rfl) ?_).symm
  show Sum.inr (ci, mkL _ a 0 cs) = Sum.inr (ci, _)
  rw [mkL_set cs 0 j 1 hj (v := .long y) (S := S) (by rw [Nat.zero_add]; show Value.long (if a = a ∧ (j : Int) = (j : Int) then Int64.ofInt y.toInt else _) = _; rw [if_pos ⟨rfl, rfl⟩, j_toInt]) (fun n hn e => mkV_sJ (by omega) e)]
theorem L_setQ {r : Nat} {k : zM → Option ρ} (h : zdes S a = some (.inl (ci, cs))) (hj : z_get cs j = some 2) : z_fset none (mk S) a ci j (.ref r) k = k (mk (sQ S a (j : Int) (some r))) := by
  rw [e_fset (mk_at h) (by rw [mkL_len]; exact z_get_len _ _ _ hj)]
  refine congrArg k (mk_one (T := sQ S a (j : Int) (some r)) h (fun _ => rfl) rfl rfl (fun _ _ _ => rfl) (fun _ _ _ => rfl) (fun b q i => sQ_ne (Or.inl q)) ?_).symm
  show Sum.inr (ci, mkL _ a 0 cs) = Sum.inr (ci, _)
  rw [mkL_set cs 0 j 2 hj (v := .ref r) (S := S) (by
    rw [Nat.zero_add]
    show (match gQ (sQ S a (j : Int) (some r)) a (j : Int) with | some r => Value.ref r | none => Value.null) = _
    rw [gQ_sQ, if_pos ⟨rfl, rfl⟩]) (fun n hn e => mkV_sQ (by omega) e)]
end
theorem i_nat (z : Int) : (Int32.ofInt z).toNatClampNeg = (i32 z).toNat := by
  rw [← i32_to]; rfl
theorem i_lt (a b : Int) : (Int32.ofInt a < Int32.ofInt b) = (i32 a < i32 b) := by
  rw [Int32.lt_iff_toInt_lt, i32_to, i32_to]
theorem i_le (a b : Int) : (Int32.ofInt a ≤ Int32.ofInt b) = (i32 a ≤ i32 b) := by
  rw [Int32.le_iff_toInt_le, i32_to, i32_to]
theorem i_eq (a b : Int) : (Int32.ofInt a = Int32.ofInt b) = (i32 a = i32 b) := by
  rw [← Int32.toInt_inj, i32_to, i32_to]
theorem z_in_of (e : Int) (n : Nat) : (z_in (Int32.ofInt e) n) = (0 ≤ i32 e ∧ i32 e < n) := by
  unfold z_in
  rw [show (0 : Int32) = Int32.ofInt 0 from rfl, i_le, i_nat, i32_id (z := 0) (by decide) (by decide)]
  apply propext
  constructor
  · intro ⟨h1, h2⟩; exact ⟨h1, by omega⟩
  · intro ⟨h1, h2⟩; exact ⟨h1, by omega⟩
theorem z_in_to (i : Int32) (n : Nat) : (z_in i n) = (0 ≤ i.toInt ∧ i.toInt < n) := by
  have := z_in_of i.toInt n
  rwa [i_toInt, i32_in] at this
theorem i_cast {i : Int32} (h : 0 ≤ i.toInt) : ((i.toNatClampNeg : Nat) : Int) = i.toInt := by
  show ((i.toInt.toNat : Nat) : Int) = _
  omega
theorem i_bool01 (x : Int) (hx : x = 0 ∨ x = 1) : Int32.ofInt x = 0 ∨ Int32.ofInt x = 1 := by
  rcases hx with rfl | rfl
  · exact Or.inl rfl
  · exact Or.inr rfl
section
variable {ρ : Type} {X : zX} {S : zS} {a ci j t n : Nat} {cs : List Nat} {i x : Int32} {y : Int64}
theorem G_ald {k : Int32 → Option ρ} (h4 : 4 ≤ a) (ht : t = 0 ∨ t = 2) (h : zdes S a = some (.inr (t, n))) : z_ald X none (mk S) t a i k = if 0 ≤ i.toInt ∧ i.toInt < n then k (Int32.ofInt (gI S a i.toInt)) else none := by
  have hs : z_stat X a = none := by
    unfold z_stat
    split
    · omega
    · omega
    · omega
    · rfl
  have hm : mkC S a (.inr (t, n)) = .inl (t, n, .inl (fun i => S.1 a (i : Int))) := by
    rcases ht with rfl | rfl <;> rfl
  simp only [z_ald, hs, mk_at h, hm, z_in_to, true_and, gI, i_toInt]
  split
  · next q => rw [i_cast q.1]
  · rfl
theorem G_jld {k : Int64 → Option ρ} (h : zdes S a = some (.inr (1, n))) : z_jld none (mk S) a i k = if 0 ≤ i.toInt ∧ i.toInt < n then k (Int64.ofInt (gJ S a i.toInt)) else none := by
  have hm : mkC S a (.inr (1, n)) = .inl (1, n, .inr (.inl (fun i => S.2.1 a (i : Int)))) := rfl
  simp only [z_jld, mk_at h, hm, z_in_to, true_and, gJ, j_toInt]
  split
  · next q => rw [i_cast q.1]
  · rfl
theorem L_len {k : Int32 → Option ρ} (h4 : 4 ≤ a) (ht : t < 6) (h : zdes S a = some (.inr (t, n))) : z_len X none (mk S) a k = k (Int32.ofInt n) := by
  rw [e_len h4 ht (x := mkA S a t) (mk_at h)]; rfl
theorem L_ar0 {k : Option ρ} (h : zdes S a = some (.inr (0, n))) : z_ar0 none (mk S) a k = k := by
  have hm : mkC S a (.inr (0, n)) = .inl (0, n, mkA S a 0) := rfl
  simp only [z_ar0, mk_at h, hm, if_true]
theorem upd_of {f : Nat → Int32} (he : 0 ≤ i.toInt) : (fun k : Nat => if (k : Int) = i.toInt then x else f k) = upd f i.toNatClampNeg x := by
  funext k
  have := i_cast he
  unfold upd
  by_cases q : k = i.toNatClampNeg
  · rw [if_pos q, if_pos (by rw [q]; exact this)]
  · rw [if_neg q, if_neg (by intro h; apply q; omega)]
theorem updL_of {f : Nat → Int64} (he : 0 ≤ i.toInt) : (fun k : Nat => if (k : Int) = i.toInt then y else f k) = vp_updL f i.toNatClampNeg y := by
  funext k
  have := i_cast he
  unfold vp_updL
  by_cases q : k = i.toNatClampNeg
  · rw [if_pos q, if_pos (by rw [q]; exact this)]
  · rw [if_neg q, if_neg (by intro h; apply q; omega)]
theorem G_ast {k : zM → Option ρ} (h : zdes S a = some (.inr (0, n))) : z_ast none (mk S) 0 a i x k = if 0 ≤ i.toInt ∧ i.toInt < n then k (mk (sI S a i.toInt x.toInt)) else none := by
  have hm : mkC S a (.inr (0, n)) = .inl (0, n, .inl (fun i => S.1 a (i : Int))) := rfl
  simp only [z_ast, mk_at h, hm, z_in_to, true_and]
  by_cases q : 0 ≤ i.toInt ∧ i.toInt < n
  · rw [if_pos ⟨q, fun h => by cases h⟩, if_pos q]
    refine congrArg k (mk_one (T := sI S a i.toInt x.toInt) h (fun _ => rfl) rfl rfl (fun b q i => sI_ne (Or.inl q)) (fun _ _ _ => rfl) (fun _ _ _ => rfl) ?_).symm
    show Sum.inl (0, n, Sum.inl (fun k : Nat => if a = a ∧ (k : Int) = i.toInt then Int32.ofInt x.toInt else S.1 a (k : Int))) = _
    rw [← upd_of (f := fun i => S.1 a (i : Int)) q.1]
    simp only [true_and, i_toInt]
  · rw [if_neg (fun h => q h.1), if_neg q]
theorem G_bst {k : zM → Option ρ} (h : zdes S a = some (.inr (2, n))) : z_ast none (mk S) 2 a i x k = if (0 ≤ i.toInt ∧ i.toInt < n) ∧ (x.toInt = 0 ∨ x.toInt = 1) then k (mk (sI S a i.toInt x.toInt)) else none := by
  have hm : mkC S a (.inr (2, n)) = .inl (2, n, .inl (fun i => S.1 a (i : Int))) := rfl
  simp only [z_ast, mk_at h, hm, z_in_to, true_and]
  by_cases q : (0 ≤ i.toInt ∧ i.toInt < n) ∧ (x.toInt = 0 ∨ x.toInt = 1)
  · rw [if_pos ⟨q.1, fun _ => by have := i_bool01 x.toInt q.2; rwa [i_toInt] at this⟩, if_pos q]
    refine congrArg k (mk_one (T := sI S a i.toInt x.toInt) h (fun _ => rfl) rfl rfl (fun b q i => sI_ne (Or.inl q)) (fun _ _ _ => rfl) (fun _ _ _ => rfl) ?_).symm
    show Sum.inl (2, n, Sum.inl (fun k : Nat => if a = a ∧ (k : Int) = i.toInt then Int32.ofInt x.toInt else S.1 a (k : Int))) = _
    rw [← upd_of (f := fun i => S.1 a (i : Int)) q.1.1]
    simp only [true_and, i_toInt]
  · rw [if_neg q, if_neg]
    rintro ⟨q1, q2⟩
    refine q ⟨q1, ?_⟩
    rcases q2 trivial with e | e
    · left; rw [e]; rfl
    · right; rw [e]; rfl
theorem G_jst {k : zM → Option ρ} (h : zdes S a = some (.inr (1, n))) : z_jst none (mk S) a i y k = if 0 ≤ i.toInt ∧ i.toInt < n then k (mk (sJ S a i.toInt y.toInt)) else none := by
  have hm : mkC S a (.inr (1, n)) = .inl (1, n, .inr (.inl (fun i => S.2.1 a (i : Int)))) := rfl
  simp only [z_jst, mk_at h, hm, z_in_to, true_and]
  by_cases q : 0 ≤ i.toInt ∧ i.toInt < n
  · rw [if_pos q, if_pos q]
    refine congrArg k (mk_one (T := sJ S a i.toInt y.toInt) h (fun _ => rfl) rfl rfl (fun _ _ _ => rfl) (fun b q i => sJ_ne (Or.inl q)) (fun _ _ _ => rfl) ?_).symm
    show Sum.inl (1, n, Sum.inr (Sum.inl (fun k : Nat => if a = a ∧ (k : Int) = i.toInt then Int64.ofInt y.toInt else S.2.1 a (k : Int)))) = _
    rw [← updL_of (f := fun i => S.2.1 a (i : Int)) q.1]
    simp only [true_and, j_toInt]
  · rw [if_neg q, if_neg q]
end
section
variable (a b : Int)
theorem i_add : Int32.ofInt a + Int32.ofInt b = Int32.ofInt (a + b) := (Int32.ofInt_add a b).symm
theorem i_sub : Int32.ofInt a - Int32.ofInt b = Int32.ofInt (a - b) := (Int32.ofInt_sub a b).symm
theorem i_mul : Int32.ofInt a * Int32.ofInt b = Int32.ofInt (a * b) := (Int32.ofInt_mul a b).symm
theorem i_neg : -Int32.ofInt a = Int32.ofInt (-a) := (Int32.ofInt_neg a).symm
theorem i_lit (n : Nat) : (OfNat.ofNat n : Int32) = Int32.ofInt (OfNat.ofNat n) := by
  show Int32.ofNat n = Int32.ofInt (n : Int)
  rw [Int32.ofInt_eq_ofNat]
theorem i_ofNat (n : Nat) : Int32.ofNat n = Int32.ofInt (n : Int) := by rw [Int32.ofInt_eq_ofNat]
theorem i_div : Int32.ofInt a / Int32.ofInt b = Int32.ofInt ((i32 a).tdiv (i32 b)) := by
  rw [← Int32.toInt_inj, Int32.toInt_div, i32_to, i32_to, i32_to]; rfl
theorem j_add : Int64.ofInt a + Int64.ofInt b = Int64.ofInt (a + b) := (Int64.ofInt_add a b).symm
theorem j_sub : Int64.ofInt a - Int64.ofInt b = Int64.ofInt (a - b) := (Int64.ofInt_sub a b).symm
theorem j_mul : Int64.ofInt a * Int64.ofInt b = Int64.ofInt (a * b) := (Int64.ofInt_mul a b).symm
theorem j_neg : -Int64.ofInt a = Int64.ofInt (-a) := (Int64.ofInt_neg a).symm
theorem j_lit (n : Nat) : (OfNat.ofNat n : Int64) = Int64.ofInt (OfNat.ofNat n) := by
  show Int64.ofNat n = Int64.ofInt (n : Int)
  rw [Int64.ofInt_eq_ofNat]
theorem j_div : Int64.ofInt a / Int64.ofInt b = Int64.ofInt ((i64 a).tdiv (i64 b)) := by
  rw [← Int64.toInt_inj, Int64.toInt_div, i64_to, i64_to, i64_to]; rfl
theorem j_eq : (Int64.ofInt a = Int64.ofInt b) = (i64 a = i64 b) := by
  rw [← Int64.toInt_inj, i64_to, i64_to]
theorem ij : (Int32.ofInt a).toInt64 = Int64.ofInt (i32 a) := by
  rw [← Int64.toInt_inj, Int32.toInt_toInt64, i32_to, i64_to, i64_id]
  · have := i32_rng a; omega
  · have := i32_rng a; omega
theorem ji : (Int64.ofInt a).toInt32 = Int32.ofInt a := by
  rw [← Int32.toInt_inj, Int64.toInt_toInt32, i64_to, i32_to]
  unfold i32 i64
  exact Int.bmod_bmod_of_dvd (by decide)
end
section
variable {a b : Int}
theorem t_lt (h : a < b) : (a < b) = True := eq_true h
theorem f_lt (h : b ≤ a) : (a < b) = False := eq_false (by omega)
theorem t_le (h : a ≤ b) : (a ≤ b) = True := eq_true h
theorem f_le (h : b < a) : (a ≤ b) = False := eq_false (by omega)
theorem t_eq (h : a = b) : (a = b) = True := eq_true h
theorem f_eq (h : a < b ∨ b < a) : (a = b) = False := eq_false (by omega)
end
