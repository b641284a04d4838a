/-! RUNNING THE CODE: a run stays within its code, and ends or breaks there -/
theorem mst_cg {I I' : Ins} {w : Int → Int} {x : mQ} (h : I' x.1 = I x.1) : mst I' w x = mst I w x := by
  unfold mst; rw [h]
theorem mst_up {I : Ins} {w : Int → Int} {x y : mQ} (h : mst I w x = some y) : y = x ∨ x.1 < y.1 := by
  obtain ⟨k, st⟩ := x
  unfold mst at h
  simp only [] at h
  split at h
  · split at h
    · cases h; right; show k < k + 1; omega
    · cases h; left; rfl
  split at h
  · split at h
    · cases h; right; show k < k + 1; omega
    · cases h; left; rfl
  cases st with
  | nil => cases h; left; rfl
  | cons u st =>
    simp only [] at h
    split at h
    · cases h; right; show k < k + 1; omega
    by_cases oj : (I k).1 = 11 ∨ (I k).1 = 12
    · rw [if_pos oj] at h
      by_cases q1 : u = (if (I k).1 = 11 then 1 else 0)
      · rw [if_pos q1] at h
        by_cases q2 : k + 1 ≤ (I k).2
        · rw [if_pos q2] at h; cases h; right; show k < (I k).2; omega
        · rw [if_neg q2] at h; cases h; left; rfl
      · rw [if_neg q1] at h; cases h; right; show k < k + 1; omega
    rw [if_neg oj] at h
    cases st with
    | nil => cases h; left; rfl
    | cons v st =>
      simp only [] at h
      split at h
      · cases h; left; rfl
      cases ho : opv (I k).1 v u with
      | none => rw [ho] at h; cases h
      | some z => rw [ho] at h; cases h; right; show k < k + 1; omega
theorem mst_13 {I : Ins} {w : Int → Int} {x : mQ} (h : 13 ≤ (I x.1).1) : mst I w x = some x := by
  obtain ⟨k, st⟩ := x
  unfold mst
  simp only [] at h ⊢
  rw [if_neg (by omega), if_neg (by omega)]
  cases st with
  | nil => rfl
  | cons u st =>
    simp only []
    rw [if_neg (by omega), if_neg (by omega)]
    cases st with
    | nil => rfl
    | cons v st => simp only []; rw [if_pos h]
/-- from the end backwards: what holds behind a step holds ahead of it -/
theorem Seg.sim {I : Ins} {a b : Int} {n : Nat} {e : Ev} (hs : Seg I a b n e) {w : Int → Int} (hw : WB w) {st : List Int} (hl : st.length + n ≤ 50) (G : mQ → Prop) (hstep : ∀ k st y, a ≤ k → k < b → mst I w (k, st) = some y → k < y.1 → G y → G (k, st)) (hbrk : e w = none → ∀ k st, a ≤ k → k < b → mst I w (k, st) = none → G (k, st)) (hend : ∀ v, e w = some v → G (b, v :: st)) : G (a, st) := by
  obtain ⟨h1, h2, h3⟩ := hs
  obtain ⟨I', hI'⟩ : ∃ I' : Ins, I' = fun k => if a ≤ k ∧ k < b then I k else (13, 0) := ⟨_, rfl⟩
  have hin : ∀ k, a ≤ k → k < b → I' k = I k := fun k q1 q2 => by rw [hI']; exact if_pos ⟨q1, q2⟩
  have hout : ∀ x : mQ, ¬ x.1 < b → mst I' w x = some x := fun x q => mst_13 (by rw [hI']; show 13 ≤ (if a ≤ x.1 ∧ x.1 < b then I x.1 else ((13, 0) : Int × Int)).1; rw [if_neg (fun w => q w.2)]; exact Int.le_refl _)
  have r := h3 I' hin w st hw hl
  cases he : e w with
  | some v =>
    rw [he] at r
    obtain ⟨m, hm⟩ := r
    have key : ∀ (m : Nat) (x : mQ), a ≤ x.1 → rn I' w m x = some (b, v :: st) → G x := by
      intro m
      induction m with
      | zero => intro x _ hx; have : x = (b, v :: st) := Option.some.inj hx; rw [this]; exact hend v he
      | succ m ih =>
        intro x hax hx
        unfold rn at hx
        cases hy : mst I' w x with
        | none => rw [hy] at hx; cases hx
        | some y =>
          rw [hy] at hx
          rcases mst_up hy with q | q
          · rw [q] at hx; exact ih x hax hx
          · by_cases hb : x.1 < b
            · rw [mst_cg (hin _ hax hb)] at hy
              exact hstep x.1 x.2 y hax hb hy q (ih y (by omega) hx)
            · rw [hout x hb] at hy
              have : x = y := Option.some.inj hy
              rw [this] at q; omega
    exact key m _ (Int.le_refl _) hm
  | none =>
    rw [he] at r
    obtain ⟨m, hm⟩ := r
    have key : ∀ (m : Nat) (x : mQ), a ≤ x.1 → rn I' w m x = none → G x := by
      intro m
      induction m with
      | zero => intro x _ hx; cases hx
      | succ m ih =>
        intro x hax hx
        unfold rn at hx
        cases hy : mst I' w x with
        | none =>
          by_cases hb : x.1 < b
          · rw [mst_cg (hin _ hax hb)] at hy
            exact hbrk he x.1 x.2 hax hb hy
          · rw [hout x hb] at hy; cases hy
        | some y =>
          rw [hy] at hx
          rcases mst_up hy with q | q
          · rw [q] at hx; exact ih x hax hx
          · by_cases hb : x.1 < b
            · rw [mst_cg (hin _ hax hb)] at hy
              exact hstep x.1 x.2 y hax hb hy q (ih y (by omega) hx)
            · rw [hout x hb] at hy
              have : x = y := Option.some.inj hy
              rw [this] at q; omega
    exact key m _ (Int.le_refl _) hm
/-- a stack in a row, the top first in the list -/
def Stk (g : Int → Int) : List Int → Prop
  | [] => True
  | v :: st => g st.length = v ∧ Stk g st
theorem Stk.fr {g g' : Int → Int} : ∀ {st : List Int}, Stk g st → (∀ i : Int, 0 ≤ i → i < st.length → g' i = g i) → Stk g' st := by
  intro st
  induction st with
  | nil => intro _ _; trivial
  | cons v st ih =>
    intro h hg
    have hl : ((v :: st).length : Int) = st.length + 1 := rfl
    exact ⟨by rw [hg _ (by omega) (by omega)]; exact h.1, ih h.2 (fun i q1 q2 => hg i q1 (by omega))⟩
/-- numbers on it -/
def SB (st : List Int) : Prop := ∀ v ∈ st, -1000000000 ≤ v ∧ v ≤ 1000000001
theorem SB.tl {v : Int} {st : List Int} (h : SB (v :: st)) : SB st := fun x hx => h x (List.mem_cons_of_mem _ hx)
theorem SB.hd {v : Int} {st : List Int} (h : SB (v :: st)) : -1000000000 ≤ v ∧ v ≤ 1000000001 := h v (List.mem_cons_self ..)
theorem SB.cs {v : Int} {st : List Int} (h : SB st) (hv : -1000000000 ≤ v ∧ v ≤ 1000000001) : SB (v :: st) := fun x hx => by
  rcases List.mem_cons.mp hx with rfl | q
  · exact hv
  · exact h x q
/-- combine -/
def ov (op x y : Int) : Int := match opv op x y with
  | none => -2000000000
  | some v => v
theorem mulB {x y : Int} (h1 : -1000000000 ≤ x ∧ x ≤ 1000000001) (h2 : -1000000000 ≤ y ∧ y ≤ 1000000001) : -1000000002000000001 ≤ x * y ∧ x * y ≤ 1000000002000000001 := by
  have a : (x * y).natAbs ≤ 1000000001 * 1000000001 := by
    rw [Int.natAbs_mul]
    exact Nat.mul_le_mul (by omega) (by omega)
  omega
theorem tdivB {x y : Int} (h1 : -1000000000 ≤ x ∧ x ≤ 1000000001) : -1000000001 ≤ x.tdiv y ∧ x.tdiv y ≤ 1000000001 := by
  have a : (x.tdiv y).natAbs ≤ x.natAbs := Int.natAbs_tdiv_le_natAbs x y
  omega
