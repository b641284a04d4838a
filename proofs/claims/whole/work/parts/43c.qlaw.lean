/-! a law: the class's object beside the reference's block -/
def insR (r : Int → Int) : Ins := fun k => dM 0 (r (98 + 2 * k)) (r (99 + 2 * k))
/-- what clauses of laws are -/
def LwK (cl : Cl) : Prop := (cl.1 = 262 ∧ ∃ e, cl.2.2.1 = some e) ∨ cl.1 = 263 ∨ cl.1 = 264
theorem pClause_k {c v : Nat → Int} {Sm Ts : Rdr} {p p' : Nat × Int} {t t' : Nat} {cl : Cl} (h : pClause c v 0 Sm Ts p t = .inr (cl, p', t')) : LwK cl := by
  unfold pClause at h
  split at h
  · next hk =>
    have hk' : c t = 262 ∨ c t = 263 ∨ c t = 264 := by
      unfold knw at hk
      simp only [Int.reduceEq, ↓reduceIte, decide_eq_true_eq, Bool.and_eq_true] at hk
      omega
    split at h
    · cases h
    · next s p1 t1 hs =>
      split at h
      · cases h
      · split at h
        · cases h
        · split at h
          · cases h
          · cases h
            rcases hk' with q | q
            · refine Or.inl ⟨q, ?_⟩
              unfold pSt1 at hs
              rw [q, if_pos (show hasS 262 = true from rfl)] at hs
              unfold lift1 at hs
              split at hs
              · cases hs
              · cases hs; exact ⟨_, rfl⟩
            · exact Or.inr q
  · cases h
theorem pText_k {c : Nat → Int} {Cs : Nat × Int → Nat → pC} (hC : ∀ p t cl p' t', Cs p t = .inr (cl, p', t') → LwK cl) : ∀ (m : Nat) (acc : List Cl) (p : Nat × Int) (t : Nat) (cls : List Cl) (p' : Nat × Int), (∀ cl ∈ acc, LwK cl) → pText c Cs m acc p t = .inr (cls, p') → ∀ cl ∈ cls, LwK cl := by
  intro m
  induction m with
  | zero => intro acc p t cls p' _ h; cases h
  | succ m ih =>
    intro acc p t cls p' ha h
    unfold pText at h
    split at h
    · cases h
    · next cl p1 t1 hc =>
      have hb : ∀ x ∈ acc ++ [cl], LwK x := fun x hx => by
        rcases List.mem_append.mp hx with q | q
        · exact ha x q
        · rw [List.mem_singleton.mp q]; exact hC _ _ _ _ _ hc
      split at h
      · exact ih _ _ _ _ _ hb h
      · split at h
        · cases h; exact hb
        · cases h
theorem pTx_k {b : Int → Int} {n : Int} {cls : List Cl} {p : Nat × Int} (h : pTx b n 0 = .inr (cls, p)) : ∀ cl ∈ cls, LwK cl := by
  unfold pTx at h
  exact pText_k (fun _ _ _ _ _ h => pClause_k h) _ _ _ _ _ _ (fun _ hx => by cases hx) h
def QL : zP := fun S a r => ∃ (cls : List Cl) (m : Nat) (k z : Int), ClsC S a m cls.length (gI S (a + 1)) (gI S (a + 2)) ∧ m ≤ 436 ∧ CTx (insC (gI S (a + 1))) m (gI S (a + 2)) cls ∧ (AllOK cls z ∧ ∀ cl ∈ cls, LwK cl) ∧ (1 ≤ cls.length ∧ cls.length ≤ 12) ∧ (0 ≤ k ∧ k ≤ 400) ∧ r 1 = cls.length ∧ ∀ (j : Nat) (cl : Cl), cls[j]? = some cl → RCl0 (insR r) k (fun i => r (2 + i)) j cl
theorem QL.fr {S T : zS} {a : Nat} {r : Int → Int} (h : QL S a r) (hc : ∀ j : Nat, j < 3 → (∀ i, gI T (a + j) i = gI S (a + j) i) ∧ (∀ i, gQ T (a + j) i = gQ S (a + j) i) ∧ gH T (a + j) = gH S (a + j)) : QL T a r := by
  obtain ⟨cls, m, k, z, ⟨h1, h2, ⟨h3, h4⟩, ⟨h5, h6⟩, ⟨h7, h8⟩, h9, h10⟩, h11, h12, h13⟩ := h
  have e0 := hc 0 (by omega)
  rw [Nat.add_zero] at e0
  obtain ⟨q0, r0, s0⟩ := e0
  obtain ⟨q1, r1, s1⟩ := hc 1 (by omega)
  obtain ⟨q2, r2, s2⟩ := hc 2 (by omega)
  have f1 : gI T (a + 1) = gI S (a + 1) := funext q1
  have f2 : gI T (a + 2) = gI S (a + 2) := funext q2
  refine ⟨cls, m, k, z, ⟨h1, by rw [s0]; exact h2, ⟨by rw [s1]; exact h3, by rw [s2]; exact h4⟩, ⟨by rw [r0]; exact h5, by rw [r0]; exact h6⟩, ⟨by rw [q0]; exact h7, by rw [q0]; exact h8⟩, fun _ _ _ => rfl, fun _ _ _ => rfl⟩, h11, by rw [f1, f2]; exact h12, h13⟩
theorem QL.good {S : zS} {a : Nat} {r : Int → Int} (h : QL S a r) : 114 ≤ a ∧ gH S a = some (.inl 1) ∧ ∀ j : Nat, 1 ≤ j → j < 3 → ∃ n, gH S (a + j) = some (.inr (0, n)) := by
  obtain ⟨cls, m, k, z, ⟨h1, h2, ⟨h3, h4⟩, -⟩, -⟩ := h
  refine ⟨h1, h2, fun j j1 j2 => ?_⟩
  rcases (show j = 1 ∨ j = 2 by omega) with rfl | rfl
  · exact ⟨_, h3⟩
  · exact ⟨_, h4⟩
/-- what is made is one -/
theorem QL.mk {S : zS} {a m : Nat} {g h : Int → Int} {cls : List Cl} {z k : Int} {r : Int → Int} (hC : ClsC S a m cls.length g h) (hm : m ≤ 436) (hT : CTx (insC g) m h cls) (hO : AllOK cls z ∧ ∀ cl ∈ cls, LwK cl) (hl : 1 ≤ cls.length ∧ cls.length ≤ 12) (hk : 0 ≤ k ∧ k ≤ 400) (h1 : r 1 = cls.length) (hR : ∀ (j : Nat) (cl : Cl), cls[j]? = some cl → RCl0 (insR r) k (fun i => r (2 + i)) j cl) : QL S a r := by
  obtain ⟨c1, c2, c3, c4, c5, c6, c7⟩ := hC
  refine ⟨cls, m, k, z, ⟨c1, c2, c3, c4, c5, fun _ _ _ => rfl, fun _ _ _ => rfl⟩, hm, fun j cl hj => ?_, hO, hl, hk, h1, hR⟩
  have hj2 := (List.getElem?_eq_some_iff.mp hj).1
  refine (hT j cl hj).cg (fun i q1 q2 => ?_) (Int.le_refl _) (fun i q1 q2 => c7 i (by omega) (by omega))
  unfold insC; rw [c6 i q1 q2]
