/-! the class: flowThrough, one node and all of them -/
section
variable {X : zX} {d : Nat} {a m : Nat} {E : Ln} {F : Nat → Lg}
theorem GN.rng {k nx ot : Int → Int} {j : Nat} (h : GN k nx ot F j) : (0 ≤ k j ∧ k j ≤ 5) ∧ (k j ≠ 0 → 0 ≤ nx j ∧ nx j < j) ∧ (k j = 5 → 0 ≤ ot j ∧ ot j < j) := by
  rcases h with ⟨rfl, h1, -⟩ | ⟨x, x0, x3, kx, q, q1, nq, -⟩ | ⟨k5, q, r, q1, r1, nq, nr, -⟩
  · exact ⟨by rw [show ((0 : Nat) : Int) = 0 from rfl] at *; omega, fun q => absurd h1 q, fun q => by rw [h1] at q; omega⟩
  · exact ⟨by omega, fun _ => by omega, fun q => by omega⟩
  · exact ⟨by omega, fun _ => by omega, fun _ => by omega⟩
theorem clS_fr {S : zS} {j : Int} : FrFw S (clS S j) := FrFw.I.tr FrFw.R
theorem spS_fr {S : zS} {q : Int} {P : Int32} : FrFw S (spS S q P) := FrFw.I
theorem nxS_fr {S : zS} {j : Int} {C : Int32} : FrFw S (nxS S a j C) := by
  unfold nxS
  split
  · exact spS_fr
  split
  · exact spS_fr
  split
  · exact spS_fr
  split
  · exact spS_fr
  split
  · exact spS_fr.tr spS_fr
  · exact FrFw.rf
theorem nxS_r {S : zS} {j : Int} {C : Int32} : gI (nxS S a j C) 58 10 = gI S 58 10 := by
  have h : ∀ (S : zS) (q : Int) (P : Int32), gI (spS S q P) 58 10 = gI S 58 10 := fun S q P => by unfold spS; rw [gI_sI, if_neg (by omega)]
  unfold nxS
  split
  · exact h _ _ _
  split
  · exact h _ _ _
  split
  · exact h _ _ _
  split
  · exact h _ _ _
  split
  · rw [h, h]
  · rfl
/-- what the places are behind it -/
theorem nxS_q {S : zS} (hL : BtL S E) {k nx ot : Int → Int} (hk : gI S (a + 1) = k) (hnx : gI S (a + 2) = nx) (hot : gI S (a + 3) = ot) {j : Nat} (hN : GN k nx ot F j) {C : Int32} {P : Int → Prop} (hC : ∀ p : Int, (∃ n : Nat, p = n ∧ n < 32 ∧ C.toBitVec.getLsbD n = true) ↔ cle E P p) (i : Nat) (p : Int) : Qs (nxS S a j C) i p ↔ Qs S i p ∨ giv E k nx ot j P i p := by
  obtain ⟨h1, h2, h3, h4, h5⟩ := hL
  obtain ⟨r1, r2, r3⟩ := hN.rng
  have can : ∀ u : Int, 0 ≤ u → u ≤ 2 → ∀ i : Nat, i < 32 → ((Int32.ofInt (gI S 62 u)).toBitVec.getLsbD i = true ↔ E.2.2 i u) := h4
  unfold nxS
  rw [hk, hnx, hot]
  -- one that it gives to
  have one : ∀ (D : Int32) (R : Int → Prop), k j ≠ 0 → (∀ p : Int, (∃ n : Nat, p = n ∧ n < 32 ∧ D.toBitVec.getLsbD n = true) ↔ R p) → (giv E k nx ot j P i p ↔ (nx j = i ∧ R p)) → (Qs (spS S (nx j) D) i p ↔ Qs S i p ∨ giv E k nx ot j P i p) := by
    intro D R q0 hR hg
    obtain ⟨w1, w2⟩ := r2 q0
    obtain ⟨q, hq⟩ : ∃ q : Nat, nx j = q := ⟨(nx j).toNat, by omega⟩
    rw [hq, Qs_sp, hg, hR p, hq]
    constructor
    · rintro (w | ⟨w, v⟩)
      · exact Or.inl w
      · exact Or.inr ⟨by rw [w], v⟩
    · rintro (w | ⟨w, v⟩)
      · exact Or.inl w
      · exact Or.inr ⟨by omega, v⟩
  have stp : ∀ (x v : Int), (0 ≤ x ∧ x < 3) → k j = x + 1 → (∀ u, gos x u ↔ u = v) → (giv E k nx ot j P i p ↔ (nx j = i ∧ (p - 1 < E.1 ∧ E.2.2 (p - 1) v ∧ cle E P (p - 1)))) := by
    intro x v hx hkx hg
    unfold giv
    constructor
    · rintro (⟨y, y1, y2, y3, y4⟩ | ⟨y, -⟩)
      · have : y = x := by omega
        subst this
        rcases y4 with ⟨w, -⟩ | ⟨-, u, w1, w2, w3, w4⟩
        · omega
        · have := (hg u).mp w3
          subst this
          exact ⟨y3, w1, w2, w4⟩
      · omega
    · rintro ⟨y3, w1, w2, w4⟩
      exact Or.inl ⟨x, by omega, hkx, y3, Or.inr ⟨by omega, v, w1, w2, (hg v).mpr rfl, w4⟩⟩
  by_cases q1 : k j = 1
  · rw [if_pos q1]
    exact one _ _ (by omega) (fun p => giv_sh hC (can 1 (by omega) (by omega)) h5 h2.2) (stp 0 1 (by omega) (by omega) (fun u => by unfold gos; omega))
  rw [if_neg q1]
  by_cases q2 : k j = 2
  · rw [if_pos q2]
    exact one _ _ (by omega) (fun p => giv_sh hC (can 0 (by omega) (by omega)) h5 h2.2) (stp 1 0 (by omega) (by omega) (fun u => by unfold gos; omega))
  rw [if_neg q2]
  by_cases q3 : k j = 3
  · rw [if_pos q3]
    -- any: two ways at once
    refine one _ (fun p => (p - 1 < E.1 ∧ E.2.2 (p - 1) 0 ∧ cle E P (p - 1)) ∨ (p - 1 < E.1 ∧ E.2.2 (p - 1) 1 ∧ cle E P (p - 1))) (by omega) (fun p => ?_) ?_
    · rw [← giv_sh hC (can 0 (by omega) (by omega)) h5 h2.2, ← giv_sh hC (can 1 (by omega) (by omega)) h5 h2.2]
      constructor
      · rintro ⟨n, w1, w2, w3⟩
        obtain ⟨v1, v2, v3⟩ := (sh_bit w2).mp w3
        rw [or_b, Bool.or_eq_true] at v3
        rcases v3 with v | v
        · exact Or.inl ⟨n, w1, w2, (sh_bit w2).mpr ⟨v1, v2, v⟩⟩
        · exact Or.inr ⟨n, w1, w2, (sh_bit w2).mpr ⟨v1, v2, v⟩⟩
      · rintro (⟨n, w1, w2, w3⟩ | ⟨n, w1, w2, w3⟩)
        · obtain ⟨v1, v2, v3⟩ := (sh_bit w2).mp w3
          exact ⟨n, w1, w2, (sh_bit w2).mpr ⟨v1, v2, by rw [or_b, Bool.or_eq_true]; exact Or.inl v3⟩⟩
        · obtain ⟨v1, v2, v3⟩ := (sh_bit w2).mp w3
          exact ⟨n, w1, w2, (sh_bit w2).mpr ⟨v1, v2, by rw [or_b, Bool.or_eq_true]; exact Or.inr v3⟩⟩
    · unfold giv
      constructor
      · rintro (⟨y, y1, y2, y3, y4⟩ | ⟨y, -⟩)
        · have : y = 2 := by omega
          subst this
          rcases y4 with ⟨w, -⟩ | ⟨-, u, w1, w2, w3, w4⟩
          · omega
          · have : u = 0 ∨ u = 1 := by unfold gos at w3; omega
            rcases this with rfl | rfl
            · exact ⟨y3, Or.inl ⟨w1, w2, w4⟩⟩
            · exact ⟨y3, Or.inr ⟨w1, w2, w4⟩⟩
        · omega
      · rintro ⟨y3, ⟨w1, w2, w4⟩ | ⟨w1, w2, w4⟩⟩
        · exact Or.inl ⟨2, by omega, by omega, y3, Or.inr ⟨by omega, 0, w1, w2, by unfold gos; omega, w4⟩⟩
        · exact Or.inl ⟨2, by omega, by omega, y3, Or.inr ⟨by omega, 1, w1, w2, by unfold gos; omega, w4⟩⟩
  rw [if_neg q3]
  by_cases q4 : k j = 4
  · rw [if_pos q4]
    refine one _ (fun p => E.2.1 p ∧ cle E P p) (by omega) (fun p => ?_) ?_
    · constructor
      · rintro ⟨n, rfl, w2, w3⟩
        rw [and_b, Bool.and_eq_true] at w3
        exact ⟨(h3 n w2).mp w3.2, (hC n).mp ⟨n, rfl, w2, w3.1⟩⟩
      · rintro ⟨w1, w2⟩
        obtain ⟨n, rfl, v2, v3⟩ := (hC p).mpr w2
        exact ⟨n, rfl, v2, by rw [and_b, Bool.and_eq_true]; exact ⟨v3, (h3 n v2).mpr w1⟩⟩
    · unfold giv
      constructor
      · rintro (⟨y, y1, y2, y3, y4⟩ | ⟨y, -⟩)
        · have : y = 3 := by omega
          subst this
          rcases y4 with ⟨-, w1, w2⟩ | ⟨w, -⟩
          · exact ⟨y3, w1, w2⟩
          · exact absurd rfl w
        · omega
      · rintro ⟨y3, w1, w2⟩
        exact Or.inl ⟨3, by omega, by omega, y3, Or.inl ⟨rfl, w1, w2⟩⟩
  rw [if_neg q4]
  by_cases q5 : k j = 5
  · rw [if_pos q5]
    obtain ⟨w1, w2⟩ := r2 (by omega)
    obtain ⟨w3, w4⟩ := r3 q5
    obtain ⟨q, hq⟩ : ∃ q : Nat, nx j = q := ⟨(nx j).toNat, by omega⟩
    obtain ⟨r, hr⟩ : ∃ r : Nat, ot j = r := ⟨(ot j).toNat, by omega⟩
    rw [hq, hr, Qs_sp, Qs_sp, hC p]
    unfold giv
    constructor
    · rintro ((w | ⟨rfl, v⟩) | ⟨rfl, v⟩)
      · exact Or.inl w
      · exact Or.inr (Or.inr ⟨q5, Or.inl hq, v⟩)
      · exact Or.inr (Or.inr ⟨q5, Or.inr hr, v⟩)
    · rintro (w | ⟨y, y1, y2, -⟩ | ⟨-, v1, v2⟩)
      · exact Or.inl (Or.inl w)
      · omega
      · rcases v1 with v1 | v1
        · exact Or.inl (Or.inr ⟨by omega, v2⟩)
        · exact Or.inr ⟨by omega, v2⟩
  · rw [if_neg q5]
    constructor
    · intro w; exact Or.inl w
    · rintro (w | ⟨y, y1, y2, -⟩ | ⟨v, -⟩)
      · exact w
      · omega
      · exact absurd v q5
/-- one node -/
theorem t51 (hd : 0 < d) {S : zS} (hM : MtC S a m) (hL : BtL S E) {k nx ot : Int → Int} (hk : gI S (a + 1) = k) (hnx : gI S (a + 2) = nx) (hot : gI S (a + 3) = ot) {j : Nat} (hj : j < m) (hN : GN k nx ot F j) {st : Int} {x4 x5 : Option Value} : ∃ (S' : zS) (y4 y5 : Option Value), z_ev X d (51, 26, L51 a st j x4 x5, [], mk S) = z_ev X d (51, 26, L51 a st ((j : Int) - 1) y4 y5, [], mk S') ∧ FrFw S S' ∧ (∀ p, Qs S' j p ↔ cle E (Qs S j) p) ∧ (∀ i p, i < j → (Qs S' i p ↔ Qs S i p ∨ giv E k nx ot j (Qs S j) i p)) ∧ (∀ i p, j < i → (Qs S' i p ↔ Qs S i p)) ∧ (∀ n : Nat, n < 32 → (bt (gI S' 58 10) n = true ↔ bt (gI S 58 10) n = true ∨ Qs S' j n)) := by
  have hm := hM.2.2.2.2
  have ha := hM.1
  obtain ⟨r1, r2, r3⟩ := hN.rng
  have f1 := clS_fr (S := S) (j := (j : Int))
  have e1 : ∀ b, 114 ≤ b → gI (clS S j) b = gI S b := fun b hb => funext fun i => f1.2.1 b i (by omega) (by omega)
  have k1 : gI (clS S j) (a + 1) = k := by rw [e1 _ (by omega)]; exact hk
  have k2 : gI (clS S j) (a + 2) = nx := by rw [e1 _ (by omega)]; exact hnx
  have k3 : gI (clS S j) (a + 3) = ot := by rw [e1 _ (by omega)]; exact hot
  have hL1 := hL.fr f1
  have hC := fun p : Int => Qs_cl hL (j := j) (p := p)
  have hq := nxS_q hL1 k1 k2 k3 hN (C := clI S j) (P := Qs S j) hC
  have h65 : ∀ i : Nat, i ≠ j → gI (clS S j) 65 i = gI S 65 i := fun i q => by
    unfold clS; rw [gI_sI, if_neg (by omega), gI_sI, if_neg (by omega)]
  have h65j : gI (clS S j) 65 j = (clI S j).toInt := by
    unfold clS; rw [gI_sI, if_neg (by omega), gI_sI, if_pos ⟨rfl, rfl⟩, i32_in]
  have qo : ∀ i p, i ≠ j → (Qs (clS S j) i p ↔ Qs S i p) := fun i p q => by unfold Qs; rw [h65 i q]
  have qj : ∀ p, Qs (clS S j) j p ↔ cle E (Qs S j) p := fun p => by
    rw [← hC p]; unfold Qs; rw [h65j]
    constructor
    · rintro ⟨n, w1, w2, w3⟩; rw [bt_to] at w3; exact ⟨n, w1, w2, w3⟩
    · rintro ⟨n, w1, w2, w3⟩; exact ⟨n, w1, w2, by rw [bt_to]; exact w3⟩
  have ngiv : ∀ i p, j ≤ i → ¬ giv E k nx ot j (Qs S j) i p := fun i p hi w => by
    rcases w with ⟨y, y1, y2, y3, -⟩ | ⟨y, w, -⟩
    · have := r2 (by omega); omega
    · have := r2 (by omega); have := r3 y; omega
  have qj' : ∀ p, Qs (nxS (clS S j) a j (clI S j)) j p ↔ cle E (Qs S j) p := fun p => by
    rw [hq j p, qj p]
    exact ⟨fun w => w.elim id (fun w => absurd w (ngiv j p (Nat.le_refl _))), Or.inl⟩
  refine ⟨nxS (clS S j) a j (clI S j), some (.int (clI S j)), vI (nx j), ?_, f1.tr nxS_fr, qj', fun i p hi => by rw [hq i p, qo i p (by omega)], fun i p hi => ?_, fun n hn => ?_⟩
  · rw [h51 hd hM (by omega)]
    have := g51 (X := X) (d := d) (S := clS S j) (a := a) (m := m) hd (hM.fr f1.1) (j := j) (by omega) (st := st) (C := clI S j) (by rw [k1]; exact r1) (by rw [k1, k2]; intro w; have := r2 w; omega) (by rw [k1, k3]; intro w; have := r3 w; omega)
    rw [k1, k2] at this
    rw [hnx, hk]
    exact this
  · rw [hq i p, qo i p (by omega)]
    exact ⟨fun w => w.elim id (fun w => absurd w (ngiv i p (by omega))), Or.inl⟩
  · rw [nxS_r]
    have e10 : gI (clS S j) 58 10 = (Int32.ofInt (gI S 58 10) ||| clI S j).toInt := by
      unfold clS; rw [gI_sI, if_pos ⟨rfl, rfl⟩, i32_in]
    rw [e10, bt_to, or_b, Bool.or_eq_true, qj' n, ← hC n]
    constructor
    · rintro (w | w)
      · exact Or.inl w
      · exact Or.inr ⟨n, rfl, hn, w⟩
    · rintro (w | ⟨n', w1, w2, w3⟩)
      · exact Or.inl w
      · have : n' = n := by omega
        subst this
        exact Or.inr w3
end
