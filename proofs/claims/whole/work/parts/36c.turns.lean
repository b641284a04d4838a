/-! weigh, ends, meets, undo in pairs -/
/-- one change on both sides: the class's, then the reference's, then what is told -/
theorem Inv.turned {P Q : zP} (hG : Good P Q) {S S1 T1 F : zS} (hI : Inv P Q S) (hL : LH P Q S1 T1) (hC : FrC S S1) (hM : FrM S T1) (hD : Dyn S F) (f1 : ∀ a i, a ≠ 4 → a ≤ 70 → gI F a i = gI S1 a i) (f2 : ∀ a i, a = 74 ∨ a = 77 ∨ a = 78 → gI F a i = gI T1 a i) (f3 : gI F 72 8 = gI T1 72 8) (f4 : ∀ a i, 71 ≤ a → a ≠ 74 → a ≠ 77 → a ≠ 78 → ¬ (a = 72 ∧ (i = 0 ∨ i = 1 ∨ i = 8)) → gI F a i = gI S a i) (f5 : ∀ i, i ≠ 16 → gI F 4 i = gI S 4 i) (f6 : gI F 4 16 = 0 ∧ gI F 72 1 = 0) (hJ : ∀ a i, gJ F a i = gJ S a i) (hQ : ∀ a i, gQ F a i = gQ S a i) : Inv P Q F := by
  obtain ⟨m1, m2, m3, m4, m5, m6, m7, m8, m9⟩ := id hI.2.2.2.1
  refine hI.lh hG hD (fun a i q1 q2 q3 => ?_) hJ hQ ?_ ?_
  · simp only [List.mem_cons, List.not_mem_nil, or_false, not_or] at q1
    by_cases w : a ≤ 70
    · rw [f1 a i (by omega) w, hC.2.1 a i (by omega) (by omega) (by omega)]
    · by_cases w2 : a = 74
      · rw [f2 a i (by omega), hM.2.1 a i (by omega) (by omega) (by omega) (by omega)]
      · exact f4 a i (by omega) w2 (by omega) (by omega) (by omega)
  · unfold MsRel
    rw [f5 17 (by omega), f5 18 (by omega), f5 19 (by omega), f6.1, f6.2, f4 72 18 (by omega) (by omega) (by omega) (by omega) (by omega), f4 72 11 (by omega) (by omega) (by omega) (by omega) (by omega), f4 72 67 (by omega) (by omega) (by omega) (by omega) (by omega)]
    have k1 : ∀ i, gI F 71 i = gI S 71 i := fun i => f4 71 i (by omega) (by omega) (by omega) (by omega) (by omega)
    have k3 : ∀ i, gI F 73 i = gI S 73 i := fun i => f4 73 i (by omega) (by omega) (by omega) (by omega) (by omega)
    simp only [k1, k3]
    exact ⟨m1, m2, m3, trivial, m5, m6, m7, m8, m9⟩
  · refine hL.fr hG ?_ (fun a i q => f1 a i (by omega) (by omega)) (fun a i _ => by rw [hQ, hC.2.2.2]) f2 f3
    exact ⟨fun a ha => ⟨fun i => by rw [(hD.1 a ha).1, (hC.1.1 a ha).1], fun i => by rw [(hD.1 a ha).2.1, (hC.1.1 a ha).2.1], by rw [(hD.1 a ha).2.2, (hC.1.1 a ha).2.2]⟩, by rw [hD.2.1, hC.1.2.1], by rw [hD.2.2, hC.1.2.2]⟩
theorem p_weigh {P Q : zP} (hG : Good P Q) {X : zX} {p w : Int} (h1 : r32 p) (h2 : r32 w) {S : zS} {d : Nat} (hd : 200 ≤ d) (hI : Inv P Q S) : PairAt P Q X 110 245 [.int (Int32.ofInt p), .int (Int32.ofInt w)] S d := by
  obtain ⟨b1, b2, b3, b4, b5, b6, b7, b8, b9, b10⟩ := id hI.1
  simp only [Nat.reduceAdd] at b7
  have hH := hI.2.1.1
  by_cases q : 0 ≤ w ∧ w ≤ 2
  · by_cases q2 : 0 ≤ p ∧ p < gI S 74 0
    · have bp := b7 p q2.1 (by omega)
      by_cases q3 : gI S 74 (8 + p) = w
      · refine pair_rf hG hI (v := -3) (by omega) (e110 (X := X) (by omega) p w (-3) S (by omega) (by omega) (fun X d hd => e142c hd p w q (by omega) (by omega) (by omega))) ((e245 (X := X) (by omega) p w (-3) (sI (cR S (-3)) 72 0 0) (by omega) (fun X d hd => e244c hd p w q ?_ ?_ ?_)))
        · rw [gI_sI, if_neg (by omega), cR_I (by decide) (by decide)]; omega
        · rw [gI_sI, if_neg (by omega), cR_I (by decide) (by decide)]; omega
        · rw [gI_sI, if_neg (by omega), cR_I (by decide) (by decide)]; omega
      · obtain ⟨hL, hC, hM⟩ := (LH.of hI).weigh hG q q2 (v := gI S 74 (8 + p)) rfl
        generalize hS1 : addS (sI S 6 (3 * p) w) 0 p (gI S 74 (8 + p)) = S1 at hL hC
        have k1 : ∀ a i, a = 74 ∨ a = 77 ∨ a = 78 → gI (sI (sI S1 4 16 0) 72 0 0) a i = gI S a i := fun a i q => by rw [gI_sI, if_neg (by omega), gI_sI, if_neg (by omega), hC.2.1 a i (by omega) (by omega) (by omega)]
        have k2 : gI (sI (sI S1 4 16 0) 72 0 0) 72 8 = gI S 72 8 := by rw [gI_sI, if_neg (by omega), gI_sI, if_neg (by omega), hC.2.1 72 8 (by omega) (by omega) (by omega)]
        refine pair_ok (v := gI S 74 (8 + p)) (sI S1 4 16 0) (sI (sI (remS (sI (sI S1 4 16 0) 72 0 0) 0) 74 (8 + p) w) 72 1 0) ((e110 (X := X) (by omega) p w (gI S 74 (8 + p)) S1 (by omega) (by omega) (fun X d hd => ?_)).trans ?_) ((e245 (X := X) (by omega) p w (gI S 74 (8 + p)) (sI (remS (sI (sI S1 4 16 0) 72 0 0) 0) 74 (8 + p) w) (by omega) (fun X d hd => e244d hd p w _ q ?_ ?_ ?_ ?_ q3 ?_)).trans ?_) ?_ ?_
        · have := e142d (X := X) hd p w (gI S 74 (8 + p)) q (by omega) (by omega) (by omega) (by omega) q3 (by omega) (S := S)
          rw [hS1] at this; exact this
        · unfold clsS; rw [if_neg (by omega)]
        · rw [k1 _ _ (by omega)]; omega
        · rw [k1 _ _ (by omega)]; omega
        · rw [k1 _ _ (by omega)]
        · omega
        · rw [k2]; omega
        · unfold tellS; rw [if_neg (by omega)]
        · refine hI.turned hG hL hC hM (Dyn.sI (by decide) (Dyn.sI (by decide) (Dyn.rem (Dyn.sI (by decide) (Dyn.sI (by decide) hC.1))))) (fun a i q1 q2 => ?_) (fun a i q => ?_) ?_ (fun a i q1 q2 q3 q4 q5 => ?_) (fun i q => ?_) ⟨?_, ?_⟩ (fun a i => ?_) (fun a i => ?_)
          · rw [gI_sI, if_neg (by omega), gI_sI, if_neg (by omega), remS_o (by omega), gI_sI, if_neg (by omega), gI_sI, if_neg (by omega)]
          · rw [gI_sI, if_neg (by omega), gI_sI, gI_sI, remS_cong k1 k2 (Or.inl q)]
          · rw [gI_sI, if_neg (by omega), gI_sI, if_neg (by omega), gI_sI, if_neg (by omega), remS_cong k1 k2 (Or.inr ⟨rfl, rfl⟩)]
          · rw [gI_sI, if_neg (by omega), gI_sI, if_neg (by omega), remS_o (by omega), gI_sI, if_neg (by omega), gI_sI, if_neg (by omega), hC.2.1 a i (by omega) (by omega) (by omega)]
          · rw [gI_sI, if_neg (by omega), gI_sI, if_neg (by omega), remS_o (by omega), gI_sI, if_neg (by omega), gI_sI, if_neg (by omega), hC.2.1 4 i (by omega) (by omega) (by omega)]
          · rw [gI_sI, if_neg (by omega), gI_sI, if_neg (by omega), remS_o (by omega), gI_sI, if_neg (by omega), gI_sI, if_pos ⟨rfl, rfl⟩]; rfl
          · rw [gI_sI, if_pos ⟨rfl, rfl⟩]; rfl
          · exact ((remS_J (S := sI (sI S1 4 16 0) 72 0 0) (k := 0)).1 a i).trans (hC.2.2.1 a i)
          · exact ((remS_J (S := sI (sI S1 4 16 0) 72 0 0) (k := 0)).2 a i).trans (hC.2.2.2 a i)
        · exact Dyn.sI (by decide) (Dyn.sI (by decide) (Dyn.rem (Dyn.sI (by decide) (Dyn.sI (by decide) hC.1))))
    · refine pair_rf hG hI (v := -2) (by omega) (e110 (X := X) (by omega) p w (-2) S (by omega) (by omega) (fun X d hd => e142b hd p w h1 q (by omega) (by omega))) ((e245 (X := X) (by omega) p w (-2) (sI (cR S (-2)) 72 0 0) (by omega) (fun X d hd => e244b hd p w h1 q ?_ ?_)))
      · rw [gI_sI, if_neg (by omega), cR_I (by decide) (by decide)]; omega
      · rw [gI_sI, if_neg (by omega), cR_I (by decide) (by decide)]; omega
  · exact pair_rf hG hI (v := -1) (by omega) (e110 (X := X) (by omega) p w (-1) S (by omega) (by omega) (fun X d hd => e142a hd p w h1 h2 (by omega) (by omega))) ((e245 (X := X) (by omega) p w (-1) (sI (cR S (-1)) 72 0 0) (by omega) (fun X d hd => e244a hd p w h1 h2 (by omega))))
