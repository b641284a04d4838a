/-! weigh, ends, meets, undo in pairs -/
/-- one change on both sides: the class's, then the reference's, then what is told -/
theorem Inv.turned {P Q : zP} (hG : Good P Q) {S S1 T1 F : zS} (hI : Inv P Q S) (hL : LH P Q S1 T1) (hC : FrC S S1) (hM : FrM S T1) (hD : Dyn S F) (f1 : ∀ a i, a ≠ 4 → a ≤ 70 → gI F a i = gI S1 a i) (f2 : ∀ a i, a = 74 ∨ a = 77 ∨ a = 78 → gI F a i = gI T1 a i) (f3 : gI F 72 8 = gI T1 72 8) (f4 : ∀ a i, 71 ≤ a → a ≠ 74 → a ≠ 77 → a ≠ 78 → ¬ (a = 72 ∧ (i = 0 ∨ i = 1 ∨ i = 8)) → gI F a i = gI S a i) (f5 : ∀ i, i ≠ 16 → gI F 4 i = gI S 4 i) (f6 : gI F 4 16 = 0 ∧ gI F 72 1 = 0) (hJ : ∀ a i, gJ F a i = gJ S a i) (hQ : ∀ a i, gQ F a i = gQ S a i) : Inv P Q F := by
  obtain ⟨m1, m2, m3, m4, m5, m6, m7, m8, m9⟩ := id hI.2.2.2.1
  refine hI.lh hG hD (fun a i q1 q2 q3 => ?_) hJ hQ ?_ ?_
  · simp only [List.mem_cons, List.not_mem_nil, or_false, not_or] at q1
    by_cases w : a ≤ 70
    · rw [f1 a i (by omega) w, hC.2.1 a i (by omega) (by omega) (by omega)]
    · by_cases w2 : a = 74
      · rw [f2 a i (by omega), hM.2.1 a i (by omega) (by omega) (by omega) (by omega)]
      · exact f4 a i (by omega) w2 (by omega) (by omega) (by omega)
  · unfold MsRel
    rw [f5 17 (by omega), f5 18 (by omega), f5 19 (by omega), f6.1, f6.2, f4 72 18 (by omega) (by omega) (by omega) (by omega) (by omega), f4 72 11 (by omega) (by omega) (by omega) (by omega) (by omega), f4 72 67 (by omega) (by omega) (by omega) (by omega) (by omega)]
    have k1 : ∀ i, gI F 71 i = gI S 71 i := fun i => f4 71 i (by omega) (by omega) (by omega) (by omega) (by omega)
    have k3 : ∀ i, gI F 73 i = gI S 73 i := fun i => f4 73 i (by omega) (by omega) (by omega) (by omega) (by omega)
    simp only [k1, k3]
    exact ⟨m1, m2, m3, trivial, m5, m6, m7, m8, m9⟩
  · refine hL.fr hG ?_ (fun a i q => f1 a i (by omega) (by omega)) (fun a i _ => by rw [hQ, hC.2.2.2]) f2 f3
    exact ⟨fun a ha => ⟨fun i => by rw [(hD.1 a ha).1, (hC.1.1 a ha).1], fun i => by rw [(hD.1 a ha).2.1, (hC.1.1 a ha).2.1], by rw [(hD.1 a ha).2.2, (hC.1.1 a ha).2.2]⟩, by rw [hD.2.1, hC.1.2.1], by rw [hD.2.2, hC.1.2.2]⟩
theorem p_weigh {P Q : zP} (hG : Good P Q) {X : zX} {p w : Int} (h1 : r32 p) (h2 : r32 w) {S : zS} {d : Nat} (hd : 200 ≤ d) (hI : Inv P Q S) : PairAt P Q X 110 245 [.int (Int32.ofInt p), .int (Int32.ofInt w)] S d := by
  obtain ⟨b1, b2, b3, b4, b5, b6, b7, b8, b9, b10⟩ := id hI.1
  simp only [Nat.reduceAdd] at b7
  have hH := hI.2.1.1
  by_cases q : 0 ≤ w ∧ w ≤ 2
  · by_cases q2 : 0 ≤ p ∧ p < gI S 74 0
    · have bp := b7 p q2.1 (by omega)
      by_cases q3 : gI S 74 (8 + p) = w
      · refine pair_rf hG hI (v := -3) (by omega) (e110 (X := X) (by omega) p w (-3) S (by omega) (by omega) (fun X d hd => e142c hd p w q (by omega) (by omega) (by omega))) ((e245 (X := X) (by omega) p w (-3) (sI (cR S (-3)) 72 0 0) (by omega) (fun X d hd => e244c hd p w q ?_ ?_ ?_)))
        · rw [gI_sI, if_neg (by omega), cR_I (by decide) (by decide)]; omega
        · rw [gI_sI, if_neg (by omega), cR_I (by decide) (by decide)]; omega
        · rw [gI_sI, if_neg (by omega), cR_I (by decide) (by decide)]; omega
      · obtain ⟨hL, hC, hM⟩ := (LH.of hI).weigh hG q q2 (v := gI S 74 (8 + p)) rfl
        generalize hS1 : addS (sI S 6 (3 * p) w) 0 p (gI S 74 (8 + p)) = S1 at hL hC
        have k1 : ∀ a i, a = 74 ∨ a = 77 ∨ a = 78 → gI (sI (sI S1 4 16 0) 72 0 0) a i = gI S a i := fun a i q => by rw [gI_sI, if_neg (by omega), gI_sI, if_neg (by omega), hC.2.1 a i (by omega) (by omega) (by omega)]
        have k2 : gI (sI (sI S1 4 16 0) 72 0 0) 72 8 = gI S 72 8 := by rw [gI_sI, if_neg (by omega), gI_sI, if_neg (by omega), hC.2.1 72 8 (by omega) (by omega) (by omega)]
        refine pair_ok (v := gI S 74 (8 + p)) (sI S1 4 16 0) (sI (sI (remS (sI (sI S1 4 16 0) 72 0 0) 0) 74 (8 + p) w) 72 1 0) ((e110 (X := X) (by omega) p w (gI S 74 (8 + p)) S1 (by omega) (by omega) (fun X d hd => ?_)).trans ?_) ((e245 (X := X) (by omega) p w (gI S 74 (8 + p)) (sI (remS (sI (sI S1 4 16 0) 72 0 0) 0) 74 (8 + p) w) (by omega) (fun X d hd => e244d hd p w _ q ?_ ?_ ?_ ?_ q3 ?_)).trans ?_) ?_ ?_
        · have := e142d (X := X) hd p w (gI S 74 (8 + p)) q (by omega) (by omega) (by omega) (by omega) q3 (by omega) (S := S)
          rw [hS1] at this; exact this
        · unfold clsS; rw [if_neg (by omega)]
        · rw [k1 _ _ (by omega)]; omega
        · rw [k1 _ _ (by omega)]; omega
        · rw [k1 _ _ (by omega)]
        · omega
        · rw [k2]; omega
        · unfold tellS; rw [if_neg (by omega)]
        · refine hI.turned hG hL hC hM (Dyn.sI (by decide) (Dyn.sI (by decide) (Dyn.rem (Dyn.sI (by decide) (Dyn.sI (by decide) hC.1))))) (fun a i q1 q2 => ?_) (fun a i q => ?_) ?_ (fun a i q1 q2 q3 q4 q5 => ?_) (fun i q => ?_) ⟨?_, ?_⟩ (fun a i => ?_) (fun a i => ?_)
          · rw [gI_sI, if_neg (by omega), gI_sI, if_neg (by omega), remS_o (by omega), gI_sI, if_neg (by omega), gI_sI, if_neg (by omega)]
          · rw [gI_sI, if_neg (by omega), gI_sI, gI_sI, remS_cong k1 k2 (Or.inl q)]
          · rw [gI_sI, if_neg (by omega), gI_sI, if_neg (by omega), gI_sI, if_neg (by omega), remS_cong k1 k2 (Or.inr ⟨rfl, rfl⟩)]
          · rw [gI_sI, if_neg (by omega), gI_sI, if_neg (by omega), remS_o (by omega), gI_sI, if_neg (by omega), gI_sI, if_neg (by omega), hC.2.1 a i (by omega) (by omega) (by omega)]
          · rw [gI_sI, if_neg (by omega), gI_sI, if_neg (by omega), remS_o (by omega), gI_sI, if_neg (by omega), gI_sI, if_neg (by omega), hC.2.1 4 i (by omega) (by omega) (by omega)]
          · rw [gI_sI, if_neg (by omega), gI_sI, if_neg (by omega), remS_o (by omega), gI_sI, if_neg (by omega), gI_sI, if_pos ⟨rfl, rfl⟩]; rfl
          · rw [gI_sI, if_pos ⟨rfl, rfl⟩]; rfl
          · exact ((remS_J (S := sI (sI S1 4 16 0) 72 0 0) (k := 0)).1 a i).trans (hC.2.2.1 a i)
          · exact ((remS_J (S := sI (sI S1 4 16 0) 72 0 0) (k := 0)).2 a i).trans (hC.2.2.2 a i)
        · exact Dyn.sI (by decide) (Dyn.sI (by decide) (Dyn.rem (Dyn.sI (by decide) (Dyn.sI (by decide) hC.1))))
    · refine pair_rf hG hI (v := -2) (by omega) (e110 (X := X) (by omega) p w (-2) S (by omega) (by omega) (fun X d hd => e142b hd p w h1 q (by omega) (by omega))) ((e245 (X := X) (by omega) p w (-2) (sI (cR S (-2)) 72 0 0) (by omega) (fun X d hd => e244b hd p w h1 q ?_ ?_)))
      · rw [gI_sI, if_neg (by omega), cR_I (by decide) (by decide)]; omega
      · rw [gI_sI, if_neg (by omega), cR_I (by decide) (by decide)]; omega
  · exact pair_rf hG hI (v := -1) (by omega) (e110 (X := X) (by omega) p w (-1) S (by omega) (by omega) (fun X d hd => e142a hd p w h1 h2 (by omega) (by omega))) ((e245 (X := X) (by omega) p w (-1) (sI (cR S (-1)) 72 0 0) (by omega) (fun X d hd => e244a hd p w h1 h2 (by omega))))
theorem p_ends {P Q : zP} (hG : Good P Q) {X : zX} {p : Int} (h1 : r32 p) {S : zS} {d : Nat} (hd : 200 ≤ d) (hI : Inv P Q S) : PairAt P Q X 111 247 [.int (Int32.ofInt p)] S d := by
  obtain ⟨b1, b2, b3, b4, b5, b6, b7, b8, b9, b10⟩ := id hI.1
  simp only [Nat.reduceAdd] at b7
  have hH := hI.2.1.1
  by_cases q2 : 0 ≤ p ∧ p < gI S 74 0
  · have bp := b7 p q2.1 (by omega)
    obtain ⟨hL, hC, hM⟩ := (LH.of hI).turn hG (k := 1) (by omega) q2 (v := gI S 74 (28 + p)) rfl
    generalize hS1 : sI (addS S 1 p 0) 6 (3 * p + 1) (1 - gI S 74 (28 + p)) = S1 at hL hC
    have k1 : ∀ a i, a = 74 ∨ a = 77 ∨ a = 78 → gI (sI (sI S1 4 16 0) 72 0 0) a i = gI S a i := fun a i q => by rw [gI_sI, if_neg (by omega), gI_sI, if_neg (by omega), hC.2.1 a i (by omega) (by omega) (by omega)]
    have k2 : gI (sI (sI S1 4 16 0) 72 0 0) 72 8 = gI S 72 8 := by rw [gI_sI, if_neg (by omega), gI_sI, if_neg (by omega), hC.2.1 72 8 (by omega) (by omega) (by omega)]
    refine pair_ok (v := 1 - gI S 74 (28 + p)) (sI S1 4 16 0) (sI (sI (remS (sI (sI S1 4 16 0) 72 0 0) 1) 74 (28 + p) (1 - gI S 74 (28 + p))) 72 1 0) ((e111 (X := X) (by omega) p (1 - gI S 74 (28 + p)) S1 (by omega) (by omega) (fun X d hd => ?_)).trans ?_) ((e247 (X := X) (by omega) p (1 - gI S 74 (28 + p)) (sI (remS (sI (sI S1 4 16 0) 72 0 0) 1) 74 (28 + p) (1 - gI S 74 (28 + p))) (by omega) (fun X d hd => e246b hd 1 28 p _ (by omega) (by omega) ?_ ?_ ?_ ?_ ?_)).trans ?_) ?_ ?_
    · have := e143b (X := X) hd p 1 (gI S 74 (28 + p)) (by omega) (by omega) (by omega) (by omega) (by omega) (by omega) (S := S)
      rw [hS1] at this; exact this
    · unfold clsS; rw [if_neg (by omega)]
    · rw [k1 _ _ (by omega)]; omega
    · rw [k1 _ _ (by omega)]; omega
    · rw [k1 _ _ (by omega)]
    · omega
    · rw [k2]; omega
    · unfold tellS; rw [if_neg (by omega)]
    · refine hI.turned hG hL hC hM (Dyn.sI (by decide) (Dyn.sI (by decide) (Dyn.rem (Dyn.sI (by decide) (Dyn.sI (by decide) hC.1))))) (fun a i q1 q2 => ?_) (fun a i q => ?_) ?_ (fun a i q1 q2 q3 q4 q5 => ?_) (fun i q => ?_) ⟨?_, ?_⟩ (fun a i => ?_) (fun a i => ?_)
      · rw [gI_sI, if_neg (by omega), gI_sI, if_neg (by omega), remS_o (by omega), gI_sI, if_neg (by omega), gI_sI, if_neg (by omega)]
      · rw [gI_sI, if_neg (by omega), gI_sI, gI_sI, remS_cong k1 k2 (Or.inl q)]; rfl
      · rw [gI_sI, if_neg (by omega), gI_sI, if_neg (by omega), gI_sI, if_neg (by omega), remS_cong k1 k2 (Or.inr ⟨rfl, rfl⟩)]
      · rw [gI_sI, if_neg (by omega), gI_sI, if_neg (by omega), remS_o (by omega), gI_sI, if_neg (by omega), gI_sI, if_neg (by omega), hC.2.1 a i (by omega) (by omega) (by omega)]
      · rw [gI_sI, if_neg (by omega), gI_sI, if_neg (by omega), remS_o (by omega), gI_sI, if_neg (by omega), gI_sI, if_neg (by omega), hC.2.1 4 i (by omega) (by omega) (by omega)]
      · rw [gI_sI, if_neg (by omega), gI_sI, if_neg (by omega), remS_o (by omega), gI_sI, if_neg (by omega), gI_sI, if_pos ⟨rfl, rfl⟩]; rfl
      · rw [gI_sI, if_pos ⟨rfl, rfl⟩]; rfl
      · exact ((remS_J (S := sI (sI S1 4 16 0) 72 0 0) (k := 1)).1 a i).trans (hC.2.2.1 a i)
      · exact ((remS_J (S := sI (sI S1 4 16 0) 72 0 0) (k := 1)).2 a i).trans (hC.2.2.2 a i)
    · exact Dyn.sI (by decide) (Dyn.sI (by decide) (Dyn.rem (Dyn.sI (by decide) (Dyn.sI (by decide) hC.1))))
  · refine pair_rf hG hI (v := -2) (by omega) (e111 (X := X) (by omega) p (-2) S (by omega) (by omega) (fun X d hd => e143a hd p 1 h1 (by omega) (by omega))) ((e247 (X := X) (by omega) p (-2) (sI (cR S (-2)) 72 0 0) (by omega) (fun X d hd => e246a hd 1 28 p h1 ?_ ?_)))
    · rw [gI_sI, if_neg (by omega), cR_I (by decide) (by decide)]; omega
    · rw [gI_sI, if_neg (by omega), cR_I (by decide) (by decide)]; omega
theorem p_meets {P Q : zP} (hG : Good P Q) {X : zX} {p : Int} (h1 : r32 p) {S : zS} {d : Nat} (hd : 200 ≤ d) (hI : Inv P Q S) : PairAt P Q X 112 248 [.int (Int32.ofInt p)] S d := by
  obtain ⟨b1, b2, b3, b4, b5, b6, b7, b8, b9, b10⟩ := id hI.1
  simp only [Nat.reduceAdd] at b7
  have hH := hI.2.1.1
  by_cases q2 : 0 ≤ p ∧ p < gI S 74 0
  · have bp := b7 p q2.1 (by omega)
    obtain ⟨hL, hC, hM⟩ := (LH.of hI).turn hG (k := 2) (by omega) q2 (v := gI S 74 (48 + p)) rfl
    generalize hS1 : sI (addS S 2 p 0) 6 (3 * p + 2) (1 - gI S 74 (48 + p)) = S1 at hL hC
    have k1 : ∀ a i, a = 74 ∨ a = 77 ∨ a = 78 → gI (sI (sI S1 4 16 0) 72 0 0) a i = gI S a i := fun a i q => by rw [gI_sI, if_neg (by omega), gI_sI, if_neg (by omega), hC.2.1 a i (by omega) (by omega) (by omega)]
    have k2 : gI (sI (sI S1 4 16 0) 72 0 0) 72 8 = gI S 72 8 := by rw [gI_sI, if_neg (by omega), gI_sI, if_neg (by omega), hC.2.1 72 8 (by omega) (by omega) (by omega)]
    refine pair_ok (v := 1 - gI S 74 (48 + p)) (sI S1 4 16 0) (sI (sI (remS (sI (sI S1 4 16 0) 72 0 0) 2) 74 (48 + p) (1 - gI S 74 (48 + p))) 72 1 0) ((e112 (X := X) (by omega) p (1 - gI S 74 (48 + p)) S1 (by omega) (by omega) (fun X d hd => ?_)).trans ?_) ((e248 (X := X) (by omega) p (1 - gI S 74 (48 + p)) (sI (remS (sI (sI S1 4 16 0) 72 0 0) 2) 74 (48 + p) (1 - gI S 74 (48 + p))) (by omega) (fun X d hd => e246b hd 2 48 p _ (by omega) (by omega) ?_ ?_ ?_ ?_ ?_)).trans ?_) ?_ ?_
    · have := e143b (X := X) hd p 2 (gI S 74 (48 + p)) (by omega) (by omega) (by omega) (by omega) (by omega) (by omega) (S := S)
      rw [hS1] at this; exact this
    · unfold clsS; rw [if_neg (by omega)]
    · rw [k1 _ _ (by omega)]; omega
    · rw [k1 _ _ (by omega)]; omega
    · rw [k1 _ _ (by omega)]
    · omega
    · rw [k2]; omega
    · unfold tellS; rw [if_neg (by omega)]
    · refine hI.turned hG hL hC hM (Dyn.sI (by decide) (Dyn.sI (by decide) (Dyn.rem (Dyn.sI (by decide) (Dyn.sI (by decide) hC.1))))) (fun a i q1 q2 => ?_) (fun a i q => ?_) ?_ (fun a i q1 q2 q3 q4 q5 => ?_) (fun i q => ?_) ⟨?_, ?_⟩ (fun a i => ?_) (fun a i => ?_)
      · rw [gI_sI, if_neg (by omega), gI_sI, if_neg (by omega), remS_o (by omega), gI_sI, if_neg (by omega), gI_sI, if_neg (by omega)]
      · rw [gI_sI, if_neg (by omega), gI_sI, gI_sI, remS_cong k1 k2 (Or.inl q)]; rfl
      · rw [gI_sI, if_neg (by omega), gI_sI, if_neg (by omega), gI_sI, if_neg (by omega), remS_cong k1 k2 (Or.inr ⟨rfl, rfl⟩)]
      · rw [gI_sI, if_neg (by omega), gI_sI, if_neg (by omega), remS_o (by omega), gI_sI, if_neg (by omega), gI_sI, if_neg (by omega), hC.2.1 a i (by omega) (by omega) (by omega)]
      · rw [gI_sI, if_neg (by omega), gI_sI, if_neg (by omega), remS_o (by omega), gI_sI, if_neg (by omega), gI_sI, if_neg (by omega), hC.2.1 4 i (by omega) (by omega) (by omega)]
      · rw [gI_sI, if_neg (by omega), gI_sI, if_neg (by omega), remS_o (by omega), gI_sI, if_neg (by omega), gI_sI, if_pos ⟨rfl, rfl⟩]; rfl
      · rw [gI_sI, if_pos ⟨rfl, rfl⟩]; rfl
      · exact ((remS_J (S := sI (sI S1 4 16 0) 72 0 0) (k := 2)).1 a i).trans (hC.2.2.1 a i)
      · exact ((remS_J (S := sI (sI S1 4 16 0) 72 0 0) (k := 2)).2 a i).trans (hC.2.2.2 a i)
    · exact Dyn.sI (by decide) (Dyn.sI (by decide) (Dyn.rem (Dyn.sI (by decide) (Dyn.sI (by decide) hC.1))))
  · refine pair_rf hG hI (v := -2) (by omega) (e112 (X := X) (by omega) p (-2) S (by omega) (by omega) (fun X d hd => e143a hd p 2 h1 (by omega) (by omega))) ((e248 (X := X) (by omega) p (-2) (sI (cR S (-2)) 72 0 0) (by omega) (fun X d hd => e246a hd 2 48 p h1 ?_ ?_)))
    · rw [gI_sI, if_neg (by omega), cR_I (by decide) (by decide)]; omega
    · rw [gI_sI, if_neg (by omega), cR_I (by decide) (by decide)]; omega
/-! undo -/
theorem e114a {X : zX} {d : Nat} (hd : 3 ≤ d) {S : zS} (h : gI S 27 3 = 0) : z_ev X d (z_entry 114 [.ref 4] (mk S)) = some (some (.int (Int32.ofInt (-3))), mk (cR S (-3))) := by
  show z_ev X d (114, 0, [some (.ref 4), none, none], [], mk S) = _
  simp (disch := first | omega | assumption | exact b01_rng _ | exact st_5 | exact st_12 | exact st_19 | (simp only [isSt_sI, isSt_sJ, isSt_sF, isSt_sG, isSt_sA]; assumption)) only [↓B114_0, ↓B114_10, ↓B114_16, ↓B114_17, ↓B114_24, ↓B114_32, ↓B114_37, ↓B114_50, ↓B114_53, ↓B114_56, ↓B114_61, ↓B114_74, ↓B114_79, ↓B114_82, ↓B114_91, ↓B114_92, ↓B114_110, ↓o_19, ↓o_27, ↓o_31, ↓o_4, ↓o_5, ↓r_27_3, ↓r_31_3, ↓r_4_0, ↓r_4_4, ↓w_27_3, ↓w_31_3, c134, i_lit, i_add, i_sub, i_mul, i_neg, i_lt, i_le, i_eq, i32_gI, i64_gJ, i32_id, i32_to, i64_to, sI_i32, sJ_i64, b01_t, b01_f, i32_b01, b01_0, ↓a_s0, ↓n_s0, ↓a_s1, ↓n_s1, Int.add_zero, t_lt, f_lt, t_le, f_le, t_eq, f_eq, true_and, and_true, false_and, and_false, and_self, ↓reduceIte, z_bool_of, or_true, true_or, or_false, false_or, Int.neg_neg, not_true_eq_false, not_false_eq_true, lg_lt, lg_le, lg_gt, lg_ge, lg_eq, j_lit, j_add, j_sub, j_mul, j_neg, j_eq, i64_id, ij, ji, z_rt, Nat.reduceEqDiff, Nat.reduceAdd, Int.reduceAdd, Int.reduceSub, Int.reduceMul, Int.reduceNeg, Int.reduceLT, Int.reduceLE, Int.reduceEq]
theorem c114a {X : zX} {d : Nat} (hd : 3 < d) {S : zS} (h : gI S 27 3 = 0) {cm cp : Nat} {L : zL} {st : List Value} : z_evc X d 114 [.ref 4] (cm, cp, L, st, mk S) = z_ev X d (cm, cp, L, .int (Int32.ofInt (-3)) :: st, mk (cR S (-3))) := z_evc_of (r := (some (.int (Int32.ofInt (-3))), mk (cR S (-3)))) (ck := (cm, cp, L, st, mk S)) hd (e114a (X := X) (Nat.le_refl _) h)
def unS (S : zS) (K s w : Int) : zS := if K = 0 then sI S 6 (3 * s) w else if K = 3 then sI S 7 0 (gI S 7 0 - 1) else sI S 6 (3 * s + K) (1 - gI S 6 (3 * s + K))
theorem e114b {X : zX} {d : Nat} (hd : 3 ≤ d) {S : zS} (n K s w : Int) (h : gI S 27 3 = n) (h1 : 1 ≤ n ∧ n ≤ 16) (hK : gI S 28 (n - 1) = K) (hs : gI S 29 (n - 1) = s) (hw : gI S 30 (n - 1) = w) (h2 : 0 ≤ K ∧ K ≤ 3) (h3 : K ≠ 3 → 0 ≤ s ∧ s < 20) (h4 : K = 0 → 0 ≤ w ∧ w ≤ 2) (h5 : 0 ≤ gI S 7 0 ∧ gI S 7 0 ≤ 999) (h6 : K ≠ 3 → 0 ≤ gI S 6 (3 * s + K) ∧ gI S 6 (3 * s + K) ≤ 2) : z_ev X d (z_entry 114 [.ref 4] (mk S)) = some (some (.int (Int32.ofInt K)), mk (sI (sI (unS S K s w) 27 3 (n - 1)) 4 16 0)) := by
  show z_ev X d (114, 0, [some (.ref 4), none, none], [], mk S) = _
  unfold unS
  rcases (show K = 0 ∨ K = 3 ∨ K = 1 ∨ K = 2 by omega) with rfl | rfl | rfl | rfl
  · simp (disch := first | omega | assumption | exact b01_rng _ | exact st_5 | exact st_12 | exact st_19 | (simp only [isSt_sI, isSt_sJ, isSt_sF, isSt_sG, isSt_sA]; assumption)) only [↓B114_0, ↓B114_10, ↓B114_16, ↓B114_17, ↓B114_24, ↓B114_32, ↓B114_37, ↓B114_50, ↓B114_53, ↓B114_56, ↓B114_61, ↓B114_74, ↓B114_79, ↓B114_82, ↓B114_91, ↓B114_92, ↓B114_110, ↓o_19, ↓o_27, ↓o_31, ↓o_4, ↓o_5, ↓r_27_3, ↓r_31_3, ↓r_4_0, ↓r_4_4, ↓w_27_3, ↓w_31_3, c23, c24, c25, c68, c135, i_lit, i_add, i_sub, i_mul, i_neg, i_lt, i_le, i_eq, i32_gI, i64_gJ, i32_id, i32_to, i64_to, sI_i32, sJ_i64, b01_t, b01_f, i32_b01, b01_0, ↓a_s0, ↓n_s0, ↓a_s1, ↓n_s1, Int.add_zero, t_lt, f_lt, t_le, f_le, t_eq, f_eq, true_and, and_true, false_and, and_false, and_self, ↓reduceIte, z_bool_of, or_true, true_or, or_false, false_or, Int.neg_neg, not_true_eq_false, not_false_eq_true, lg_lt, lg_le, lg_gt, lg_ge, lg_eq, j_lit, j_add, j_sub, j_mul, j_neg, j_eq, i64_id, ij, ji, z_rt, Nat.reduceEqDiff, Nat.reduceAdd, Int.reduceAdd, Int.reduceSub, Int.reduceMul, Int.reduceNeg, Int.reduceLT, Int.reduceLE, Int.reduceEq, h, hK, hs, hw, gI_sI]
  · simp (disch := first | omega | assumption | exact b01_rng _ | exact st_5 | exact st_12 | exact st_19 | (simp only [isSt_sI, isSt_sJ, isSt_sF, isSt_sG, isSt_sA]; assumption)) only [↓B114_0, ↓B114_10, ↓B114_16, ↓B114_17, ↓B114_24, ↓B114_32, ↓B114_37, ↓B114_50, ↓B114_53, ↓B114_56, ↓B114_61, ↓B114_74, ↓B114_79, ↓B114_82, ↓B114_91, ↓B114_92, ↓B114_110, ↓o_19, ↓o_27, ↓o_31, ↓o_4, ↓o_5, ↓r_27_3, ↓r_31_3, ↓r_4_0, ↓r_4_4, ↓w_27_3, ↓w_31_3, c23, c24, c70, c71, c135, i_lit, i_add, i_sub, i_mul, i_neg, i_lt, i_le, i_eq, i32_gI, i64_gJ, i32_id, i32_to, i64_to, sI_i32, sJ_i64, b01_t, b01_f, i32_b01, b01_0, ↓a_s0, ↓n_s0, ↓a_s1, ↓n_s1, Int.add_zero, t_lt, f_lt, t_le, f_le, t_eq, f_eq, true_and, and_true, false_and, and_false, and_self, ↓reduceIte, z_bool_of, or_true, true_or, or_false, false_or, Int.neg_neg, not_true_eq_false, not_false_eq_true, lg_lt, lg_le, lg_gt, lg_ge, lg_eq, j_lit, j_add, j_sub, j_mul, j_neg, j_eq, i64_id, ij, ji, z_rt, Nat.reduceEqDiff, Nat.reduceAdd, Int.reduceAdd, Int.reduceSub, Int.reduceMul, Int.reduceNeg, Int.reduceLT, Int.reduceLE, Int.reduceEq, h, hK, hs, hw, gI_sI]
  · simp (disch := first | omega | assumption | exact b01_rng _ | exact st_5 | exact st_12 | exact st_19 | (simp only [isSt_sI, isSt_sJ, isSt_sF, isSt_sG, isSt_sA]; assumption)) only [↓B114_0, ↓B114_10, ↓B114_16, ↓B114_17, ↓B114_24, ↓B114_32, ↓B114_37, ↓B114_50, ↓B114_53, ↓B114_56, ↓B114_61, ↓B114_74, ↓B114_79, ↓B114_82, ↓B114_91, ↓B114_92, ↓B114_110, ↓o_19, ↓o_27, ↓o_31, ↓o_4, ↓o_5, ↓r_27_3, ↓r_31_3, ↓r_4_0, ↓r_4_4, ↓w_27_3, ↓w_31_3, c23, c24, c69 (X := X) (d := d) (S := S) (s := 5) (by omega) s 1 st_5 (by omega) (by omega) (h6 (by omega)), c135, i_lit, i_add, i_sub, i_mul, i_neg, i_lt, i_le, i_eq, i32_gI, i64_gJ, i32_id, i32_to, i64_to, sI_i32, sJ_i64, b01_t, b01_f, i32_b01, b01_0, ↓a_s0, ↓n_s0, ↓a_s1, ↓n_s1, Int.add_zero, t_lt, f_lt, t_le, f_le, t_eq, f_eq, true_and, and_true, false_and, and_false, and_self, ↓reduceIte, z_bool_of, or_true, true_or, or_false, false_or, Int.neg_neg, not_true_eq_false, not_false_eq_true, lg_lt, lg_le, lg_gt, lg_ge, lg_eq, j_lit, j_add, j_sub, j_mul, j_neg, j_eq, i64_id, ij, ji, z_rt, Nat.reduceEqDiff, Nat.reduceAdd, Int.reduceAdd, Int.reduceSub, Int.reduceMul, Int.reduceNeg, Int.reduceLT, Int.reduceLE, Int.reduceEq, h, hK, hs, hw, gI_sI]
  · simp (disch := first | omega | assumption | exact b01_rng _ | exact st_5 | exact st_12 | exact st_19 | (simp only [isSt_sI, isSt_sJ, isSt_sF, isSt_sG, isSt_sA]; assumption)) only [↓B114_0, ↓B114_10, ↓B114_16, ↓B114_17, ↓B114_24, ↓B114_32, ↓B114_37, ↓B114_50, ↓B114_53, ↓B114_56, ↓B114_61, ↓B114_74, ↓B114_79, ↓B114_82, ↓B114_91, ↓B114_92, ↓B114_110, ↓o_19, ↓o_27, ↓o_31, ↓o_4, ↓o_5, ↓r_27_3, ↓r_31_3, ↓r_4_0, ↓r_4_4, ↓w_27_3, ↓w_31_3, c23, c24, c69 (X := X) (d := d) (S := S) (s := 5) (by omega) s 2 st_5 (by omega) (by omega) (h6 (by omega)), c135, i_lit, i_add, i_sub, i_mul, i_neg, i_lt, i_le, i_eq, i32_gI, i64_gJ, i32_id, i32_to, i64_to, sI_i32, sJ_i64, b01_t, b01_f, i32_b01, b01_0, ↓a_s0, ↓n_s0, ↓a_s1, ↓n_s1, Int.add_zero, t_lt, f_lt, t_le, f_le, t_eq, f_eq, true_and, and_true, false_and, and_false, and_self, ↓reduceIte, z_bool_of, or_true, true_or, or_false, false_or, Int.neg_neg, not_true_eq_false, not_false_eq_true, lg_lt, lg_le, lg_gt, lg_ge, lg_eq, j_lit, j_add, j_sub, j_mul, j_neg, j_eq, i64_id, ij, ji, z_rt, Nat.reduceEqDiff, Nat.reduceAdd, Int.reduceAdd, Int.reduceSub, Int.reduceMul, Int.reduceNeg, Int.reduceLT, Int.reduceLE, Int.reduceEq, h, hK, hs, hw, gI_sI]
theorem c114b {X : zX} {d : Nat} (hd : 3 < d) {S : zS} (n K s w : Int) (h : gI S 27 3 = n) (h1 : 1 ≤ n ∧ n ≤ 16) (hK : gI S 28 (n - 1) = K) (hs : gI S 29 (n - 1) = s) (hw : gI S 30 (n - 1) = w) (h2 : 0 ≤ K ∧ K ≤ 3) (h3 : K ≠ 3 → 0 ≤ s ∧ s < 20) (h4 : K = 0 → 0 ≤ w ∧ w ≤ 2) (h5 : 0 ≤ gI S 7 0 ∧ gI S 7 0 ≤ 999) (h6 : K ≠ 3 → 0 ≤ gI S 6 (3 * s + K) ∧ gI S 6 (3 * s + K) ≤ 2) {cm cp : Nat} {L : zL} {st : List Value} : z_evc X d 114 [.ref 4] (cm, cp, L, st, mk S) = z_ev X d (cm, cp, L, .int (Int32.ofInt K) :: st, mk (sI (sI (unS S K s w) 27 3 (n - 1)) 4 16 0)) := z_evc_of (r := (some (.int (Int32.ofInt K)), mk (sI (sI (unS S K s w) 27 3 (n - 1)) 4 16 0))) (ck := (cm, cp, L, st, mk S)) hd (e114b (X := X) (Nat.le_refl _) n K s w h h1 hK hs hw h2 h3 h4 h5 h6)
theorem e159a {X : zX} {d : Nat} (hd : 1 ≤ d) {S : zS} (h : gI S 72 8 = 0) : z_ev X d (z_entry 159 [.ref 72] (mk S)) = some (some (.int (Int32.ofInt (-3))), mk (tellS (sI S 72 0 0) (-3))) := by
  show z_ev X d (159, 0, [some (.ref 72)], [], mk S) = _
  simp (disch := first | omega | assumption | exact b01_rng _ | exact st_5 | exact st_12 | exact st_19 | (simp only [isSt_sI, isSt_sJ, isSt_sF, isSt_sG, isSt_sA]; assumption)) only [↓B159_0, ↓B159_12, ↓B159_18, ↓B159_19, ↓B159_37, ↓B159_50, ↓a_78, ↓n_78, ↓o_72, ↓r_72_7, ↓r_72_8, ↓s_78, ↓w_72_0, ↓w_72_8, c153, i_lit, i_add, i_sub, i_mul, i_neg, i_lt, i_le, i_eq, i32_gI, i64_gJ, i32_id, i32_to, i64_to, sI_i32, sJ_i64, b01_t, b01_f, i32_b01, b01_0, ↓a_s0, ↓n_s0, ↓a_s1, ↓n_s1, Int.add_zero, t_lt, f_lt, t_le, f_le, t_eq, f_eq, true_and, and_true, false_and, and_false, and_self, ↓reduceIte, z_bool_of, or_true, true_or, or_false, false_or, Int.neg_neg, not_true_eq_false, not_false_eq_true, lg_lt, lg_le, lg_gt, lg_ge, lg_eq, j_lit, j_add, j_sub, j_mul, j_neg, j_eq, i64_id, ij, ji, z_rt, Nat.reduceEqDiff, Nat.reduceAdd, Int.reduceAdd, Int.reduceSub, Int.reduceMul, Int.reduceNeg, Int.reduceLT, Int.reduceLE, Int.reduceEq, gI_sI, gI_sJ, gI_sF, gI_sG, gI_sQ, gI_sA, gJ_sI, gJ_sJ, gJ_sF, gJ_sG, gJ_sQ, gJ_sA, gQ_sI, gQ_sJ, gQ_sF, gQ_sG, gQ_sQ, gQ_sA, gH_sI, gH_sJ, gH_sF, gH_sG, gH_sQ, gH_sA, gN_sI, gN_sJ, gN_sF, gN_sG, gN_sQ, gN_sA, gW_sI, gW_sJ, gW_sF, gW_sG, gW_sQ, gW_sA, h, tellS]
theorem c159a {X : zX} {d : Nat} (hd : 1 < d) {S : zS} (h : gI S 72 8 = 0) {cm cp : Nat} {L : zL} {st : List Value} : z_evc X d 159 [.ref 72] (cm, cp, L, st, mk S) = z_ev X d (cm, cp, L, .int (Int32.ofInt (-3)) :: st, mk (tellS (sI S 72 0 0) (-3))) := z_evc_of (r := (some (.int (Int32.ofInt (-3))), mk (tellS (sI S 72 0 0) (-3)))) (ck := (cm, cp, L, st, mk S)) hd (e159a (X := X) (Nat.le_refl _) h)
theorem e159b {X : zX} {d : Nat} (hd : 1 ≤ d) {S : zS} (n K : Int) (h : gI S 72 8 = n) (h1 : 1 ≤ n ∧ n ≤ 16) (hK : gI S 78 (n - 1) = K) (h2 : 0 ≤ K ∧ K ≤ 3) : z_ev X d (z_entry 159 [.ref 72] (mk S)) = some (some (.int (Int32.ofInt K)), mk (sI (sF (sI (sI S 72 0 0) 72 8 (n - 1)) 74 5 68 (fun j => gI S 77 (63 * (n - 1) + (j - 5)))) 72 1 0)) := by
  show z_ev X d (159, 0, [some (.ref 72)], [], mk S) = _
  simp (disch := first | omega | assumption | exact b01_rng _ | exact st_5 | exact st_12 | exact st_19 | (simp only [isSt_sI, isSt_sJ, isSt_sF, isSt_sG, isSt_sA]; assumption)) only [↓B159_0, ↓B159_12, ↓B159_18, ↓B159_19, ↓B159_37, ↓B159_50, ↓a_78, ↓n_78, ↓o_72, ↓r_72_7, ↓r_72_8, ↓s_78, ↓w_72_0, ↓w_72_8, c153, c157, i_lit, i_add, i_sub, i_mul, i_neg, i_lt, i_le, i_eq, i32_gI, i64_gJ, i32_id, i32_to, i64_to, sI_i32, sJ_i64, b01_t, b01_f, i32_b01, b01_0, ↓a_s0, ↓n_s0, ↓a_s1, ↓n_s1, Int.add_zero, t_lt, f_lt, t_le, f_le, t_eq, f_eq, true_and, and_true, false_and, and_false, and_self, ↓reduceIte, z_bool_of, or_true, true_or, or_false, false_or, Int.neg_neg, not_true_eq_false, not_false_eq_true, lg_lt, lg_le, lg_gt, lg_ge, lg_eq, j_lit, j_add, j_sub, j_mul, j_neg, j_eq, i64_id, ij, ji, z_rt, Nat.reduceEqDiff, Nat.reduceAdd, Int.reduceAdd, Int.reduceSub, Int.reduceMul, Int.reduceNeg, Int.reduceLT, Int.reduceLE, Int.reduceEq, gI_sI, gI_sJ, gI_sF, gI_sG, gI_sQ, gI_sA, gJ_sI, gJ_sJ, gJ_sF, gJ_sG, gJ_sQ, gJ_sA, gQ_sI, gQ_sJ, gQ_sF, gQ_sG, gQ_sQ, gQ_sA, gH_sI, gH_sJ, gH_sF, gH_sG, gH_sQ, gH_sA, gN_sI, gN_sJ, gN_sF, gN_sG, gN_sQ, gN_sA, gW_sI, gW_sJ, gW_sF, gW_sG, gW_sQ, gW_sA, h, hK, tellS]

theorem c159b {X : zX} {d : Nat} (hd : 1 < d) {S : zS} (n K : Int) (h : gI S 72 8 = n) (h1 : 1 ≤ n ∧ n ≤ 16) (hK : gI S 78 (n - 1) = K) (h2 : 0 ≤ K ∧ K ≤ 3) {cm cp : Nat} {L : zL} {st : List Value} : z_evc X d 159 [.ref 72] (cm, cp, L, st, mk S) = z_ev X d (cm, cp, L, .int (Int32.ofInt K) :: st, mk (sI (sF (sI (sI S 72 0 0) 72 8 (n - 1)) 74 5 68 (fun j => gI S 77 (63 * (n - 1) + (j - 5)))) 72 1 0)) := z_evc_of (r := (some (.int (Int32.ofInt K)), mk (sI (sF (sI (sI S 72 0 0) 72 8 (n - 1)) 74 5 68 (fun j => gI S 77 (63 * (n - 1) + (j - 5)))) 72 1 0))) (ck := (cm, cp, L, st, mk S)) hd (e159b (X := X) (Nat.le_refl _) n K h h1 hK h2)