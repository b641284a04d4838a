/-! orders in pairs: both ends -/
def FrZ (E Z : zS) : Prop := Dyn E Z ∧ (∀ a i, ¬ (a = 72 ∧ (i = 0 ∨ i = 67 ∨ (13 ≤ i ∧ i ≤ 16) ∨ (18 ≤ i ∧ i ≤ 21) ∨ i = 23 ∨ i = 26 ∨ i = 29 ∨ i = 30 ∨ i = 65 ∨ i = 66)) → ¬ (77 ≤ a ∧ a ≤ 80) → ¬ (82 ≤ a ∧ a ≤ 86) → a ≠ 112 → gI Z a i = gI E a i) ∧ (∀ a i, ¬ (a = 72 ∧ i = 17) → gJ Z a i = gJ E a i) ∧ ∀ a i, gQ Z a i = gQ E a i
/-- what the line was, beside what is kept of it -/
abbrev gh0 (S : zS) : zS := sF S 77 1071 1134 (fun j => gI S 74 (5 + (j - 1071)))
section
variable {X : zX} {d : Nat}
theorem orders_mid (hd : 20 ≤ d) {S E : zS} {cls : List Cl} {p : Nat × Int} {T : Nat} (hT : RTape (gI S 81) (gI S 72 13) T) (hp : pTx (gI S 81) (gI S 72 13) 1 = .inr (cls, p)) (hK : KW E) (hL : KO E) (k1 : gI E 72 13 = gI S 72 13) (k2 : gI E 81 = gI S 81) (hg : gI E 74 = gI S 74) (h77 : ∀ i, gI E 77 i = gI S 77 i) (h78 : ∀ i, gI E 78 i = gI S 78 i) (h8 : gI E 72 8 = gI S 72 8) (hb : 0 ≤ gI S 72 8 ∧ gI S 72 8 ≤ 16) : ∃ Z4 : zS, z_ev X d (z_entry 264 [.ref 72] (mk E)) = z_ev X d (264, 140, L264b (gI S 72 8) 0 none, [], mk Z4) ∧ FrZ E Z4 ∧ ORS (gh0 S) Z4 0 (-1) ∧ RK2 Z4 cls ∧ (gI Z4 72 13 = 0 ∧ gI Z4 72 18 = -1 ∧ gI Z4 72 67 = -1) ∧ (∀ i, 5 ≤ i → i < 68 → gI Z4 77 (1071 + (i - 5)) = gI S 74 i) ∧ (∀ i, 0 ≤ i → i < 1008 → gI Z4 79 i = gI S 77 i) ∧ ∀ i, 0 ≤ i → i < 16 → gI Z4 80 i = gI S 78 i := by
  have hy := x264t (X := X) (d := d) hd hT hK hL k1 k2
  rw [hp] at hy
  obtain ⟨Z, k, e1, f1, f20, fk, f21, fl, fr, fE, f18⟩ := hy
  have kz : ∀ a i, ¬ (a = 72 ∧ (i = 0 ∨ i = 67 ∨ (13 ≤ i ∧ i ≤ 16) ∨ (18 ≤ i ∧ i ≤ 21) ∨ i = 23 ∨ i = 26 ∨ i = 29 ∨ i = 30)) → ¬ (82 ≤ a ∧ a ≤ 86) → a ≠ 112 → gI Z a i = gI E a i := fun a i q1 q2 q3 => by
    rw [f1.2.1 a i (by omega) q2 q3, gI_sI, if_neg (by omega), gI_sI, if_neg (by omega)]
  have z67 : gI Z 72 67 = -1 := by rw [f1.2.1 72 67 (by omega) (by omega) (by omega), gI_sI, if_pos ⟨rfl, rfl⟩]; rfl
  have hDZ : Dyn E Z := (Dyn.sI (by decide) (Dyn.sI (by decide) Dyn.rf) : Dyn E (sI (sI E 72 0 0) 72 67 (-1))).tr f1.1
  obtain ⟨Z4, o1, o2, o3, o4, o5, o6, o7, o8, o9⟩ := orders_ref (X := X) (d := d) hd (S := S) (Z := Z) ((funext fun i => kz 74 i (by omega) (by omega) (by omega) : gI Z 74 = gI E 74).trans hg) (fun i => (kz 77 i (by omega) (by omega) (by omega)).trans (h77 i)) (fun i => (kz 78 i (by omega) (by omega) (by omega)).trans (h78 i)) ((kz 72 8 (by omega) (by omega) (by omega)).trans h8) fE.2 hb
  have eI : IM 1 Z4 = IM 1 Z := by funext i; unfold IM; rw [o4 83 i (by omega) (by omega), o4 84 i (by omega) (by omega)]
  have e112 : gI Z4 112 = gI Z 112 := funext fun i => o4 112 i (by omega) (by omega)
  refine ⟨Z4, e1.trans o1, ⟨hDZ.tr o3, fun a i q1 q2 q3 q4 => by rw [o4 a i q2 (by omega), kz a i (by omega) q3 q4], fun a i q => by rw [o5 a i, f1.2.2.1 a i q]; rfl, fun a i => by rw [o6 a i, f1.2.2.2 a i]; rfl⟩, o2, ⟨⟨k, fk.2, fun j cl hj => ?_⟩, ?_⟩, ⟨?_, ?_, ?_⟩, o7, o8, o9⟩
  · rw [eI, e112]; exact fr j cl hj
  · rw [o4 72 21 (by omega) (by omega)]; exact f21
  · rw [o4 72 13 (by omega) (by omega)]; exact fE.1
  · rw [o4 72 18 (by omega) (by omega)]; exact f18
  · rw [o4 72 67 (by omega) (by omega)]; exact z67
/-- the orders are done -/
theorem orders_ok {S S' C4 S6 Z4 T' T0' : zS} {done' latest' asks : Int} (hI : Inv PM QL S) (hC : FrC5 (sI (sI S 4 19 (-1)) 35 1 0) S') (k4 : ∀ a i, ¬ (12 ≤ a ∧ a ≤ 18) → ¬ (31 ≤ a ∧ a ≤ 34) → ¬ (58 ≤ a ∧ a ≤ 65) → a ≠ 68 → gI C4 a i = gI (sI S' 4 17 (-1)) a i) (kJ4 : ∀ a i, ¬ (64 ≤ a ∧ a ≤ 67) → a ≠ 69 → gJ C4 a i = gJ S a i) (kQ4 : ∀ a i, a ≠ 17 → a ≠ 18 → a ≠ 58 → gQ C4 a i = gQ S a i) (hD4 : Dyn S C4) (hO : FrOd C4 S6) (h19 : gI S6 4 19 = -1) (hOR : OR S6 T0' done' latest' asks) (hZ : FrZ (sI S6 4 16 0) Z4) (hz : gI Z4 72 13 = 0 ∧ gI Z4 72 18 = -1 ∧ gI Z4 72 67 = -1) (hM : FrOm Z4 T') (hS : ORS T0' T' done' latest') : Inv PM QL (sI T' 72 1 0) ∧ Dyn S (sI T' 72 1 0) := by
  have hG := good2.g
  obtain ⟨m1, m2, m3, m4, m5, m6, m7, m8, m9⟩ := id hI.2.2.2.1
  have hD6 : Dyn S6 (sI T' 72 1 0) := Dyn.sI (by decide) (((Dyn.sI (by decide) Dyn.rf : Dyn S6 (sI S6 4 16 0)).tr hZ.1).tr hM.1)
  have hD : Dyn S (sI T' 72 1 0) := (hD4.tr hO.1).tr hD6
  refine ⟨?_, hD⟩
  have t721 : gI (sI T' 72 1 0) 72 1 = 0 := by rw [gI_sI, if_pos ⟨rfl, rfl⟩]; rfl
  have tk : ∀ a i, ¬ (a = 72 ∧ i = 1) → gI (sI T' 72 1 0) a i = gI T' a i := fun a i q => by rw [gI_sI, if_neg q]
  have tJ : ∀ a i, gJ (sI T' 72 1 0) a i = gJ T' a i := fun _ _ => rfl
  have tQ : ∀ a i, gQ (sI T' 72 1 0) a i = gQ T' a i := fun _ _ => rfl
  generalize sI T' 72 1 0 = F at *
  -- from the class's end on
  have k6 : ∀ a i, ¬ (a = 4 ∧ i = 16) → ¬ (72 ≤ a ∧ a ≤ 112 ∧ a ≠ 73 ∧ a ≠ 75 ∧ a ≠ 76 ∧ a ≠ 81 ∧ ¬ (a = 72 ∧ (i = 11 ∨ i = 71))) → gI F a i = gI S6 a i := fun a i q1 q2 => by
    rw [tk a i (by omega), hM.2.1 a i (by omega) (by omega) (by omega) (by omega) (by omega) (by omega), hZ.2.1 a i (by omega) (by omega) (by omega) (by omega), gI_sI, if_neg (by omega)]
  have kQ6 : ∀ a i, gQ F a i = gQ S6 a i := fun a i => by rw [tQ, hM.2.2.2, hZ.2.2.2]; rfl
  have kJ6 : ∀ a i, ¬ (a = 72) → ¬ (90 ≤ a ∧ a ≤ 92) → gJ F a i = gJ S6 a i := fun a i q1 q2 => by rw [tJ, hM.2.2.1 a i q2 (by omega), hZ.2.2.1 a i (by omega)]; rfl
  -- what stays
  have ks : ∀ a i, a ≠ 4 → ¬ (37 ≤ a ∧ a ≤ 55) → ¬ (a = 35 ∧ i = 1) → ¬ (12 ≤ a ∧ a ≤ 18) → ¬ (27 ≤ a ∧ a ≤ 34) → ¬ (57 ≤ a ∧ a ≤ 65) → a ≠ 68 → a ≠ 6 → a ≠ 7 → gI S6 a i = gI S a i := fun a i q1 q2 q3 q4 q5 q6 q7 q8 q9 => by
    rw [hO.2.1 a i q8 q9 (by omega) q6 q7 (by omega), k4 a i q4 (by omega) (by omega) q7, gI_sI, if_neg (by omega), hC.2.1 a i q2, gI_sI, if_neg q3, gI_sI, if_neg (by omega)]
  have w : ∀ a i, (19 ≤ a ∧ a ≤ 26) ∨ a = 71 ∨ a = 73 ∨ a = 75 ∨ a = 76 ∨ a = 81 ∨ a = 113 ∨ (a = 72 ∧ (i = 11 ∨ i = 71)) → gI F a i = gI S a i := fun a i q => by
    rw [k6 a i (by omega) (by omega), ks a i (by omega) (by omega) (by omega) (by omega) (by omega) (by omega) (by omega) (by omega) (by omega)]
  have e4 : ∀ i, i ≠ 16 → i ≠ 19 → gI F 4 i = gI (sI S' 4 17 (-1)) 4 i := fun i q1 q2 => by
    rw [k6 4 i (by omega) (by omega), hO.2.1 4 i (by omega) (by omega) (by omega) (by omega) (by omega) (by omega), k4 4 i (by omega) (by omega) (by omega) (by omega)]
  have e416 : gI F 4 16 = 0 := by
    rw [tk 4 16 (by omega), hM.2.1 4 16 (by omega) (by omega) (by omega) (by omega) (by omega) (by omega), hZ.2.1 4 16 (by omega) (by omega) (by omega) (by omega), gI_sI, if_pos ⟨rfl, rfl⟩]; rfl
  have kQ : ∀ a i, a ≠ 17 → a ≠ 18 → a ≠ 58 → gQ F a i = gQ S a i := fun a i q1 q2 q3 => by rw [kQ6, hO.2.2.2 a i q3, kQ4 a i q1 q2 q3]
  have e72 : ∀ i, i = 13 ∨ i = 18 ∨ i = 67 → gI F 72 i = gI Z4 72 i := fun i q => by
    rw [tk 72 i (by omega), hM.2.1 72 i (by omega) (by omega) (by omega) (by omega) (by omega) (by omega)]
  have hL : LH PM QL F F := hOR.1.fr hG hD6 (fun a i q => k6 a i (by omega) (by omega)) (fun a i q => kQ6 a i) (fun a i q => by rw [tk a i (by omega)]; exact hS.1.1 a i q) (by rw [tk 72 8 (by omega)]; exact hS.1.2)
  refine hI.od hD (fun a i q => w a i (by omega)) (w 72 71 (by omega)) (fun i => kQ 26 i (by omega) (by omega) (by omega)) (hI.2.2.2.2.2.1.1.fr hD (fun i => kQ _ _ (by omega) (by omega) (by omega)) (fun i => kQ _ _ (by omega) (by omega) (by omega))) (fun a i q => by rw [kJ6 a i (by omega) (by omega), hO.2.2.1 a i (by omega) (by omega), kJ4 a i (by omega) (by omega)]) (hOR.2.1.keep2 (fun a i q => kJ6 a i (by omega) (by omega)) (fun i => kQ6 58 i)) (by rw [tk 72 20 (by omega)]; exact hS.2.2.2) hL ?_ ?_
  · unfold MsRel
    have f1 : gI F 4 17 = -1 := by rw [e4 17 (by omega) (by omega), gI_sI, if_pos ⟨rfl, rfl⟩]; rfl
    have f2 : gI F 4 18 = gI S 4 18 := by rw [e4 18 (by omega) (by omega), gI_sI, if_neg (by omega), hC.2.1 4 18 (by omega), gI_sI, if_neg (by omega), gI_sI, if_neg (by omega)]
    have f3 : gI F 4 19 = -1 := by rw [k6 4 19 (by omega) (by omega)]; exact h19
    have f71 : ∀ i, gI F 71 i = gI S 71 i := fun i => w 71 i (by omega)
    have f73 : ∀ i, gI F 73 i = gI S 73 i := fun i => w 73 i (by omega)
    simp only [f71, f73]
    rw [f1, f2, f3, e416, e72 18 (by omega), hz.2.1, w 72 11 (by omega), e72 67 (by omega), hz.2.2, t721]
    exact ⟨rfl, m2, rfl, rfl, m5, m6, m7, m8, m9⟩
  · have t13 : gI F 72 13 = 0 := by rw [e72 13 (by omega)]; exact hz.1
    have t35 : gI F 35 1 = 0 := by
      rw [k6 35 1 (by omega) (by omega), hO.2.1 35 1 (by omega) (by omega) (by omega) (by omega) (by omega) (by omega), k4 35 1 (by omega) (by omega) (by omega) (by omega), gI_sI, if_neg (by omega), hC.2.1 35 1 (by omega), gI_sI, if_pos ⟨rfl, rfl⟩]; rfl
    exact ⟨⟨by rw [t13, t35], by rw [t13]; omega, by rw [t13]; omega⟩, fun i q1 q2 => by rw [t13] at q2; omega⟩
/-- a clause refuses: all is as it was -/
theorem orders_ng {S S' C4 S6 Z4 T' : zS} {jj : Int} (hI : Inv PM QL S) (hC : FrC5 (sI (sI S 4 19 (-1)) 35 1 0) S') (k4 : ∀ a i, ¬ (12 ≤ a ∧ a ≤ 18) → ¬ (31 ≤ a ∧ a ≤ 34) → ¬ (58 ≤ a ∧ a ≤ 65) → a ≠ 68 → gI C4 a i = gI (sI S' 4 17 (-1)) a i) (kJ4 : ∀ a i, ¬ (64 ≤ a ∧ a ≤ 67) → a ≠ 69 → gJ C4 a i = gJ S a i) (kQ4 : ∀ a i, a ≠ 17 → a ≠ 18 → a ≠ 58 → gQ C4 a i = gQ S a i) (hD4 : Dyn S C4) (hkept : StRel PM QL C4 12 (gI S 74) ∧ RefOK C4 12 ∧ gI C4 31 3 = gI S 27 3 ∧ ∀ i, 0 ≤ i → i < 16 → gI C4 32 i = gI S 28 i ∧ gI C4 33 i = gI S 29 i ∧ gI C4 34 i = gI S 30 i) (hO : FrOd C4 S6) (hj : 0 ≤ jj ∧ jj < 12) (h19 : gI S6 4 19 = jj) (hX : FxC S6) (hZ : FrZ (cR (hcS (cpS S6 5 12) 27 31) (-3)) Z4) (hz : gI Z4 72 13 = 0 ∧ gI Z4 72 18 = -1 ∧ gI Z4 72 67 = -1) (z77 : ∀ i, 5 ≤ i → i < 68 → gI Z4 77 (1071 + (i - 5)) = gI S 74 i) (z79 : ∀ i, 0 ≤ i → i < 1008 → gI Z4 79 i = gI S 77 i) (z80 : ∀ i, 0 ≤ i → i < 16 → gI Z4 80 i = gI S 78 i) (hM : FrOm Z4 T') (h20 : gI T' 72 20 = 0) : Inv PM QL (tellS (sI (gbS T' (gI S 72 8)) 72 67 jj) (-3)) ∧ Dyn S (tellS (sI (gbS T' (gI S 72 8)) 72 67 jj) (-3)) := by
  have hG := good2.g
  obtain ⟨m1, m2, m3, m4, m5, m6, m7, m8, m9⟩ := id hI.2.2.2.1
  obtain ⟨C5, hC5⟩ : ∃ C5 : zS, C5 = cpS S6 5 12 := ⟨_, rfl⟩
  obtain ⟨C6, hC6⟩ : ∃ C6 : zS, C6 = hcS C5 27 31 := ⟨_, rfl⟩
  obtain ⟨E, hE⟩ : ∃ E : zS, E = cR C6 (-3) := ⟨_, rfl⟩
  rw [← hC5, ← hC6, ← hE] at hZ
  have eF : tellS (sI (gbS T' (gI S 72 8)) 72 67 jj) (-3) = sI (sI (sI (gbS T' (gI S 72 8)) 72 67 jj) 72 1 (-3)) 73 3 (gI (sI (gbS T' (gI S 72 8)) 72 67 jj) 73 3 + 1) := by unfold tellS; rw [if_pos (by omega)]; rfl
  rw [eF]
  obtain ⟨F, hF⟩ : ∃ F : zS, F = sI (sI (sI (gbS T' (gI S 72 8)) 72 67 jj) 72 1 (-3)) 73 3 (gI (sI (gbS T' (gI S 72 8)) 72 67 jj) 73 3 + 1) := ⟨_, rfl⟩
  rw [← hF]
  have hD5 : Dyn S6 C5 := by rw [hC5]; exact Dyn.cp (by omega)
  have hD56 : Dyn C5 E := by
    rw [hE, hC6]; unfold cR hcS
    exact Dyn.sI (by decide) (Dyn.sI (by decide) (Dyn.sI (by decide) (Dyn.sF (by decide) (Dyn.sF (by decide) (Dyn.sF (by decide) Dyn.rf)))))
  have hDT : Dyn T' F := by
    rw [hF]; unfold gbS
    exact Dyn.sI (by decide) (Dyn.sI (by decide) (Dyn.sI (by decide) (Dyn.sI (by decide) (Dyn.sF (by decide) (Dyn.sF (by decide) (Dyn.sF (by decide) Dyn.rf))))))
  have hD5F : Dyn C5 F := ((hD56.tr hZ.1).tr hM.1).tr hDT
  have hD : Dyn S F := (hD4.tr hO.1).tr (hD5.tr hD5F)
  refine ⟨?_, hD⟩
  -- the reference's end
  have tk : ∀ a i, ¬ (a = 72 ∧ (i = 1 ∨ i = 8 ∨ i = 67)) → ¬ (a = 73 ∧ i = 3) → ¬ (a = 74 ∧ 5 ≤ i ∧ i < 68) → ¬ (77 ≤ a ∧ a ≤ 78) → gI F a i = gI T' a i := fun a i q1 q2 q3 q4 => by
    rw [hF]; unfold gbS
    rw [gI_sI, if_neg q2, gI_sI, if_neg (by omega), gI_sI, if_neg (by omega), gI_sI, if_neg (by omega), gI_sF, if_neg (by omega), gI_sF, if_neg (by omega), gI_sF, if_neg (by omega)]
  have t73 : gI F 73 3 = i32 (gI T' 73 3 + 1) := by
    rw [hF, gI_sI, if_pos ⟨rfl, rfl⟩]; unfold gbS
    rw [gI_sI, if_neg (by omega), gI_sI, if_neg (by omega), gI_sF, if_neg (by omega), gI_sF, if_neg (by omega), gI_sF, if_neg (by omega)]
  have t721 : gI F 72 1 = -3 := by rw [hF, gI_sI, if_neg (by omega), gI_sI, if_pos ⟨rfl, rfl⟩]; rfl
  have t7267 : gI F 72 67 = jj := by rw [hF, gI_sI, if_neg (by omega), gI_sI, if_neg (by omega), gI_sI, if_pos ⟨rfl, rfl⟩, i32_id (by omega) (by omega)]
  have t728 : gI F 72 8 = gI S 72 8 := by
    rw [hF, gI_sI, if_neg (by omega), gI_sI, if_neg (by omega), gI_sI, if_neg (by omega)]; unfold gbS
    rw [gI_sI, if_pos ⟨rfl, rfl⟩, i32_gI]
  have f74 : ∀ i, 5 ≤ i → i < 68 → gI F 74 i = gI T' 77 (63 * 17 + (i - 5)) := fun i q1 q2 => by
    rw [hF, gI_sI, if_neg (by omega), gI_sI, if_neg (by omega), gI_sI, if_neg (by omega)]; unfold gbS
    rw [gI_sI, if_neg (by omega), gI_sF, if_neg (by omega), gI_sF, if_neg (by omega), gI_sF, if_pos ⟨rfl, q1, q2⟩, i32_gI]
  have f77 : ∀ i, 0 ≤ i → i < 1008 → gI F 77 i = gI T' 79 i := fun i q1 q2 => by
    rw [hF, gI_sI, if_neg (by omega), gI_sI, if_neg (by omega), gI_sI, if_neg (by omega)]; unfold gbS
    rw [gI_sI, if_neg (by omega), gI_sF, if_neg (by omega), gI_sF, if_pos ⟨rfl, q1, q2⟩, i32_gI]
  have f78 : ∀ i, 0 ≤ i → i < 16 → gI F 78 i = gI T' 80 i := fun i q1 q2 => by
    rw [hF, gI_sI, if_neg (by omega), gI_sI, if_neg (by omega), gI_sI, if_neg (by omega)]; unfold gbS
    rw [gI_sI, if_neg (by omega), gI_sF, if_pos ⟨rfl, q1, q2⟩, i32_gI]
  have tJ : ∀ a i, gJ F a i = gJ T' a i := fun _ _ => by rw [hF]; rfl
  have tQ : ∀ a i, gQ F a i = gQ T' a i := fun _ _ => by rw [hF]; rfl
  -- back to the class's end
  have mk6 : ∀ a i, ¬ (77 ≤ a ∧ a ≤ 78) → a ≠ 97 → ¬ (99 ≤ a ∧ a ≤ 109) → a ≠ 72 → ¬ (a = 74 ∧ 5 ≤ i ∧ i < 68) → gI T' a i = gI Z4 a i := fun a i q1 q2 q3 q4 q5 => hM.2.1 a i (by omega) (by omega) q2 q3 (by omega) q5
  have kE : ∀ a i, ¬ (77 ≤ a ∧ a ≤ 112 ∧ a ≠ 81) → ¬ (a = 72 ∧ ¬ (i = 11 ∨ i = 71)) → ¬ (a = 73 ∧ i = 3) → ¬ (a = 74 ∧ 5 ≤ i ∧ i < 68) → gI F a i = gI E a i := fun a i q1 q2 q3 q4 => by
    rw [tk a i (by omega) q3 q4 (by omega), hM.2.1 a i (by omega) (by omega) (by omega) (by omega) (by omega) q4, hZ.2.1 a i (by omega) (by omega) (by omega) (by omega)]
  have kQE : ∀ a i, gQ F a i = gQ C5 a i := fun a i => by rw [tQ, hM.2.2.2, hZ.2.2.2, hE, hC6]; rfl
  have kJE : ∀ a i, ¬ (a = 72) → ¬ (90 ≤ a ∧ a ≤ 92) → gJ F a i = gJ S6 a i := fun a i q1 q2 => by rw [tJ, hM.2.2.1 a i q2 (by omega), hZ.2.2.1 a i (by omega), hE, hC6, hC5]; rfl
  have e65 : ∀ a i, a ≠ 4 → a ≠ 71 → ¬ (27 ≤ a ∧ a ≤ 30) → gI E a i = gI C5 a i := fun a i q1 q2 q3 => by
    rw [hE, cR_I q1 q2, hC6]; unfold hcS
    rw [gI_sI, if_neg (by omega), gI_sF, if_neg (by omega), gI_sF, if_neg (by omega), gI_sF, if_neg (by omega)]
  have e56 : ∀ a i, ¬ (5 ≤ a ∧ a ≤ 11) → gI C5 a i = gI S6 a i := fun a i q => by rw [hC5, cpS_o (by omega)]
  have ks : ∀ a i, a ≠ 4 → ¬ (37 ≤ a ∧ a ≤ 55) → ¬ (a = 35 ∧ i = 1) → ¬ (12 ≤ a ∧ a ≤ 18) → ¬ (27 ≤ a ∧ a ≤ 34) → ¬ (57 ≤ a ∧ a ≤ 65) → a ≠ 68 → a ≠ 6 → a ≠ 7 → gI S6 a i = gI S a i := fun a i q1 q2 q3 q4 q5 q6 q7 q8 q9 => by
    rw [hO.2.1 a i q8 q9 (by omega) q6 q7 (by omega), k4 a i q4 (by omega) (by omega) q7, gI_sI, if_neg (by omega), hC.2.1 a i q2, gI_sI, if_neg q3, gI_sI, if_neg (by omega)]
  have w : ∀ a i, (19 ≤ a ∧ a ≤ 26) ∨ (a = 73 ∧ i ≠ 3) ∨ a = 75 ∨ a = 76 ∨ a = 81 ∨ a = 113 ∨ (a = 72 ∧ (i = 11 ∨ i = 71)) ∨ (a = 74 ∧ ¬ (5 ≤ i ∧ i < 68)) → gI F a i = gI S a i := fun a i q => by
    rw [kE a i (by omega) (by omega) (by omega) (by omega), e65 a i (by omega) (by omega) (by omega), e56 a i (by omega), ks a i (by omega) (by omega) (by omega) (by omega) (by omega) (by omega) (by omega) (by omega) (by omega)]
  have g74 : gI F 74 = gI S 74 := by
    funext i
    by_cases q : 5 ≤ i ∧ i < 68
    · rw [f74 i q.1 q.2, hM.2.1 77 _ (by omega) (by omega) (by omega) (by omega) (by omega) (by omega), show (63 * 17 + (i - 5) : Int) = 1071 + (i - 5) by omega]; exact z77 i q.1 q.2
    · exact w 74 i (by omega)
  have hist : ∀ i, 0 ≤ i → i < 16 → gI F 28 i = gI S 28 i ∧ gI F 29 i = gI S 29 i ∧ gI F 30 i = gI S 30 i := fun i q1 q2 => by
    obtain ⟨h1, h2, h3⟩ := hkept.2.2.2 i q1 q2
    have o : ∀ a, 31 ≤ a → a ≤ 34 → gI C5 a i = gI C4 a i := fun a w1 w2 => by rw [e56 a i (by omega), hO.2.1 a i (by omega) (by omega) (by omega) (by omega) (by omega) (by omega)]
    rw [kE 28 i (by omega) (by omega) (by omega) (by omega), kE 29 i (by omega) (by omega) (by omega) (by omega), kE 30 i (by omega) (by omega) (by omega) (by omega), hE, cR_I (by omega) (by omega), cR_I (by omega) (by omega), cR_I (by omega) (by omega), hC6]
    unfold hcS
    refine ⟨?_, ?_, ?_⟩
    · rw [gI_sI, if_neg (by omega), gI_sF, if_neg (by omega), gI_sF, if_neg (by omega), gI_sF, if_pos ⟨rfl, q1, q2⟩, i32_gI]; exact (o 32 (by omega) (by omega)).trans h1
    · rw [gI_sI, if_neg (by omega), gI_sF, if_neg (by omega), gI_sF, if_pos ⟨rfl, q1, q2⟩, i32_gI]; exact (o 33 (by omega) (by omega)).trans h2
    · rw [gI_sI, if_neg (by omega), gI_sF, if_pos ⟨rfl, q1, q2⟩, i32_gI]; exact (o 34 (by omega) (by omega)).trans h3
  have h27 : gI F 27 3 = gI S 27 3 := by
    rw [kE 27 3 (by omega) (by omega) (by omega) (by omega), hE, cR_I (by omega) (by omega), hC6]
    unfold hcS
    rw [gI_sI, if_pos ⟨rfl, rfl⟩, i32_gI, e56 31 3 (by omega), hO.2.1 31 3 (by omega) (by omega) (by omega) (by omega) (by omega) (by omega)]; exact hkept.2.2.1
  -- the class's line
  have R6 : RefOK S6 12 := hkept.2.1.fr hO.1 (fun i => hO.2.2.2 _ _ (by omega)) (fun i => hO.2.2.2 _ _ (by omega))
  have L6 : StRel PM QL S6 12 (gI S 74) := hkept.1.fr hG hO.1 (fun i => hO.2.1 _ _ (by omega) (by omega) (by omega) (by omega) (by omega) (by omega)) (fun i => hO.2.1 _ _ (by omega) (by omega) (by omega) (by omega) (by omega) (by omega)) (fun i => hO.2.1 _ _ (by omega) (by omega) (by omega) (by omega) (by omega) (by omega)) (fun i => hO.2.1 _ _ (by omega) (by omega) (by omega) (by omega) (by omega) (by omega)) (fun i => hO.2.1 _ _ (by omega) (by omega) (by omega) (by omega) (by omega) (by omega)) (fun i => hO.2.2.2 _ _ (by omega)) (fun i => hO.2.2.2 _ _ (by omega)) (fun _ => rfl)
  have R5 : RefOK C5 5 := by rw [hC5]; exact R6.cp
  have L5 : StRel PM QL C5 5 (gI S 74) := by rw [hC5]; exact L6.cp good2 st_5 (fun _ _ _ => rfl)
  have k5 : ∀ a i, 5 ≤ a → a ≤ 9 → gI F a i = gI C5 a i := fun a i q1 q2 => by rw [kE a i (by omega) (by omega) (by omega) (by omega), e65 a i (by omega) (by omega) (by omega)]
  have LF : StRel PM QL F 5 (gI S 74) := L5.fr hG hD5F (fun i => k5 _ _ (by omega) (by omega)) (fun i => k5 _ _ (by omega) (by omega)) (fun i => k5 _ _ (by omega) (by omega)) (fun i => k5 _ _ (by omega) (by omega)) (fun i => k5 _ _ (by omega) (by omega)) (fun i => kQE _ _) (fun i => kQE _ _) (fun _ => rfl)
  have RF : RefOK F 5 := R5.fr hD5F (fun i => kQE _ _) (fun i => kQE _ _)
  have z79' : ∀ i, 0 ≤ i → i < 1008 → gI F 77 i = gI S 77 i := fun i q1 q2 => by rw [f77 i q1 q2, mk6 79 i (by omega) (by omega) (by omega) (by omega) (by omega)]; exact z79 i q1 q2
  have z80' : ∀ i, 0 ≤ i → i < 16 → gI F 78 i = gI S 78 i := fun i q1 q2 => by rw [f78 i q1 q2, mk6 80 i (by omega) (by omega) (by omega) (by omega) (by omega)]; exact z80 i q1 q2
  have hL : LH PM QL F F := ⟨by rw [g74]; exact LF, (LH.of hI).2.fr8 h27 t728 hist z79' z80' (fun i _ _ => congrFun g74 i)⟩
  have e72 : ∀ i, i = 13 ∨ i = 18 → gI F 72 i = gI Z4 72 i := fun i q => by
    rw [tk 72 i (by omega) (by omega) (by omega) (by omega), hM.2.1 72 i (by omega) (by omega) (by omega) (by omega) (by omega) (by omega)]
  have kQ26 : ∀ i, gQ F 26 i = gQ S 26 i := fun i => by rw [kQE, hC5, cpS_q (by omega), hO.2.2.2 26 i (by omega), kQ4 26 i (by omega) (by omega) (by omega)]
  have kQ58 : ∀ i, gQ F 58 i = gQ S6 58 i := fun i => by rw [kQE, hC5, cpS_q (by omega)]
  refine hI.od hD (fun a i q => w a i (by omega)) (w 72 71 (by omega)) kQ26 RF (fun a i q => by rw [kJE a i (by omega) (by omega), hO.2.2.1 a i (by omega) (by omega), kJ4 a i (by omega) (by omega)]) (hX.keep2 (fun a i q => kJE a i (by omega) (by omega)) kQ58) (by rw [tk 72 20 (by omega) (by omega) (by omega) (by omega)]; exact h20) hL ?_ ?_
  · unfold MsRel
    have kc : ∀ i, i ≠ 16 → gI F 4 i = gI S6 4 i := fun i q => by
      rw [kE 4 i (by omega) (by omega) (by omega) (by omega), hE]; unfold cR
      rw [gI_sI, if_neg (by omega), gI_sI, if_neg (by omega), hC6]; unfold hcS
      rw [gI_sI, if_neg (by omega), gI_sF, if_neg (by omega), gI_sF, if_neg (by omega), gI_sF, if_neg (by omega), e56 4 i (by omega)]
    have k6 : ∀ i, i ≠ 19 → gI S6 4 i = gI (sI S' 4 17 (-1)) 4 i := fun i q => by
      rw [hO.2.1 4 i (by omega) (by omega) (by omega) (by omega) (by omega) (by omega), k4 4 i (by omega) (by omega) (by omega) (by omega)]
    have f1 : gI F 4 17 = -1 := by rw [kc 17 (by omega), k6 17 (by omega), gI_sI, if_pos ⟨rfl, rfl⟩]; rfl
    have f2 : gI F 4 18 = gI S 4 18 := by rw [kc 18 (by omega), k6 18 (by omega), gI_sI, if_neg (by omega), hC.2.1 4 18 (by omega), gI_sI, if_neg (by omega), gI_sI, if_neg (by omega)]
    have f3 : gI F 4 19 = jj := by rw [kc 19 (by omega)]; exact h19
    have f4 : gI F 4 16 = -3 := by
      rw [kE 4 16 (by omega) (by omega) (by omega) (by omega), hE]; unfold cR; simp (disch := first | omega | assumption | exact b01_rng _ | exact st_5 | exact st_12 | exact st_19 | (simp only [isSt_sI, isSt_sJ, isSt_sF, isSt_sG, isSt_sA]; assumption)) only [gI_sI, i_lit, i_add, i_sub, i_mul, i_neg, i_lt, i_le, i_eq, i32_gI, i64_gJ, i32_id, i32_to, i64_to, sI_i32, sJ_i64, b01_t, b01_f, i32_b01, b01_0, ↓a_s0, ↓n_s0, ↓a_s1, ↓n_s1, Int.add_zero, t_lt, f_lt, t_le, f_le, t_eq, f_eq, true_and, and_true, false_and, and_false, and_self, ↓reduceIte, z_bool_of, or_true, true_or, or_false, false_or, Int.neg_neg, not_true_eq_false, not_false_eq_true, lg_lt, lg_le, lg_gt, lg_ge, lg_eq, j_lit, j_add, j_sub, j_mul, j_neg, j_eq, i64_id, ij, ji, z_rt, Nat.reduceEqDiff, Nat.reduceAdd, Int.reduceAdd, Int.reduceSub, Int.reduceMul, Int.reduceNeg, Int.reduceLT, Int.reduceLE, Int.reduceEq, rix]
    have c71 : ∀ i, gI C6 71 i = gI S 71 i := fun i => by
      rw [hC6]; unfold hcS
      rw [gI_sI, if_neg (by omega), gI_sF, if_neg (by omega), gI_sF, if_neg (by omega), gI_sF, if_neg (by omega), e56 71 i (by omega), ks 71 i (by omega) (by omega) (by omega) (by omega) (by omega) (by omega) (by omega) (by omega) (by omega)]
    have f71 : ∀ i, i ≠ 2 → gI F 71 i = gI S 71 i := fun i q => by
      rw [kE 71 i (by omega) (by omega) (by omega) (by omega), hE]
      unfold cR rix; rw [gI_sI, if_neg (by simp only [Int.reduceNeg, Int.reduceEq, if_false, if_true]; omega), gI_sI, if_neg (by omega)]; exact c71 i
    have f712 : gI F 71 2 = i32 (gI S 71 2 + 1) := by
      rw [kE 71 2 (by omega) (by omega) (by omega) (by omega), hE]
      unfold cR; simp (disch := first | omega | assumption | exact b01_rng _ | exact st_5 | exact st_12 | exact st_19 | (simp only [isSt_sI, isSt_sJ, isSt_sF, isSt_sG, isSt_sA]; assumption)) only [gI_sI, i_lit, i_add, i_sub, i_mul, i_neg, i_lt, i_le, i_eq, i32_gI, i64_gJ, i32_id, i32_to, i64_to, sI_i32, sJ_i64, b01_t, b01_f, i32_b01, b01_0, ↓a_s0, ↓n_s0, ↓a_s1, ↓n_s1, Int.add_zero, t_lt, f_lt, t_le, f_le, t_eq, f_eq, true_and, and_true, false_and, and_false, and_self, ↓reduceIte, z_bool_of, or_true, true_or, or_false, false_or, Int.neg_neg, not_true_eq_false, not_false_eq_true, lg_lt, lg_le, lg_gt, lg_ge, lg_eq, j_lit, j_add, j_sub, j_mul, j_neg, j_eq, i64_id, ij, ji, z_rt, Nat.reduceEqDiff, Nat.reduceAdd, Int.reduceAdd, Int.reduceSub, Int.reduceMul, Int.reduceNeg, Int.reduceLT, Int.reduceLE, Int.reduceEq, rix, c71]
    have f73 : ∀ i, i ≠ 3 → gI F 73 i = gI S 73 i := fun i q => w 73 i (by omega)
    have f733 : gI F 73 3 = i32 (gI S 73 3 + 1) := by
      rw [t73, mk6 73 3 (by omega) (by omega) (by omega) (by omega) (by omega), hZ.2.1 73 3 (by omega) (by omega) (by omega) (by omega), e65 73 3 (by omega) (by omega) (by omega), e56 73 3 (by omega), ks 73 3 (by omega) (by omega) (by omega) (by omega) (by omega) (by omega) (by omega) (by omega) (by omega)]
    rw [f1, f2, f3, f4, e72 18 (by omega), hz.2.1, w 72 11 (by omega), t7267, t721, f71 0 (by omega), f71 1 (by omega), f712, f71 3 (by omega), f71 4 (by omega), f73 1 (by omega), f73 2 (by omega), f733, f73 5 (by omega), f73 6 (by omega), m7]
    exact ⟨rfl, m2, rfl, rfl, m5, m6, rfl, m8, m9⟩
  · have t13 : gI F 72 13 = 0 := by rw [e72 13 (by omega)]; exact hz.1
    have t35 : gI F 35 1 = 0 := by
      rw [kE 35 1 (by omega) (by omega) (by omega) (by omega), e65 35 1 (by omega) (by omega) (by omega), e56 35 1 (by omega), hO.2.1 35 1 (by omega) (by omega) (by omega) (by omega) (by omega) (by omega), k4 35 1 (by omega) (by omega) (by omega) (by omega), gI_sI, if_neg (by omega), hC.2.1 35 1 (by omega), gI_sI, if_pos ⟨rfl, rfl⟩]; rfl
    exact ⟨⟨by rw [t13, t35], by rw [t13]; omega, by rw [t13]; omega⟩, fun i q1 q2 => by rw [t13] at q2; omega⟩
theorem p_orders (hd : 300 ≤ d) {S : zS} (hI : Inv PM QL S) : PairAt PM QL X 106 264 [] S d := by
  have hG := good2.g
  have hfx := hI.2.2.2.2.2.2
  obtain ⟨⟨t1, t2, t3⟩, t4⟩ := id hI.2.2.1
  obtain ⟨T, hT, hx⟩ := x106t (X := X) (d := d) (by omega) hI.2.2.1
  have hr : ∀ e, r32 (tpos (gI S 81) (gI S 72 13) e) := fun e => by
    have := tpos_rng (b := gI S 81) t2 e; omega
  have hKW : KW S := ⟨hfx.2.2.2.1, hfx.2.2.2.2.1⟩
  have hKO : KO S := hfx.2.2.2.2.2.2.2.1
  have kko : ∀ C : zS, (∀ a i, 70 ≤ a → gJ C a i = gJ S a i) → KW C ∧ KO C := fun C w0 => ⟨hKW.fr (fun a i q => w0 a i (by omega)), by unfold KO; rw [w0 111 _ (by omega), w0 111 _ (by omega), w0 111 _ (by omega), w0 111 _ (by omega)]; exact hKO⟩
  have hH := (LH.of hI).2.1
  have hr8 : r32 (gI S 72 8) := gI_rng S 72 8
  cases hp : pTx (gI S 81) (gI S 72 13) 1 with
  | inl e =>
    rw [hp] at hx
    obtain ⟨S', g1, g2⟩ := hx
    have c1 : ∀ a i, ¬ (37 ≤ a ∧ a ≤ 55) → ¬ (a = 35 ∧ i = 1) → a ≠ 4 → a ≠ 71 → gI (cR (sI S' 4 17 (tpos (gI S 81) (gI S 72 13) e)) (-6)) a i = gI S a i := fun a i q1 q2 q3 q4 => by
      rw [cR_I q3 q4, gI_sI, if_neg (by omega), g2.2.1 a i q1, gI_sI, if_neg q2, gI_sI, if_neg (by omega)]
    obtain ⟨kw, ko⟩ := kko (cR (sI S' 4 17 (tpos (gI S 81) (gI S 72 13) e)) (-6)) (fun a i _ => g2.2.2.1 a i)
    have hy := x264t (X := X) (d := d) (by omega) hT kw ko (c1 72 13 (by omega) (by omega) (by omega) (by omega)) (funext fun i => c1 81 i (by omega) (by omega) (by omega) (by omega))
    rw [hp] at hy
    obtain ⟨Z, z1, z2, z3, z4⟩ := hy
    obtain ⟨v1, v2⟩ := orders_bad hI g2 (hr e) z2 z3.2 z4
    exact pair_ok _ _ g1 z1 v1 v2
  | inr y =>
    obtain ⟨cls, p⟩ := y
    rw [hp] at hx
    obtain ⟨S', g1, g2, g3, g4, g5, g6, g7, g8, g9, g10⟩ := hx
    have hT0 : LH PM QL S (gh0 S) := by
      have h := LH.of hI
      refine ⟨by rw [show gI (gh0 S) 74 = gI S 74 from funext fun i => by rw [gI_sF, if_neg (by omega)]]; exact h.1, h.2.fr8 rfl (by rw [gI_sF, if_neg (by omega)]) (fun _ _ _ => ⟨rfl, rfl, rfl⟩) (fun i q1 q2 => by rw [gI_sF, if_neg (by omega)]) (fun i q1 q2 => by rw [gI_sF, if_neg (by omega)]) (fun i q1 q2 => by rw [gI_sF, if_neg (by omega)])⟩
    obtain ⟨C4, S6, y3, y4, y5, u1, u2, k4, kJ4, kQ4, hD4, hkept, u3⟩ := orders_cls (X := X) (d := d) hd hI g2 g3 g4 g5 g6 g7 g8 g9 g10 (pTx_o hp) hT0 (funext fun i => by rw [gI_sF, if_neg (by omega)])
    have kJ6 : ∀ a i, 70 ≤ a → gJ S6 a i = gJ S a i := fun a i q => by rw [u2.2.2.1 a i (by omega) (by omega), kJ4 a i (by omega) (by omega)]
    have k6 : ∀ a i, a = 72 ∨ a = 74 ∨ a = 77 ∨ a = 78 ∨ a = 81 → gI S6 a i = gI S a i := fun a i q => by
      rw [u2.2.1 a i (by omega) (by omega) (by omega) (by omega) (by omega) (by omega), k4 a i (by omega) (by omega) (by omega) (by omega), gI_sI, if_neg (by omega), g2.2.1 a i (by omega), gI_sI, if_neg (by omega), gI_sI, if_neg (by omega)]
    rcases u3 with ⟨h19, T0', done', latest', hOR, hgo⟩ | ⟨jj, hj, h19, hX, hgo⟩
    · -- done
      obtain ⟨F, hw, -⟩ := hOR.2.2.1
      have hdn := hOR.2.2.2.1
      have e68 : gI S6 68 1 = done' := by rw [hw 1 (by omega) (by omega)]; unfold ordW; rw [if_neg (by omega), if_pos rfl]
      have hc : z_ev X d (z_entry 106 [.ref 4] (mk S)) = some (vI done', mk (sI S6 4 16 0)) := by
        have c135' := fun {cm cp : Nat} {L : zL} {st : List Value} => c135 (X := X) (d := d) (by omega) (cm := cm) (cp := cp) (L := L) (st := st) (S := S6) done'
        rw [g1, u1]
        simp (disch := first | omega | assumption | exact b01_rng _ | exact st_5 | exact st_12 | exact st_19 | (simp only [isSt_sI, isSt_sJ, isSt_sF, isSt_sG, isSt_sA]; assumption)) only [↓B106_181, ↓B106_218, ↓B106_228, ↓a_68, ↓n_68, ↓o_19, ↓o_27, ↓o_31, ↓o_37, ↓o_4, ↓o_5, ↓o_52, ↓o_53, ↓r_37_5, ↓r_4_0, ↓r_4_1, ↓r_4_12, ↓r_4_19, ↓r_4_4, ↓r_4_5, ↓r_4_6, ↓r_4_7, ↓r_4_9, ↓r_52_0, ↓r_53_2, ↓r_53_4, ↓s_68, ↓w_35_1, ↓w_4_17, ↓w_4_19, ↓o_4, h19, e68, c135', i_lit, i_add, i_sub, i_mul, i_neg, i_lt, i_le, i_eq, i32_gI, i64_gJ, i32_id, i32_to, i64_to, sI_i32, sJ_i64, b01_t, b01_f, i32_b01, b01_0, ↓a_s0, ↓n_s0, ↓a_s1, ↓n_s1, Int.add_zero, t_lt, f_lt, t_le, f_le, t_eq, f_eq, true_and, and_true, false_and, and_false, and_self, ↓reduceIte, z_bool_of, or_true, true_or, or_false, false_or, Int.neg_neg, not_true_eq_false, not_false_eq_true, lg_lt, lg_le, lg_gt, lg_ge, lg_eq, j_lit, j_add, j_sub, j_mul, j_neg, j_eq, i64_id, ij, ji, z_rt, Nat.reduceEqDiff, Nat.reduceAdd, Int.reduceAdd, Int.reduceSub, Int.reduceMul, Int.reduceNeg, Int.reduceLT, Int.reduceLE, Int.reduceEq]
      have k6e : ∀ a i, a = 72 ∨ a = 74 ∨ a = 77 ∨ a = 78 ∨ a = 81 → gI (sI S6 4 16 0) a i = gI S a i := fun a i q => by rw [gI_sI, if_neg (by omega)]; exact k6 a i q
      obtain ⟨kw, ko⟩ := kko (sI S6 4 16 0) (fun a i q => kJ6 a i q)
      obtain ⟨Z4, z1, z2, z3, z4, z5, z6, z7, z8⟩ := orders_mid (X := X) (d := d) (by omega) (S := S) (E := sI S6 4 16 0) hT hp kw ko (k6e 72 13 (by omega)) (funext fun i => k6e 81 i (by omega)) (funext fun i => k6e 74 i (by omega)) (fun i => k6e 77 i (by omega)) (fun i => k6e 78 i (by omega)) (k6e 72 8 (by omega)) hH.2
      obtain ⟨T', w2, w3, t1, t2, t3⟩ := hgo Z4 (gI S 72 8) none hr8 z3 z4
      have hm : z_ev X d (z_entry 264 [.ref 72] (mk (sI S6 4 16 0))) = some (vI done', mk (sI T' 72 1 0)) := by
        have c153' := fun {cm cp : Nat} {L : zL} {st : List Value} => c153 (X := X) (d := d) (by omega) (cm := cm) (cp := cp) (L := L) (st := st) (S := T') done' (by omega)
        rw [if_neg (by omega)] at c153'
        have e65 := t3.2.1
        rw [z1, t1]
        simp (disch := first | omega | assumption | exact b01_rng _ | exact st_5 | exact st_12 | exact st_19 | (simp only [isSt_sI, isSt_sJ, isSt_sF, isSt_sG, isSt_sA]; assumption)) only [↓B264_206, ↓B264_214, ↓a_112, ↓a_77, ↓a_78, ↓a_79, ↓a_80, ↓n_112, ↓n_77, ↓n_78, ↓n_79, ↓n_80, ↓o_72, ↓r_72_10, ↓r_72_19, ↓r_72_21, ↓r_72_6, ↓r_72_64, ↓r_72_65, ↓r_72_7, ↓r_72_8, ↓r_72_9, ↓s_112, ↓s_77, ↓s_78, ↓s_79, ↓s_80, ↓w_72_0, ↓w_72_65, ↓w_72_66, ↓w_72_67, ↓o_72, e65, c153', i_lit, i_add, i_sub, i_mul, i_neg, i_lt, i_le, i_eq, i32_gI, i64_gJ, i32_id, i32_to, i64_to, sI_i32, sJ_i64, b01_t, b01_f, i32_b01, b01_0, ↓a_s0, ↓n_s0, ↓a_s1, ↓n_s1, Int.add_zero, t_lt, f_lt, t_le, f_le, t_eq, f_eq, true_and, and_true, false_and, and_false, and_self, ↓reduceIte, z_bool_of, or_true, true_or, or_false, false_or, Int.neg_neg, not_true_eq_false, not_false_eq_true, lg_lt, lg_le, lg_gt, lg_ge, lg_eq, j_lit, j_add, j_sub, j_mul, j_neg, j_eq, i64_id, ij, ji, z_rt, Nat.reduceEqDiff, Nat.reduceAdd, Int.reduceAdd, Int.reduceSub, Int.reduceMul, Int.reduceNeg, Int.reduceLT, Int.reduceLE, Int.reduceEq]
      obtain ⟨v1, v2⟩ := orders_ok hI g2 k4 kJ4 kQ4 hD4 u2 h19 hOR z2 z5 t2 t3
      exact pair_ok _ _ hc hm v1 v2
    · -- refused
      have R6 : RefOK S6 12 := hkept.2.1.fr u2.1 (fun i => u2.2.2.2 _ _ (by omega)) (fun i => u2.2.2.2 _ _ (by omega))
      have hne : ¬ jj = -1 := by omega
      have hc : z_ev X d (z_entry 106 [.ref 4] (mk S)) = some (vI (-3), mk (cR (hcS (cpS S6 5 12) 27 31) (-3))) := by
        have c63' := fun {cm cp : Nat} {L : zL} {st : List Value} => c63 (X := X) (d := d) (by omega) (cm := cm) (cp := cp) (L := L) (st := st) (S := S6) (s := 5) (o := 12) st_5 st_12 (by omega) R6
        have c20' := fun {cm cp : Nat} {L : zL} {st : List Value} => c20b (X := X) (d := d) (by omega) (cm := cm) (cp := cp) (L := L) (st := st) (S := cpS S6 5 12)
        have c134' := fun {cm cp : Nat} {L : zL} {st : List Value} => c134 (X := X) (d := d) (by omega) (cm := cm) (cp := cp) (L := L) (st := st) (S := hcS (cpS S6 5 12) 27 31) (-3) (by omega)
        rw [g1, u1]
        simp (disch := first | omega | assumption | exact b01_rng _ | exact st_5 | exact st_12 | exact st_19 | (simp only [isSt_sI, isSt_sJ, isSt_sF, isSt_sG, isSt_sA]; assumption)) only [↓B106_181, ↓B106_189, ↓B106_200, ↓B106_211, ↓B106_217, ↓a_68, ↓n_68, ↓o_19, ↓o_27, ↓o_31, ↓o_37, ↓o_4, ↓o_5, ↓o_52, ↓o_53, ↓r_37_5, ↓r_4_0, ↓r_4_1, ↓r_4_12, ↓r_4_19, ↓r_4_4, ↓r_4_5, ↓r_4_6, ↓r_4_7, ↓r_4_9, ↓r_52_0, ↓r_53_2, ↓r_53_4, ↓s_68, ↓w_35_1, ↓w_4_17, ↓w_4_19, ↓o_4, ↓o_5, ↓o_27, h19, hne, c63', c20', c134', i_lit, i_add, i_sub, i_mul, i_neg, i_lt, i_le, i_eq, i32_gI, i64_gJ, i32_id, i32_to, i64_to, sI_i32, sJ_i64, b01_t, b01_f, i32_b01, b01_0, ↓a_s0, ↓n_s0, ↓a_s1, ↓n_s1, Int.add_zero, t_lt, f_lt, t_le, f_le, t_eq, f_eq, true_and, and_true, false_and, and_false, and_self, ↓reduceIte, z_bool_of, or_true, true_or, or_false, false_or, Int.neg_neg, not_true_eq_false, not_false_eq_true, lg_lt, lg_le, lg_gt, lg_ge, lg_eq, j_lit, j_add, j_sub, j_mul, j_neg, j_eq, i64_id, ij, ji, z_rt, Nat.reduceEqDiff, Nat.reduceAdd, Int.reduceAdd, Int.reduceSub, Int.reduceMul, Int.reduceNeg, Int.reduceLT, Int.reduceLE, Int.reduceEq]
      have k6e : ∀ a i, a = 72 ∨ a = 74 ∨ a = 77 ∨ a = 78 ∨ a = 81 → gI (cR (hcS (cpS S6 5 12) 27 31) (-3)) a i = gI S a i := fun a i q => by
        rw [cR_I (by omega) (by omega)]; unfold hcS
        rw [gI_sI, if_neg (by omega), gI_sF, if_neg (by omega), gI_sF, if_neg (by omega), gI_sF, if_neg (by omega), cpS_o (by omega)]; exact k6 a i q
      obtain ⟨kw, ko⟩ := kko (cR (hcS (cpS S6 5 12) 27 31) (-3)) (fun a i q => kJ6 a i q)
      obtain ⟨Z4, z1, z2, z3, z4, z5, z6, z7, z8⟩ := orders_mid (X := X) (d := d) (by omega) (S := S) (E := cR (hcS (cpS S6 5 12) 27 31) (-3)) hT hp kw ko (k6e 72 13 (by omega)) (funext fun i => k6e 81 i (by omega)) (funext fun i => k6e 74 i (by omega)) (fun i => k6e 77 i (by omega)) (fun i => k6e 78 i (by omega)) (k6e 72 8 (by omega)) hH.2
      obtain ⟨T', t', q1, q2, q3⟩ := hgo Z4 (gI S 72 8) none hr8 z3 z4
      have hm : z_ev X d (z_entry 264 [.ref 72] (mk (cR (hcS (cpS S6 5 12) 27 31) (-3)))) = some (vI (-3), mk (tellS (sI (gbS T' (gI S 72 8)) 72 67 jj) (-3))) := by
        have c265' := fun {cm cp : Nat} {L : zL} {st : List Value} => evV (X := X) (d := d) (by omega) (x265 (X := X) (d := 5) (by omega) (T := T') (had := gI S 72 8) hH.2) (cm := cm) (cp := cp) (L := L) (st := st)
        have c153' := fun {cm cp : Nat} {L : zL} {st : List Value} => c153 (X := X) (d := d) (by omega) (cm := cm) (cp := cp) (L := L) (st := st) (S := sI (gbS T' (gI S 72 8)) 72 67 jj) (-3) (by omega)
        rw [z1, q1]
        unfold tellS
        simp (disch := first | omega | assumption | exact b01_rng _ | exact st_5 | exact st_12 | exact st_19 | (simp only [isSt_sI, isSt_sJ, isSt_sF, isSt_sG, isSt_sA]; assumption)) only [↓B264_177, ↓B264_182, ↓B264_193, ↓a_112, ↓a_77, ↓a_78, ↓a_79, ↓a_80, ↓n_112, ↓n_77, ↓n_78, ↓n_79, ↓n_80, ↓o_72, ↓r_72_10, ↓r_72_19, ↓r_72_21, ↓r_72_6, ↓r_72_64, ↓r_72_65, ↓r_72_7, ↓r_72_8, ↓r_72_9, ↓s_112, ↓s_77, ↓s_78, ↓s_79, ↓s_80, ↓w_72_0, ↓w_72_65, ↓w_72_66, ↓w_72_67, ↓o_72, c265', c153', i_lit, i_add, i_sub, i_mul, i_neg, i_lt, i_le, i_eq, i32_gI, i64_gJ, i32_id, i32_to, i64_to, sI_i32, sJ_i64, b01_t, b01_f, i32_b01, b01_0, ↓a_s0, ↓n_s0, ↓a_s1, ↓n_s1, Int.add_zero, t_lt, f_lt, t_le, f_le, t_eq, f_eq, true_and, and_true, false_and, and_false, and_self, ↓reduceIte, z_bool_of, or_true, true_or, or_false, false_or, Int.neg_neg, not_true_eq_false, not_false_eq_true, lg_lt, lg_le, lg_gt, lg_ge, lg_eq, j_lit, j_add, j_sub, j_mul, j_neg, j_eq, i64_id, ij, ji, z_rt, Nat.reduceEqDiff, Nat.reduceAdd, Int.reduceAdd, Int.reduceSub, Int.reduceMul, Int.reduceNeg, Int.reduceLT, Int.reduceLE, Int.reduceEq]
      obtain ⟨v1, v2⟩ := orders_ng hI g2 k4 kJ4 kQ4 hD4 hkept u2 hj h19 hX z2 z5 z6 z7 z8 q2 q3
      exact pair_ok _ _ hc hm v1 v2
end
