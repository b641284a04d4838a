/-! ORDERS: one turn on both sides -/
section
variable {X : zX} {d : Nat} {S T0 : zS} {done latest asks : Int} {F : Int → Int}
theorem LH.gb {S T0 : zS} (h : LH PM QL S T0) : GB (gI T0 74) := h.1.gb
/-- the reference's way to the test -/
theorem frontA (hd : 50 < d) (hL : LH PM QL S T0) (hF : FOK asks (gI T0 74) F) (ha : asks = 0 ∨ asks = 1) (hdn : 0 ≤ done ∧ done ≤ 240) (hl : -1 ≤ latest ∧ latest ≤ 6) {T : zS} {c : Int} (hc : r32 c) (hS : ORS T0 T done latest) : ∃ (T1 : zS) (rr : Int), z_ev X d (z_entry 263 [.ref 72, .int (Int32.ofInt c)] (mk T)) = z_ev X d (263, 53, L263 c none none none, [.int (Int32.ofInt rr), .ref 72], mk T1) ∧ FrOm T T1 ∧ ORS T0 T1 done latest ∧ (0 ≤ rr ∧ rr < 64) ∧ (∀ i, 0 ≤ i → i < 4 → gJ T1 91 (i + 1) = ordW (gI T0 74) done latest (bF rr) i) ∧ ∀ e : Ev, (asks = 0 → NS e) → e (ordW (gI T0 74) done latest F) = e (ordW (gI T0 74) done latest (bF rr)) := by
  have h1 := hL.1.2.1.2
  rcases ha with q | q
  · obtain ⟨o, cls, l1, l2, -⟩ := hL.1.law st_5 (k := gI T0 74 4) ⟨hL.1.2.2.2.2.1.2.1, hL.1.2.2.2.2.1.2.2⟩
    obtain ⟨T1, rr, u1, u2, u3, u4, u5, u6⟩ := pre263 (X := X) (d := d) (c := c) (by omega) hS hdn hl hL.gb h1 hL.1.mets l2 hc
    exact ⟨T1, rr, u1, u2, u3, u4, u6, fun e hN => ow_eq hN (Or.inl q) (fun z => by omega)⟩
  · obtain ⟨cls, r0, l2, l3, l4⟩ := hF.2 q
    obtain ⟨T1, rr, u1, u2, u3, u4, u5, u6⟩ := pre263 (X := X) (d := d) (c := c) (by omega) hS hdn hl hL.gb h1 hL.1.mets l2 hc
    refine ⟨T1, rr, u1, u2, u3, u4, u6, fun e hN => ow_eq hN (Or.inr q) (fun _ k q1 q2 => ?_)⟩
    rw [l4 k q1 q2]
    have := l3.uniq u5
    unfold bit1
    rw [this]
theorem frontB (hd : 50 < d) (hL : LH PM QL S T0) (hF : FOK asks (gI T0 74) F) (ha : asks = 0 ∨ asks = 1) (hdn : 0 ≤ done ∧ done ≤ 240) (hl : -1 ≤ latest ∧ latest ≤ 6) {cl : Cl} {j : Nat} (hj : j < 12) (hOK : ClOK cl asks) {T : zS} {kk : Int} (hS : ORS T0 T done latest) (hR : ROc (IM 1 T) kk (gI T 112) j cl) (hkk : kk ≤ 400) : ((∃ e, cl.2.2.2.2 = some e ∧ e (ordW (gI T0 74) done latest F) ≠ some 1) → ∃ T' : zS, z_ev X d (z_entry 263 [.ref 72, .int (Int32.ofInt (8 * (j : Int)))] (mk T)) = some (vI 0, mk T') ∧ FrOm T T' ∧ ORS T0 T' done latest) ∧ ((∀ e, cl.2.2.2.2 = some e → e (ordW (gI T0 74) done latest F) = some 1) → ∃ (T' : zS) (one two : Int), z_ev X d (z_entry 263 [.ref 72, .int (Int32.ofInt (8 * (j : Int)))] (mk T)) = z_ev X d (263, 117, L263 (8 * (j : Int)) (vI one) none none, [.int (Int32.ofInt two)], mk T') ∧ FrOm T T' ∧ ORS T0 T' done latest ∧ gI T' 112 (8 * (j : Int)) = okw cl.1 ∧ ((gI T' 72 68 = 1 ∧ ((∃ e, cl.2.2.1 = some e ∧ e (ordW (gI T0 74) done latest F) = none) ∨ ∃ e, cl.2.2.2.1 = some e ∧ e (ordW (gI T0 74) done latest F) = none)) ∨ (gI T' 72 68 = 0 ∧ VR cl.2.2.1 (ordW (gI T0 74) done latest F) one ∧ VR cl.2.2.2.1 (ordW (gI T0 74) done latest F) two))) := by
  obtain ⟨o1, o2, o3, o4, o5⟩ := hOK
  have hG := hL.gb
  have h1 := hL.1.2.1.2
  obtain ⟨T1, rr, u1, u2, u3, u4, u5, u6⟩ := frontA (X := X) (d := d) hd hL hF ha hdn hl (c := 8 * (j : Int)) (by omega) hS
  have hW := ordW_b (F := bF rr) hG hdn hl (bF_b rr)
  have im1 : IM 1 T1 = IM 1 T := by funext k; unfold IM; rw [u2.2.1 83 k (by omega) (by omega) (by omega) (by omega) (by omega) (by omega), u2.2.1 84 k (by omega) (by omega) (by omega) (by omega) (by omega) (by omega)]
  have c1 : gI T1 112 = gI T 112 := funext fun i => u2.2.1 112 i (by omega) (by omega) (by omega) (by omega) (by omega) (by omega)
  have g1 : gI T1 74 = gI T0 74 := funext fun i => u3.1.1 74 i (by omega)
  have hR1 : ROc (IM 1 T1) kk (gI T1 112) j cl := by rw [im1, c1]; exact hR
  have h74 : 0 ≤ gI T0 74 0 ∧ gI T0 74 0 ≤ 20 ∧ 0 ≤ gI T0 74 1 ∧ gI T0 74 1 ≤ 6 := ⟨hG.1.1, hG.1.2, h1.1, h1.2⟩
  have eq3 : ∀ e, cl.2.2.2.2 = some e → e (ordW (gI T0 74) done latest F) = e (ordW (gI T0 74) done latest (bF rr)) := fun e he => u6 e (o3 e he).2
  have key := tst263 (X := X) (d := d) (c := 8 * (j : Int)) (by omega) g1 rfl hj hR1 hkk u4 u3 hW u5 h74 o4
  refine ⟨fun ⟨e, he, hne⟩ => ?_, fun hall => ?_⟩
  · rcases key with ⟨-, T', v1, v2, v3⟩ | ⟨h, -⟩
    · exact ⟨T', u1.trans v1, u2.tr v2, v3⟩
    · exact absurd (by rw [eq3 e he]; exact h e he) hne
  · rcases key with ⟨⟨e, he, hne⟩, -⟩ | ⟨-, T2, x2, v1, v2, v3, v4, v5, v6, v7, v8⟩
    · exact absurd (by rw [← eq3 e he]; exact hall e he) hne
    · have g2 : gI T2 74 = gI T0 74 := v8.trans g1
      obtain ⟨T', one, two, w1, w2, w3, w4⟩ := sum263 (X := X) (d := d) (c := 8 * (j : Int)) (x2 := x2) (by omega) g2 rfl hj (by rw [v6, v7]; exact hR1) hkk v4 v3.2.2.2 hW v5 h74
      refine ⟨T', one, two, u1.trans (v1.trans w1), (u2.tr v2).tr w2.om, w2.rs w3 v3, ?_, ?_⟩
      · rw [w2.2.1 112 _ (by omega), v7, c1]; exact hR.1.1
      · have e1 : ∀ e, cl.2.2.1 = some e → e (ordW (gI T0 74) done latest F) = e (ordW (gI T0 74) done latest (bF rr)) := fun e he => u6 e (o1 e he).2
        have e2 : ∀ e, cl.2.2.2.1 = some e → e (ordW (gI T0 74) done latest F) = e (ordW (gI T0 74) done latest (bF rr)) := fun e he => u6 e (o2 e he).2
        rcases w4 with ⟨z1, ⟨e, z2, z3⟩ | ⟨e, z2, z3⟩⟩ | ⟨z1, z2, z3⟩
        · exact Or.inl ⟨z1, Or.inl ⟨e, z2, by rw [e1 e z2]; exact z3⟩⟩
        · exact Or.inl ⟨z1, Or.inr ⟨e, z2, by rw [e2 e z2]; exact z3⟩⟩
        · refine Or.inr ⟨z1, ?_, ?_⟩
          · rcases z2 with z2 | ⟨e, y1, y2⟩
            · exact Or.inl z2
            · exact Or.inr ⟨e, y1, by rw [e1 e y1]; exact y2⟩
          · rcases z3 with z3 | ⟨e, y1, y2⟩
            · exact Or.inl z3
            · exact Or.inr ⟨e, y1, by rw [e2 e y1]; exact y2⟩
theorem VR.ev {x : Option Ev} {w : Int → Int} {r : Int} (h : VR x w r) : (r = -1 ∧ eV x w = -2000000000) ∨ eV x w = r := by
  rcases h with ⟨rfl, h⟩ | ⟨e, rfl, h⟩
  · exact Or.inl ⟨h, rfl⟩
  · exact Or.inr (eV_v h)
theorem VR.b {x : Option Ev} {w : Int → Int} {r : Int} (h : VR x w r) (hW : WB w) (hb : ∀ e, x = some e → EB e) : r32 r := by
  rcases h with ⟨rfl, rfl⟩ | ⟨e, h1, h2⟩
  · omega
  · have := hb e h1 w hW r h2; omega
theorem off_ev {x : Option Ev} {w : Int → Int} {e : Ev} (h1 : x = some e) (h2 : e w = none) : eV x w = -2000000000 := by
  subst h1; exact eV_n h2
theorem off263 (hd : 0 < d) {T : zS} {c one two : Int} (h68 : gI T 72 68 = 1) : z_ev X d (263, 117, L263 c (vI one) none none, [.int (Int32.ofInt two)], mk T) = some (vI (-3), mk T) := by
  simp (disch := first | omega | assumption | exact b01_rng _ | exact st_5 | exact st_12 | exact st_19 | (simp only [isSt_sI, isSt_sJ, isSt_sF, isSt_sG, isSt_sA]; assumption)) only [↓B263_117, ↓B263_125, ↓a_112, ↓a_74, ↓a_91, ↓n_112, ↓n_74, ↓n_91, ↓o_72, ↓r_72_3, ↓r_72_36, ↓r_72_64, ↓r_72_65, ↓r_72_66, ↓r_72_68, ↓s_112, ↓s_74, ↓s_91, ↓w_72_40, ↓w_72_65, ↓w_72_66, ↓w_72_68, h68, i_lit, i_add, i_sub, i_mul, i_neg, i_lt, i_le, i_eq, i32_gI, i64_gJ, i32_id, i32_to, i64_to, sI_i32, sJ_i64, b01_t, b01_f, i32_b01, b01_0, ↓a_s0, ↓n_s0, ↓a_s1, ↓n_s1, Int.add_zero, t_lt, f_lt, t_le, f_le, t_eq, f_eq, true_and, and_true, false_and, and_false, and_self, ↓reduceIte, z_bool_of, or_true, true_or, or_false, false_or, Int.neg_neg, not_true_eq_false, not_false_eq_true, lg_lt, lg_le, lg_gt, lg_ge, lg_eq, j_lit, j_add, j_sub, j_mul, j_neg, j_eq, i64_id, ij, ji, z_rt, Nat.reduceEqDiff, Nat.reduceAdd, Int.reduceAdd, Int.reduceSub, Int.reduceMul, Int.reduceNeg, Int.reduceLT, Int.reduceLE, Int.reduceEq]
/-- what a turn of the class answers, and the reference's with it -/
def TurnR (X : zX) (d : Nat) (cl : Cl) (j : Nat) (S T0 : zS) (done latest asks : Int) (S' : zS) (ok : Int) : Prop := (ok = 1 ∧ ∃ (T0' : zS) (done' latest' : Int), OR S' T0' done' latest' asks ∧ (done ≤ done' ∧ done' ≤ done + 1) ∧ ∀ (T : zS) (kk : Int), ORS T0 T done latest → ROc (IM 1 T) kk (gI T 112) j cl → kk ≤ 400 → ∃ T' : zS, z_ev X d (z_entry 263 [.ref 72, .int (Int32.ofInt (8 * (j : Int)))] (mk T)) = some (vI 0, mk T') ∧ FrOm T T' ∧ ORS T0' T' done' latest') ∨ (ok = 0 ∧ FxC S' ∧ ∀ (T : zS) (kk : Int), ORS T0 T done latest → ROc (IM 1 T) kk (gI T 112) j cl → kk ≤ 400 → ∃ T' : zS, z_ev X d (z_entry 263 [.ref 72, .int (Int32.ofInt (8 * (j : Int)))] (mk T)) = some (vI (-3), mk T') ∧ FrOm T T' ∧ gI T' 72 20 = 0)
theorem turn (hd : 100 < d) {cl : Cl} {j : Nat} {sz : Int} (hj : j < 12) (h52 : gI S 52 1 = 1) (hsz : sz ≤ 436) (hC : CCl (IC S) sz (gI S 55) j cl) (hOK : ClOK cl asks) (hK : OrK cl) (ha : asks = 0 ∨ asks = 1) (h534 : gI S 53 4 = asks) (hO : OR S T0 done latest asks) (hdn : done < 240) : ∃ (S' : zS) (ok : Int), z_ev X d (z_entry 145 [.ref 4, .ref 53, .int (Int32.ofInt (j : Int))] (mk S)) = some (vI ok, mk S') ∧ FrOc S S' ∧ TurnR X d cl j S T0 done latest asks S' ok := by
  obtain ⟨hL, hX, ⟨F, hw, hF⟩, hdb, hlb⟩ := id hO
  have hG := hL.gb
  have h1 := hL.1.2.1.2
  have hH := hL.2.1
  have hW := ordW_b (F := F) hG hdb hlb hF.1
  have fb := fun {T : zS} {kk : Int} (hS : ORS T0 T done latest) (hR : ROc (IM 1 T) kk (gI T 112) j cl) (hkk : kk ≤ 400) => frontB (X := X) (d := d) (F := F) (by omega) hL hF ha hdb hlb hj hOK hS hR hkk
  have b1 := eV_b (x := cl.2.2.1) hW (fun e he => (hOK.1 e he).1)
  have b2 := eV_b (x := cl.2.2.2.1) hW (fun e he => (hOK.2.1 e he).1)
  have rb1 : r32 (eV cl.2.2.1 (ordW (gI T0 74) done latest F)) := by rcases b1 with z | z <;> omega
  have rb2 : r32 (eV cl.2.2.2.1 (ordW (gI T0 74) done latest F)) := by rcases b2 with z | z <;> omega
  rcases a145 (X := X) (d := d) (by omega) hj h52 hsz hC hOK hW hw with ⟨hsk, S', w1, w2⟩ | ⟨hgo, S1, x3, w1, w2⟩
  · refine ⟨S', 1, w1, w2.oc, Or.inl ⟨rfl, T0, done, latest, hO.sk w2, by omega, fun T kk hS hR hkk => (fb hS hR hkk).1 hsk⟩⟩
  · have hO1 := hO.sk w2
    have h534' : gI S1 53 4 = asks := by rw [w2.2.1 53 4 (by omega)]; exact h534
    generalize hx4 : eV cl.2.2.1 (ordW (gI T0 74) done latest F) = x4 at *
    generalize hx5 : eV cl.2.2.2.1 (ordW (gI T0 74) done latest F) = x5 at *
    obtain ⟨hk, hk1, hk2⟩ := hK
    rcases hk with k | k | k | k
    · -- weigh
      rw [k] at w1
      have okw0 : okw cl.1 = 0 := by rw [k]; rfl
      rcases w145 (X := X) (d := d) (by omega) (j := (j : Int)) (x3 := x3) hO1 ha h534' hdn rb1 rb2 with ⟨q1, q2, q3, S', v1, v2, v3⟩ | ⟨q, v1⟩
      · refine ⟨S', 1, w1.trans v1, w2.oc.tr v2, Or.inl ⟨rfl, _, _, _, v3, by omega, fun T kk hS hR hkk => ?_⟩⟩
        obtain ⟨T1, one, two, u1, u2, u3, u4, u5⟩ := (fb hS hR hkk).2 hgo
        rw [okw0] at u4
        rcases u5 with ⟨z1, ⟨e, z2, z3⟩ | ⟨e, z2, z3⟩⟩ | ⟨z1, z2, z3⟩
        · have := off_ev z2 z3; omega
        · have := off_ev z2 z3; omega
        · have e1 : one = x4 := by rcases z2.ev with ⟨-, y⟩ | y <;> omega
          have e2 : two = x5 := by rcases z3.ev with ⟨-, y⟩ | y <;> omega
          obtain ⟨T', t1, t2, t3⟩ := (w263 (X := X) (d := d) (c := 8 * (j : Int)) (one := one) (two := two) (by omega) u3 u4 (by omega) z1 ⟨hdb.1, hdn⟩ hlb (by omega) (by omega) hG hH.2).1 (by rw [e1, e2]; exact ⟨q1, q2, q3⟩)
          rw [e1, e2] at t3
          exact ⟨T', u1.trans t1, u2.tr t2, t3⟩
      · refine ⟨S1, 0, w1.trans v1, w2.oc, Or.inr ⟨rfl, hO1.2.1, fun T kk hS hR hkk => ?_⟩⟩
        obtain ⟨T1, one, two, u1, u2, u3, u4, u5⟩ := (fb hS hR hkk).2 hgo
        rw [okw0] at u4
        rcases u5 with ⟨z1, -⟩ | ⟨z1, z2, z3⟩
        · exact ⟨T1, u1.trans (off263 (by omega) z1), u2, u3.2.2.2⟩
        · have ro := z2.b hW (fun e he => (hOK.1 e he).1)
          have rt := z3.b hW (fun e he => (hOK.2.1 e he).1)
          obtain ⟨T', t1, t2, t3⟩ := (w263 (X := X) (d := d) (c := 8 * (j : Int)) (one := one) (two := two) (by omega) u3 u4 (by omega) z1 ⟨hdb.1, hdn⟩ hlb ro rt hG hH.2).2 (fun ⟨y1, y2, y3⟩ => by
            have e1 : one = x4 := by rcases z2.ev with ⟨y, -⟩ | y <;> omega
            have e2 : two = x5 := by rcases z3.ev with ⟨y, -⟩ | y <;> omega
            rw [e1, e2] at y3
            exact q ⟨by omega, by omega, y3⟩)
          exact ⟨T', u1.trans t1, u2.tr t2, t3⟩
    · -- end
      rw [k] at w1
      have okw0 : okw cl.1 = 1 := by rw [k]; rfl
      have s2 := hk1 (by omega)
      rcases e145 (X := X) (d := d) (by omega) (j := (j : Int)) (x3 := x3) (x5 := x5) (kd := 278) (k := 1) hO1 ha h534' hdn rb1 (Or.inl ⟨rfl, rfl⟩) with ⟨q2, S', v1, v2, v3⟩ | ⟨q, v1⟩
      · refine ⟨S', 1, w1.trans v1, w2.oc.tr v2, Or.inl ⟨rfl, _, _, _, v3, by omega, fun T kk hS hR hkk => ?_⟩⟩
        obtain ⟨T1, one, two, u1, u2, u3, u4, u5⟩ := (fb hS hR hkk).2 hgo
        rw [okw0] at u4
        rcases u5 with ⟨z1, ⟨e, z2, z3⟩ | ⟨e, z2, z3⟩⟩ | ⟨z1, z2, z3⟩
        · have := off_ev z2 z3; omega
        · rw [s2] at z2; cases z2
        · have e1 : one = x4 := by rcases z2.ev with ⟨-, y⟩ | y <;> omega
          obtain ⟨T', t1, t2, t3⟩ := (e263 (X := X) (d := d) (c := 8 * (j : Int)) (one := one) (two := two) (k := 1) (by omega) u3 (Or.inl rfl) u4 (by omega) z1 ⟨hdb.1, hdn⟩ hlb (by omega) hG hH.2).1 (by rw [e1]; exact q2)
          rw [e1] at t3
          exact ⟨T', u1.trans t1, u2.tr t2, t3⟩
      · refine ⟨S1, 0, w1.trans v1, w2.oc, Or.inr ⟨rfl, hO1.2.1, fun T kk hS hR hkk => ?_⟩⟩
        obtain ⟨T1, one, two, u1, u2, u3, u4, u5⟩ := (fb hS hR hkk).2 hgo
        rw [okw0] at u4
        rcases u5 with ⟨z1, -⟩ | ⟨z1, z2, z3⟩
        · exact ⟨T1, u1.trans (off263 (by omega) z1), u2, u3.2.2.2⟩
        · have ro := z2.b hW (fun e he => (hOK.1 e he).1)
          obtain ⟨T', t1, t2, t3⟩ := (e263 (X := X) (d := d) (c := 8 * (j : Int)) (one := one) (two := two) (k := 1) (by omega) u3 (Or.inl rfl) u4 (by omega) z1 ⟨hdb.1, hdn⟩ hlb ro hG hH.2).2 (fun y2 => by
            have e1 : one = x4 := by rcases z2.ev with ⟨y, -⟩ | y <;> omega
            exact q (by omega))
          exact ⟨T', u1.trans t1, u2.tr t2, t3⟩
    · -- meet
      rw [k] at w1
      have okw0 : okw cl.1 = 2 := by rw [k]; rfl
      have s2 := hk1 (by omega)
      rcases e145 (X := X) (d := d) (by omega) (j := (j : Int)) (x3 := x3) (x5 := x5) (kd := 279) (k := 2) hO1 ha h534' hdn rb1 (Or.inr ⟨rfl, rfl⟩) with ⟨q2, S', v1, v2, v3⟩ | ⟨q, v1⟩
      · refine ⟨S', 1, w1.trans v1, w2.oc.tr v2, Or.inl ⟨rfl, _, _, _, v3, by omega, fun T kk hS hR hkk => ?_⟩⟩
        obtain ⟨T1, one, two, u1, u2, u3, u4, u5⟩ := (fb hS hR hkk).2 hgo
        rw [okw0] at u4
        rcases u5 with ⟨z1, ⟨e, z2, z3⟩ | ⟨e, z2, z3⟩⟩ | ⟨z1, z2, z3⟩
        · have := off_ev z2 z3; omega
        · rw [s2] at z2; cases z2
        · have e1 : one = x4 := by rcases z2.ev with ⟨-, y⟩ | y <;> omega
          obtain ⟨T', t1, t2, t3⟩ := (e263 (X := X) (d := d) (c := 8 * (j : Int)) (one := one) (two := two) (k := 2) (by omega) u3 (Or.inr rfl) u4 (by omega) z1 ⟨hdb.1, hdn⟩ hlb (by omega) hG hH.2).1 (by rw [e1]; exact q2)
          rw [e1] at t3
          exact ⟨T', u1.trans t1, u2.tr t2, t3⟩
      · refine ⟨S1, 0, w1.trans v1, w2.oc, Or.inr ⟨rfl, hO1.2.1, fun T kk hS hR hkk => ?_⟩⟩
        obtain ⟨T1, one, two, u1, u2, u3, u4, u5⟩ := (fb hS hR hkk).2 hgo
        rw [okw0] at u4
        rcases u5 with ⟨z1, -⟩ | ⟨z1, z2, z3⟩
        · exact ⟨T1, u1.trans (off263 (by omega) z1), u2, u3.2.2.2⟩
        · have ro := z2.b hW (fun e he => (hOK.1 e he).1)
          obtain ⟨T', t1, t2, t3⟩ := (e263 (X := X) (d := d) (c := 8 * (j : Int)) (one := one) (two := two) (k := 2) (by omega) u3 (Or.inr rfl) u4 (by omega) z1 ⟨hdb.1, hdn⟩ hlb ro hG hH.2).2 (fun y2 => by
            have e1 : one = x4 := by rcases z2.ev with ⟨y, -⟩ | y <;> omega
            exact q (by omega))
          exact ⟨T', u1.trans t1, u2.tr t2, t3⟩
    · -- pass
      rw [k] at w1
      have okw0 : okw cl.1 = 3 := by rw [k]; rfl
      have s1 := hk2 k
      have s2 := hk1 (by omega)
      have noff : ∀ {P : Prop}, ((∃ e, cl.2.2.1 = some e ∧ e (ordW (gI T0 74) done latest F) = none) ∨ ∃ e, cl.2.2.2.1 = some e ∧ e (ordW (gI T0 74) done latest F) = none) → P := fun h => by
        rcases h with ⟨e, z2, -⟩ | ⟨e, z2, -⟩
        · rw [s1] at z2; cases z2
        · rw [s2] at z2; cases z2
      rcases p145 (X := X) (d := d) (by omega) (j := (j : Int)) (x3 := x3) (x4 := x4) (x5 := x5) hO1 ha h534' hdn with ⟨q, S', c, cls, v1, v2, v4, v5, v3⟩ | ⟨q, S', v1, v2, v3⟩
      · refine ⟨S', 1, w1.trans v1, w2.oc.tr v2, Or.inl ⟨rfl, _, _, _, v3, by omega, fun T kk hS hR hkk => ?_⟩⟩
        obtain ⟨T1, one, two, u1, u2, u3, u4, u5⟩ := (fb hS hR hkk).2 hgo
        rw [okw0] at u4
        rcases u5 with ⟨z1, z2⟩ | ⟨z1, z2, z3⟩
        · exact noff z2
        · obtain ⟨T', v, t1, t2, t3, t4⟩ := (p263 (X := X) (d := d) (c := 8 * (j : Int)) (one := one) (two := two) (by omega) u3 u4 (by omega) z1 ⟨hdb.1, hdn⟩ hlb hG h1 hL.1.mets v4 hH.2).1 q
          rw [t3.uniq v5] at t4
          exact ⟨T', u1.trans t1, u2.tr t2, t4⟩
      · refine ⟨S', 0, w1.trans v1, w2.oc.tr v2, Or.inr ⟨rfl, v3, fun T kk hS hR hkk => ?_⟩⟩
        obtain ⟨T1, one, two, u1, u2, u3, u4, u5⟩ := (fb hS hR hkk).2 hgo
        rw [okw0] at u4
        obtain ⟨o, cls, l1, l2, -⟩ := hL.1.law st_5 (k := gI T0 74 4) ⟨hL.1.2.2.2.2.1.2.1, hL.1.2.2.2.2.1.2.2⟩
        rcases u5 with ⟨z1, z2⟩ | ⟨z1, z2, z3⟩
        · exact noff z2
        · obtain ⟨T', t1, t2, t3⟩ := (p263 (X := X) (d := d) (c := 8 * (j : Int)) (one := one) (two := two) (by omega) u3 u4 (by omega) z1 ⟨hdb.1, hdn⟩ hlb hG h1 hL.1.mets l2 hH.2).2 q
          exact ⟨T', u1.trans t1, u2.tr t2, t3⟩
end
