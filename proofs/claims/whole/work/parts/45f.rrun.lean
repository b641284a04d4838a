/-! the reference runs code: reckonAll -/
def FrRk (S S' : zS) : Prop := Dyn S S' ∧ (∀ a i, ¬ (a = 72 ∧ i = 38) → gI S' a i = gI S a i) ∧ (∀ a i, a ≠ 92 → ¬ (a = 72 ∧ i = 39) → gJ S' a i = gJ S a i) ∧ (∀ a i, gQ S' a i = gQ S a i)
theorem FrRk.rf {S : zS} : FrRk S S := ⟨Dyn.rf, fun _ _ _ => rfl, fun _ _ _ _ => rfl, fun _ _ => rfl⟩
theorem FrRk.tr {A B C : zS} (h1 : FrRk A B) (h2 : FrRk B C) : FrRk A C := ⟨h1.1.tr h2.1, fun a i q => (h2.2.1 a i q).trans (h1.2.1 a i q), fun a i q r => (h2.2.2.1 a i q r).trans (h1.2.2.1 a i q r), fun a i => (h2.2.2.2 a i).trans (h1.2.2.2 a i)⟩
theorem FrRk.J {S : zS} {i x : Int} : FrRk S (sJ S 92 i x) := ⟨Dyn.sJ Dyn.rf, fun _ _ _ => rfl, fun a j q _ => by rw [gJ_sJ, if_neg (by omega)], fun _ _ => rfl⟩
theorem FrRk.J2 {S : zS} {x : Int} : FrRk S (sJ S 72 39 x) := ⟨Dyn.sJ Dyn.rf, fun _ _ _ => rfl, fun a j _ q => by rw [gJ_sJ, if_neg q], fun _ _ => rfl⟩
theorem FrRk.I {S : zS} {x : Int} : FrRk S (sI S 72 38 x) := ⟨Dyn.sI (by decide) Dyn.rf, fun a j q => by rw [gI_sI, if_neg q], fun _ _ _ _ => rfl, fun _ _ => rfl⟩
/-- numbers on the stack -/
def SJ (st : List Int) : Prop := ∀ v ∈ st, -2147483648 ≤ v ∧ v ≤ 2147483649
theorem SJ.tl {v : Int} {st : List Int} (h : SJ (v :: st)) : SJ st := fun x hx => h x (List.mem_cons_of_mem _ hx)
theorem SJ.hd {v : Int} {st : List Int} (h : SJ (v :: st)) : -2147483648 ≤ v ∧ v ≤ 2147483649 := h v (List.mem_cons_self ..)
theorem SJ.cs {v : Int} {st : List Int} (h : SJ st) (hv : -2147483648 ≤ v ∧ v ≤ 2147483649) : SJ (v :: st) := fun x hx => by
  rcases List.mem_cons.mp hx with rfl | q
  · exact hv
  · exact h x q
/-- what words tell there -/
def RWd (ord : Int) (S : zS) (w : Int → Int) : Prop := (ord = 0 → ∀ i, 0 ≤ i → i < 8 → gJ S 90 (i + 1) = w i) ∧ (ord = 1 → (∀ i, 0 ≤ i → i < 4 → gJ S 91 (i + 1) = w i) ∧ (∀ p, 0 ≤ p → p < 20 → w (4 + p) = if p < gI S 74 0 then gI S 74 (8 + p) else -1) ∧ (∀ k, 0 ≤ k → k < 6 → w (24 + k) = if k < gI S 74 1 then bit1 (gI S 72 40) k else -1))
theorem RWd.fr {ord : Int} {S S' : zS} {w : Int → Int} (h : RWd ord S w) (hF : FrRk S S') : RWd ord S' w := by
  obtain ⟨h1, h2⟩ := h
  refine ⟨fun e i q1 q2 => by rw [hF.2.2.1 90 _ (by omega) (by omega)]; exact h1 e i q1 q2, fun e => ?_⟩
  obtain ⟨a1, a2, a3⟩ := h2 e
  exact ⟨fun i q1 q2 => by rw [hF.2.2.1 91 _ (by omega) (by omega)]; exact a1 i q1 q2, fun p q1 q2 => by rw [hF.2.1 74 0 (by omega), hF.2.1 74 _ (by omega)]; exact a2 p q1 q2, fun k q1 q2 => by rw [hF.2.1 74 1 (by omega), hF.2.1 72 40 (by omega)]; exact a3 k q1 q2⟩
theorem rv_opv {op x y : Int} (ho : 20 ≤ op ∧ op ≤ 27) (h0 : op = 23 ∨ op = 24 → y ≠ 0) : opv (op - 18) x y = if -1000000000 ≤ rv op x y ∧ rv op x y ≤ 1000000000 then some (rv op x y) else none := by
  have b1 := b01_rng (x < y)
  have b2 := b01_rng (y < x)
  have b3 := b01_rng (x = y)
  unfold opv rv
  rcases (show op = 20 ∨ op = 21 ∨ op = 22 ∨ op = 23 ∨ op = 24 ∨ op = 25 ∨ op = 26 ∨ op = 27 by omega) with rfl | rfl | rfl | rfl | rfl | rfl | rfl | rfl
  · rfl
  · rfl
  · rfl
  · have := h0 (by omega)
    simp only [Int.reduceSub, Int.reduceEq, ↓reduceIte, this]; rfl
  · have := h0 (by omega)
    simp only [Int.reduceSub, Int.reduceEq, ↓reduceIte, this]; rfl
  · simp only [Int.reduceSub, Int.reduceEq, ↓reduceIte]; rw [if_pos (by omega)]
  · simp only [Int.reduceSub, Int.reduceEq, ↓reduceIte]; rw [if_pos (by omega)]
  · simp only [Int.reduceSub, Int.reduceEq, ↓reduceIte]; rw [if_pos (by omega)]
theorem opv_0 {op x : Int} (ho : op = 23 ∨ op = 24) : opv (op - 18) x 0 = none := by
  rcases ho with rfl | rfl <;> rfl
theorem dM_lt {ord op ar : Int} (h : (dM ord op ar).1 < 13) (h2 : (dM ord op ar).1 ≠ 1) (h0 : op ≠ 0) : 20 ≤ op := by
  unfold dM at h h2
  rw [if_neg h0] at h h2
  apply Classical.byContradiction
  intro q
  rw [if_pos (by omega)] at h h2
  unfold dW at h h2
  split at h
  · next e =>
    rw [if_pos e] at h2
    split at h
    · next e2 => rw [if_pos e2] at h2; exact h2 rfl
    · exact absurd h (by show ¬ (13 : Int) < 13; omega)
  · next e =>
    rw [if_neg e] at h2
    split at h
    · next e2 => rw [if_pos e2] at h2; exact h2 rfl
    · next e2 =>
      rw [if_neg e2] at h2
      split at h
      · next e3 => rw [if_pos e3] at h2; exact h2 rfl
      · next e3 =>
        rw [if_neg e3] at h2
        split at h
        · next e4 => rw [if_pos e4] at h2; exact h2 rfl
        · exact absurd h (by show ¬ (13 : Int) < 13; omega)
/-- what is told behind it -/
def Rz (S' : zS) (r : Option Int) : Prop := match r with
  | none => gI S' 72 38 = 1
  | some v => gI S' 72 38 = 0 ∧ gJ S' 72 39 = v
theorem x204 {X : zX} {d : Nat} (hd : 1 < d) {S : zS} {ord fr to : Int} (hord : gI S 72 20 = ord) (ho : ord = 0 ∨ ord = 1) (hl : ord = 0 → 0 ≤ gI S 72 34 ∧ gI S 72 34 ≤ 6992) (hf : 0 ≤ fr) (hto : to ≤ 400) {m : Nat} (hm : m ≤ 50) {e : Ev} (hs : Seg (fun k => dM ord (rop ord S k) (rar ord S k)) fr to m e) {w : Int → Int} (hW : WB w) (hw : RWd ord S w) (h74 : 0 ≤ gI S 74 0 ∧ gI S 74 0 ≤ 20 ∧ 0 ≤ gI S 74 1 ∧ gI S 74 1 ≤ 6) : ∃ S' : zS, z_ev X d (z_entry 204 [.ref 72, .int (Int32.ofInt fr), .int (Int32.ofInt to)] (mk S)) = some (none, mk S') ∧ FrRk S S' ∧ Rz S' (e w) := by
  have hlt := hs.1
  let G : mQ → Prop := fun q => ∀ (S1 : zS) (x5 x6 : Option Value), FrRk S S1 → gI S1 72 38 = 0 → Stk (gJ S1 92) q.2 → SJ q.2 → q.2.length ≤ 51 → ∃ S' : zS, z_ev X d (204, 10, L204 fr to (q.2.length : Nat) q.1 x5 x6, [], mk S1) = some (none, mk S') ∧ FrRk S S' ∧ Rz S' (e w)
  have hent : z_ev X d (z_entry 204 [.ref 72, .int (Int32.ofInt fr), .int (Int32.ofInt to)] (mk S)) = z_ev X d (204, 10, L204 fr to (([] : List Int).length : Nat) fr none none, [], mk (sI S 72 38 0)) := by
    show z_ev X d (204, 0, [some (.ref 72), some (.int (Int32.ofInt fr)), some (.int (Int32.ofInt to)), none, none, none, none], [], mk S) = _
    simp (disch := first | omega | assumption | exact b01_rng _ | exact st_5 | exact st_12 | exact st_19 | (simp only [isSt_sI, isSt_sJ, isSt_sF, isSt_sG, isSt_sA]; assumption)) only [↓B204_0, ↓a_74, ↓a_83, ↓a_84, ↓a_90, ↓a_91, ↓a_92, ↓n_74, ↓n_83, ↓n_84, ↓n_90, ↓n_91, ↓n_92, ↓o_72, ↓r_72_20, ↓r_72_24, ↓r_72_25, ↓r_72_3, ↓r_72_34, ↓r_72_35, ↓r_72_36, ↓r_72_37, ↓r_72_38, ↓r_72_40, ↓s_74, ↓s_83, ↓s_84, ↓s_90, ↓s_91, ↓s_92, ↓w_72_38, ↓w_72_39, i_lit, i_add, i_sub, i_mul, i_neg, i_lt, i_le, i_eq, i32_gI, i64_gJ, i32_id, i32_to, i64_to, sI_i32, sJ_i64, b01_t, b01_f, i32_b01, b01_0, ↓a_s0, ↓n_s0, ↓a_s1, ↓n_s1, Int.add_zero, t_lt, f_lt, t_le, f_le, t_eq, f_eq, true_and, and_true, false_and, and_false, and_self, ↓reduceIte, z_bool_of, or_true, true_or, or_false, false_or, Int.neg_neg, not_true_eq_false, not_false_eq_true, lg_lt, lg_le, lg_gt, lg_ge, lg_eq, j_lit, j_add, j_sub, j_mul, j_neg, j_eq, i64_id, ij, ji, z_rt, Nat.reduceEqDiff, Nat.reduceAdd, Int.reduceAdd, Int.reduceSub, Int.reduceMul, Int.reduceNeg, Int.reduceLT, Int.reduceLE, Int.reduceEq, List.length_nil, Int.natCast_zero, Int.ofNat_zero]
  rw [hent]
  have hro : ∀ {S1 : zS} (k : Int), FrRk S S1 → rop ord S1 k = rop ord S k ∧ rar ord S1 k = rar ord S k := fun {S1} k hF => by
    unfold rop rar
    rw [hF.2.1 72 34 (by omega), hF.2.1 74 _ (by omega), hF.2.1 74 _ (by omega), hF.2.1 83 _ (by omega), hF.2.1 84 _ (by omega)]
    exact ⟨rfl, rfl⟩
  have hfe : ∀ {S1 : zS} (k : Int) (n : Int) (x5 x6 : Option Value), FrRk S S1 → gI S1 72 38 = 0 → fr ≤ k → k < to → z_ev X d (204, 10, L204 fr to n k x5 x6, [], mk S1) = if 20 ≤ rop ord S k then z_ev X d (204, 221, L204 fr to n (k + 1) (vI (rop ord S k)) (vI (rar ord S k)), [], mk S1) else z_ev X d (204, 107, L204 fr to n (k + 1) (vI (rop ord S k)) (vI (rar ord S k)), [], mk S1) := fun {S1} k n x5 x6 hF h38 q1 q2 => by
    have := f204 (X := X) (d := d) (S := S1) (fr := fr) (to := to) (n := n) (k := k) (ord := ord) (x5 := x5) (x6 := x6) h38 (by rw [hF.2.1 72 20 (by omega)]; exact hord) ho (fun q => by rw [hF.2.1 72 34 (by omega)]; exact hl q) (by omega) hto
    rw [(hro k hF).1, (hro k hF).2] at this
    exact this
  have har : ∀ k, r32 (rar ord S k) := fun k => by unfold rar; split; exact gI_rng _ _ _; exact gI_rng _ _ _
  have key : G (fr, []) := by
    refine hs.sim hW (st := []) (by show 0 + m ≤ 50; omega) G ?_ ?_ ?_
    · intro k st y hk1 hk2 hy hky hG S1 x5 x6 hF h38 hS hB hL
      replace hS : Stk (gJ S1 92) st := hS
      replace hB : SJ st := hB
      replace hL : st.length ≤ 51 := hL
      have hz := hfe k (st.length : Nat) x5 x6 hF h38 hk1 hk2
      have hop : (dM ord (rop ord S k) (rar ord S k)).1 < 13 := Classical.byContradiction fun q => by
        rw [mst_13 (I := fun k => dM ord (rop ord S k) (rar ord S k)) (by show 13 ≤ (dM ord (rop ord S k) (rar ord S k)).1; omega)] at hy
        have : ((k, st) : mQ) = y := Option.some.inj hy
        rw [← this] at hky
        exact absurd hky (by show ¬ k < k; omega)
      have hstill : ¬ ((k, st) : mQ) = y := fun q => by rw [← q] at hky; exact absurd hky (by show ¬ k < k; omega)
      have ha := har k
      have hopr : rop ord S k < 2147483648 := by unfold rop; split; exact (gI_rng _ _ _).2; exact (gI_rng _ _ _).2
      obtain ⟨op, hop_⟩ : ∃ op, op = rop ord S k := ⟨_, rfl⟩
      obtain ⟨ar, har_⟩ : ∃ ar, ar = rar ord S k := ⟨_, rfl⟩
      replace hy : mst (fun _ => dM ord op ar) w (k, st) = some y := (mst_cg (I := fun k => dM ord (rop ord S k) (rar ord S k)) (I' := fun _ => dM ord op ar) (x := (k, st)) (by show dM ord op ar = dM ord (rop ord S k) (rar ord S k); rw [hop_, har_])).trans hy
      rw [← hop_, ← har_] at hz hop
      rw [← har_] at ha
      rw [← hop_] at hopr
      unfold mst at hy
      simp only [] at hy
      show ∃ S' : zS, z_ev X d (204, 10, L204 fr to (st.length : Nat) k x5 x6, [], mk S1) = some (none, mk S') ∧ FrRk S S' ∧ Rz S' (e w)
      rw [hz]
      clear hz
      by_cases o0 : op = 0
      · subst o0
        rw [show dM ord 0 ar = (0, ar) from rfl, if_pos rfl] at hy
        by_cases q : st.length < 51
        · rw [if_pos q] at hy
          have hy' : (k + 1, ar :: st) = y := Option.some.inj hy
          rw [if_neg (by omega), n204 (by omega) ha]
          subst hy'
          exact hG (sJ S1 92 st.length ar) _ _ (hF.tr FrRk.J) h38 ⟨by rw [gJ_sJ, if_pos ⟨rfl, rfl⟩, i64_id (by omega) (by omega)], hS.fr (fun i q1 q2 => by rw [gJ_sJ, if_neg (by omega)])⟩ (hB.cs (by omega)) (by show st.length + 1 ≤ 51; omega)
        · rw [if_neg q] at hy
          exact absurd (Option.some.inj hy) hstill
      by_cases o1 : (dM ord op ar).1 = 1
      · rw [o1, if_neg (by omega), if_pos rfl] at hy
        have hop20 : op < 20 := by
          unfold dM at o1
          rw [if_neg o0] at o1
          apply Classical.byContradiction
          intro q
          rw [if_neg (by omega)] at o1
          split at o1
          · have o1' : op - 18 = 1 := o1
            omega
          split at o1
          · exact absurd o1 (by show ¬ (10 : Int) = 1; omega)
          split at o1
          · exact absurd o1 (by show ¬ (12 : Int) = 1; omega)
          · exact absurd o1 (by show ¬ (11 : Int) = 1; omega)
        have edm : dM ord op ar = dW ord op ar := by unfold dM; rw [if_neg o0, if_pos hop20]
        rw [edm] at hy o1
        rw [if_neg (by omega)]
        by_cases q : st.length < 51
        · rw [if_pos q] at hy
          have hy' : (k + 1, w (dW ord op ar).2 :: st) = y := Option.some.inj hy
          have hwb := hW (dW ord op ar).2
          have hw1 := hw.fr hF
          have step : z_ev X d (204, 107, L204 fr to (st.length : Nat) (k + 1) (vI op) (vI ar), [], mk S1) = z_ev X d (204, 10, L204 fr to ((st.length : Nat) + 1) (k + 1) (vI op) (vI ar), [], mk (sJ S1 92 (st.length : Nat) (w (dW ord op ar).2))) := by
            rcases ho with e0 | e0
            · subst e0
              unfold dW at o1 ⊢
              rw [if_pos rfl] at o1 ⊢
              by_cases q2 : 1 ≤ op ∧ op ≤ 8
              · rw [if_pos q2, w204a (by rw [hF.2.1 72 20 (by omega)]; exact hord) (by omega) q2]
                have := hw1.1 rfl (op - 1) (by omega) (by omega)
                rw [show op - 1 + 1 = op by omega] at this
                rw [this]
              · rw [if_neg q2] at o1; exact absurd o1 (by show ¬ (13 : Int) = 1; omega)
            · subst e0
              obtain ⟨v1, v2, v3⟩ := hw1.2 rfl
              unfold dW at o1 ⊢
              rw [if_neg (by omega)] at o1 ⊢
              by_cases q2 : 1 ≤ op ∧ op < 5
              · rw [if_pos q2, w204b (by rw [hF.2.1 72 20 (by omega)]; exact hord) (by omega) q2]
                have := v1 (op - 1) (by omega) (by omega)
                rw [show op - 1 + 1 = op by omega] at this
                rw [this]
              rw [if_neg q2] at o1 ⊢
              by_cases q3 : op = 5 ∧ 0 ≤ ar ∧ ar ≤ 19
              · rw [if_pos q3, q3.1, w204c hd (by rw [hF.2.1 72 20 (by omega)]; exact hord) (by omega) q3.2 (by rw [hF.2.1 74 0 (by omega)]; omega), ← v2 ar (by omega) (by omega)]
              rw [if_neg q3] at o1 ⊢
              by_cases q4 : op = 6 ∧ 0 ≤ ar ∧ ar ≤ 5
              · rw [if_pos q4, q4.1, w204d hd (by rw [hF.2.1 72 20 (by omega)]; exact hord) (by omega) q4.2 (by rw [hF.2.1 74 1 (by omega)]; omega), ← v3 ar (by omega) (by omega)]
              · rw [if_neg q4] at o1; exact absurd o1 (by show ¬ (13 : Int) = 1; omega)
          rw [step]
          subst hy'
          exact hG (sJ S1 92 st.length (w (dW ord op ar).2)) _ _ (hF.tr FrRk.J) h38 ⟨by rw [gJ_sJ, if_pos ⟨rfl, rfl⟩, i64_id (by omega) (by omega)], hS.fr (fun i q1 q2 => by rw [gJ_sJ, if_neg (by omega)])⟩ (hB.cs (by omega)) (by show st.length + 1 ≤ 51; omega)
        · rw [if_neg q] at hy
          exact absurd (Option.some.inj hy) hstill
      have h20 := dM_lt hop o1 o0
      rw [if_pos h20]
      cases st with
      | nil =>
        rw [if_neg (by unfold dM; rw [if_neg o0, if_neg (by omega)]; split; (show ¬ op - 18 = 0; omega); split; (show ¬ (10 : Int) = 0; omega); split; (show ¬ (12 : Int) = 0; omega); (show ¬ (11 : Int) = 0; omega)), if_neg o1] at hy
        exact absurd (Option.some.inj hy) hstill
      | cons u st =>
        have hlen : ((u :: st).length : Int) = st.length + 1 := rfl
        have hlen' : (u :: st).length = st.length + 1 := rfl
        have hu : gJ S1 92 (((u :: st).length : Nat) - 1) = u := by rw [hlen, show (st.length : Int) + 1 - 1 = st.length by omega]; exact hS.1
        have hub := hB.hd
        by_cases o28 : op = 28
        · subst o28
          rw [show dM ord 28 ar = (10, 0) from rfl] at hy
          have hy' : (k + 1, (1 - u) :: st) = y := Option.some.inj hy
          rw [o204 (by omega) hu hub]
          subst hy'
          exact hG (sJ S1 92 (((u :: st).length : Nat) - 1) (1 - u)) (vI 28) (vI ar) (hF.tr FrRk.J) h38 ⟨by rw [gJ_sJ, if_pos ⟨rfl, by omega⟩, i64_id (by omega) (by omega)], hS.2.fr (fun i q1 q2 => by rw [gJ_sJ, if_neg (by omega)])⟩ (hB.tl.cs (by omega)) hL
        by_cases oj : 29 ≤ op
        · have hdm : dM ord op ar = (if op = 29 then 12 else 11, ar) := by
            unfold dM
            rw [if_neg o0, if_neg (by omega), if_neg (by omega), if_neg o28]
            split <;> rfl
          rw [hdm] at hy
          simp only [] at hy
          have hq0 : ∀ z : Int, (if (if op = 29 then (12 : Int) else 11) = 11 then (1 : Int) else 0) = (if op = 29 then 0 else 1) := fun _ => by
            by_cases e29 : op = 29
            · rw [if_pos e29, if_pos e29]; rfl
            · rw [if_neg e29, if_neg e29]; rfl
          rw [if_neg (by split <;> omega), if_neg (by split <;> omega), if_neg (by split <;> omega), if_pos (by split <;> omega), hq0 0] at hy
          by_cases q : u = (if op = 29 then 0 else 1)
          · rw [if_pos q] at hy
            by_cases q2 : k + 1 ≤ ar
            · rw [if_pos q2] at hy
              have hy' : (ar, u :: st) = y := Option.some.inj hy
              rw [j204 (by omega) ⟨oj, hopr⟩ hu hub q]
              subst hy'
              exact hG S1 _ _ hF h38 hS hB hL
            · rw [if_neg q2] at hy
              exact absurd (Option.some.inj hy) hstill
          · rw [if_neg q] at hy
            have hy' : (k + 1, st) = y := Option.some.inj hy
            rw [i204 (by omega) ⟨oj, hopr⟩ hu hub q, hlen, show (st.length : Int) + 1 - 1 = st.length by omega]
            subst hy'
            exact hG S1 _ _ hF h38 hS.2 hB.tl (by show st.length ≤ 51; omega)
        have ho27 : 20 ≤ op ∧ op ≤ 27 := by omega
        have hdm : dM ord op ar = (op - 18, 0) := by
          unfold dM
          rw [if_neg o0, if_neg (by omega), if_pos (by omega)]
        rw [hdm] at hy
        rw [if_neg (show ¬ op - 18 = 0 by omega), if_neg (show ¬ op - 18 = 1 by omega)] at hy
        simp only [] at hy
        rw [if_neg (show ¬ op - 18 = 10 by omega), if_neg (show ¬ (op - 18 = 11 ∨ op - 18 = 12) by omega)] at hy
        cases st with
        | nil => exact absurd (Option.some.inj hy) hstill
        | cons v st =>
          simp only [] at hy
          rw [if_neg (by omega)] at hy
          have hlen2 : ((u :: v :: st).length : Int) = st.length + 2 := by show ((st.length + 1 + 1 : Nat) : Int) = _; omega
          have hL2 : (u :: v :: st).length = st.length + 2 := rfl
          have hv : gJ S1 92 (((u :: v :: st).length : Nat) - 2) = v := by rw [hlen2, show (st.length : Int) + 2 - 2 = st.length by omega]; exact hS.2.1
          have hvb := hB.tl.hd
          have h0 : op = 23 ∨ op = 24 → u ≠ 0 := fun q1 q2 => by
            subst q2
            rw [opv_0 q1] at hy; cases hy
          rw [rv_opv ho27 h0] at hy
          by_cases q : -1000000000 ≤ rv op v u ∧ rv op v u ≤ 1000000000
          · rw [if_pos q] at hy
            have hy' : (k + 1, rv op v u :: st) = y := Option.some.inj hy
            rw [b204 (by omega) (by omega) ho27 hv hu hvb hub h0 h38, hlen2, show (st.length : Int) + 2 - 1 = ((rv op v u :: st).length : Nat) by show _ = ((st.length + 1 : Nat) : Int); omega, show (st.length : Int) + 2 - 2 = st.length by omega]
            subst hy'
            exact hG (sI (sJ S1 92 st.length (rv op v u)) 72 38 (b01 (¬ (-1000000000 ≤ rv op v u ∧ rv op v u ≤ 1000000000)))) _ _ ((hF.tr FrRk.J).tr FrRk.I) (by rw [gI_sI, if_pos ⟨rfl, rfl⟩]; unfold b01; rw [if_neg (fun w => w q)]; rfl) ⟨by rw [gJ_sI, gJ_sJ, if_pos ⟨rfl, rfl⟩, i64_id (by omega) (by omega)], hS.2.2.fr (fun i q1 q2 => by rw [gJ_sI, gJ_sJ, if_neg (by omega)])⟩ (hB.tl.tl.cs (by omega)) (by show st.length + 1 ≤ 51; omega)
          · rw [if_neg q] at hy; cases hy
    · intro he k st hk1 hk2 hy S1 x5 x6 hF h38 hS hB hL
      replace hS : Stk (gJ S1 92) st := hS
      replace hB : SJ st := hB
      replace hL : st.length ≤ 51 := hL
      have hz := hfe k (st.length : Nat) x5 x6 hF h38 hk1 hk2
      have hop : (dM ord (rop ord S k) (rar ord S k)).1 < 13 := Classical.byContradiction fun q => by
        rw [mst_13 (I := fun k => dM ord (rop ord S k) (rar ord S k)) (by show 13 ≤ (dM ord (rop ord S k) (rar ord S k)).1; omega)] at hy
        cases hy
      obtain ⟨op, hop_⟩ : ∃ op, op = rop ord S k := ⟨_, rfl⟩
      obtain ⟨ar, har_⟩ : ∃ ar, ar = rar ord S k := ⟨_, rfl⟩
      replace hy : mst (fun _ => dM ord op ar) w (k, st) = none := (mst_cg (I := fun k => dM ord (rop ord S k) (rar ord S k)) (I' := fun _ => dM ord op ar) (x := (k, st)) (by show dM ord op ar = dM ord (rop ord S k) (rar ord S k); rw [hop_, har_])).trans hy
      rw [← hop_, ← har_] at hz hop
      unfold mst at hy
      simp only [] at hy
      show ∃ S' : zS, z_ev X d (204, 10, L204 fr to (st.length : Nat) k x5 x6, [], mk S1) = some (none, mk S') ∧ FrRk S S' ∧ Rz S' (e w)
      rw [hz]
      clear hz
      by_cases z0 : (dM ord op ar).1 = 0
      · rw [if_pos z0] at hy
        split at hy <;> cases hy
      rw [if_neg z0] at hy
      by_cases o1 : (dM ord op ar).1 = 1
      · rw [if_pos o1] at hy
        split at hy <;> cases hy
      rw [if_neg o1] at hy
      have o0 : op ≠ 0 := fun q => by subst q; exact z0 rfl
      have h20 := dM_lt hop o1 o0
      rw [if_pos h20]
      cases st with
      | nil => cases hy
      | cons u st =>
        simp only [] at hy
        by_cases o10 : (dM ord op ar).1 = 10
        · rw [if_pos o10] at hy; cases hy
        rw [if_neg o10] at hy
        by_cases oj : (dM ord op ar).1 = 11 ∨ (dM ord op ar).1 = 12
        · rw [if_pos oj] at hy
          by_cases q : u = (if (dM ord op ar).1 = 11 then 1 else 0)
          · rw [if_pos q] at hy
            by_cases q2 : k + 1 ≤ (dM ord op ar).2
            · rw [if_pos q2] at hy; cases hy
            · rw [if_neg q2] at hy; cases hy
          · rw [if_neg q] at hy; cases hy
        rw [if_neg oj] at hy
        have ho27 : 20 ≤ op ∧ op ≤ 27 := by
          refine ⟨h20, ?_⟩
          apply Classical.byContradiction
          intro q
          unfold dM at o10 oj
          rw [if_neg o0, if_neg (by omega), if_neg (by omega)] at o10 oj
          by_cases q28 : op = 28
          · rw [if_pos q28] at o10; exact o10 rfl
          rw [if_neg q28] at oj
          by_cases q29 : op = 29
          · rw [if_pos q29] at oj; exact oj (Or.inr rfl)
          · rw [if_neg q29] at oj; exact oj (Or.inl rfl)
        have hdm : dM ord op ar = (op - 18, 0) := by
          unfold dM
          rw [if_neg o0, if_neg (by omega), if_pos (by omega)]
        rw [hdm] at hy
        cases st with
        | nil => cases hy
        | cons v st =>
          simp only [] at hy
          rw [if_neg (by omega)] at hy
          have hlen2 : ((u :: v :: st).length : Int) = st.length + 2 := by show ((st.length + 1 + 1 : Nat) : Int) = _; omega
          have hL2 : (u :: v :: st).length = st.length + 2 := rfl
          have hu : gJ S1 92 (((u :: v :: st).length : Nat) - 1) = u := by rw [hlen2, show (st.length : Int) + 2 - 1 = ((v :: st).length : Nat) by show _ = ((st.length + 1 : Nat) : Int); omega]; exact hS.1
          have hv : gJ S1 92 (((u :: v :: st).length : Nat) - 2) = v := by rw [hlen2, show (st.length : Int) + 2 - 2 = st.length by omega]; exact hS.2.1
          by_cases h0 : (op = 23 ∨ op = 24) ∧ u = 0
          · obtain ⟨h1, h2⟩ := h0
            rw [z204 (by omega) (by omega) h1 hv (by rw [hu]; exact h2), q204 (by omega) (by omega) (by omega) (Or.inr (by rw [gI_sI, if_pos ⟨rfl, rfl⟩]; rfl))]
            exact ⟨_, rfl, (((hF.tr FrRk.I).tr FrRk.J).tr FrRk.I).tr FrRk.J2, by rw [he]; show gI (sJ _ _ _ _) 72 38 = 1; rw [gI_sJ, gI_sI, if_pos ⟨rfl, rfl⟩]; rfl⟩
          · have h0' : op = 23 ∨ op = 24 → u ≠ 0 := fun q1 q2 => h0 ⟨q1, q2⟩
            rw [rv_opv ho27 h0'] at hy
            by_cases q : -1000000000 ≤ rv op v u ∧ rv op v u ≤ 1000000000
            · rw [if_pos q] at hy; cases hy
            · have e38 : gI (sI (sJ S1 92 (((u :: v :: st).length : Nat) - 2) (rv op v u)) 72 38 (b01 (¬ (-1000000000 ≤ rv op v u ∧ rv op v u ≤ 1000000000)))) 72 38 = 1 := by rw [gI_sI, if_pos ⟨rfl, rfl⟩]; unfold b01; rw [if_pos q]; rfl
              rw [b204 (by omega) (by omega) ho27 hv hu hB.tl.hd hB.hd h0' h38, q204 (by omega) (by omega) (by omega) (Or.inr e38)]
              exact ⟨_, rfl, ((hF.tr FrRk.J).tr FrRk.I).tr FrRk.J2, by rw [he]; show gI (sJ _ _ _ _) 72 38 = 1; rw [gI_sJ]; exact e38⟩
    · intro v hv S1 x5 x6 hF h38 hS hB hL
      replace hS : Stk (gJ S1 92) [v] := hS
      show ∃ S' : zS, z_ev X d (204, 10, L204 fr to (([v] : List Int).length : Nat) to x5 x6, [], mk S1) = some (none, mk S') ∧ FrRk S S' ∧ Rz S' (e w)
      rw [q204 (by show (1 : Int) ≤ 1 ∧ (1 : Int) ≤ 400; omega) (by omega) (by omega) (Or.inl (Int.le_refl _))]
      refine ⟨_, rfl, hF.tr FrRk.J2, ?_⟩
      rw [hv]
      have e1 : gJ S1 92 0 = v := hS.1
      exact ⟨h38, by rw [gJ_sJ, if_pos ⟨rfl, rfl⟩, i64_gJ]; exact e1⟩
  exact key (sI S 72 38 0) none none FrRk.I (by rw [gI_sI, if_pos ⟨rfl, rfl⟩]; rfl) trivial (fun v hv => by cases hv) (by show 0 ≤ 51; omega)
