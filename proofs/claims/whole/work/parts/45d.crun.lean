/-! the class runs code: reckon -/
def FrSk (sk : Nat) (S S' : zS) : Prop := Dyn S S' ∧ (∀ a i, a ≠ sk → gI S' a i = gI S a i) ∧ (∀ a i, gJ S' a i = gJ S a i) ∧ (∀ a i, gQ S' a i = gQ S a i)
theorem FrSk.rf {sk : Nat} {S : zS} : FrSk sk S S := ⟨Dyn.rf, fun _ _ _ => rfl, fun _ _ => rfl, fun _ _ => rfl⟩
theorem FrSk.tr {sk : Nat} {A B C : zS} (h1 : FrSk sk A B) (h2 : FrSk sk B C) : FrSk sk A C := ⟨h1.1.tr h2.1, fun a i q => (h2.2.1 a i q).trans (h1.2.1 a i q), fun a i => (h2.2.2.1 a i).trans (h1.2.2.1 a i), fun a i => (h2.2.2.2 a i).trans (h1.2.2.2 a i)⟩
theorem FrSk.I {sk : Nat} {S : zS} {i x : Int} (h : sk < 114) : FrSk sk S (sI S sk i x) := ⟨Dyn.sI h Dyn.rf, fun b j q => by rw [gI_sI, if_neg (by omega)], fun _ _ => rfl, fun _ _ => rfl⟩
theorem Dyn.zd {S T : zS} (h : Dyn S T) (a : Nat) : zdes T a = zdes S a := by
  by_cases q : a < 114
  · exact zdes_fix q
  · rw [zdes_dyn (S := T) (by omega), zdes_dyn (S := S) (by omega), (h.1 a (by omega)).2.2]
theorem dC_lt {ord x : Int} (h : (dC ord x).1 < 13) : dC ord x = (x % 16, x / 16) ∧ 0 ≤ x ∧ (x % 16 = 1 → x / 16 < 8 ∨ ord ≠ 0 ∧ x / 16 < 30) := by
  unfold dC at h ⊢
  split at h
  · exact absurd h (by show ¬ (13 : Int) < 13; omega)
  · next q =>
    rw [if_neg q]
    exact ⟨rfl, by omega, by omega⟩
theorem dC_13 {ord x : Int} (h : dC ord x = (13, 0)) : x % 16 = 13 ∧ x / 16 = 0 ∧ 0 ≤ x := by
  unfold dC at h
  split at h
  · exact absurd (congrArg Prod.snd h) (by show ¬ (1 : Int) = 0; omega)
  · next q => exact ⟨congrArg Prod.fst h, congrArg Prod.snd h, by omega⟩
def eV (x : Option Ev) (w : Int → Int) : Int := match x with
  | none => -2000000000
  | some e => match e w with
    | none => -2000000000
    | some v => v
theorem x41 {X : zX} {d : Nat} (hd : 0 < d) {r sk cc wc len wl : Nat} {S : zS} (hr : RK r sk) (h4 : 4 ≤ cc) (hz : zdes S cc = some (.inr (0, len))) (hl : len < 100000) (hw4 : 4 ≤ wc) (hwz : zdes S wc = some (.inr (0, wl))) (hc : cc ≠ sk) (hcw : wc ≠ sk) {ord : Int} (hwl : (wl = 8 ∧ ord = 0) ∨ (wl = 30 ∧ ord = 1)) {fr sz : Int} {x : Option Ev} (hC : CSeg (fun k => dC ord (gI S cc k)) sz x fr) (hsz : sz ≤ len) {w : Int → Int} (hW : WB w) (hww : ∀ i : Int, 0 ≤ i → i < (wl : Int) → gI S wc i = w i) : ∃ S' : zS, z_ev X d (z_entry 41 [.ref r, .ref cc, .int (Int32.ofInt fr), .ref wc] (mk S)) = some (vI (eV x w), mk S') ∧ FrSk sk S S' := by
  have hsk : sk < 114 := by rcases hr with q | q <;> omega
  cases x with
  | none =>
    have hf : fr = -1 := hC
    subst hf
    refine ⟨S, ?_, FrSk.rf⟩
    show z_ev X d (41, 0, [some (.ref r), some (.ref cc), some (.int (Int32.ofInt (-1))), some (.ref wc), none, none, none, none, none], [], mk S) = some (vI (-2000000000), mk S)
    simp (disch := first | omega | assumption | exact b01_rng _ | exact st_5 | exact st_12 | exact st_19 | (simp only [isSt_sI, isSt_sJ, isSt_sF, isSt_sG, isSt_sA]; assumption)) only [↓B41_0, ↓B41_6, ↓B41_314, i_lit, i_add, i_sub, i_mul, i_neg, i_lt, i_le, i_eq, i32_gI, i64_gJ, i32_id, i32_to, i64_to, sI_i32, sJ_i64, b01_t, b01_f, i32_b01, b01_0, ↓a_s0, ↓n_s0, ↓a_s1, ↓n_s1, Int.add_zero, t_lt, f_lt, t_le, f_le, t_eq, f_eq, true_and, and_true, false_and, and_false, and_self, ↓reduceIte, z_bool_of, or_true, true_or, or_false, false_or, Int.neg_neg, not_true_eq_false, not_false_eq_true, lg_lt, lg_le, lg_gt, lg_ge, lg_eq, j_lit, j_add, j_sub, j_mul, j_neg, j_eq, i64_id, ij, ji, z_rt, Nat.reduceEqDiff, Nat.reduceAdd, Int.reduceAdd, Int.reduceSub, Int.reduceMul, Int.reduceNeg, Int.reduceLT, Int.reduceLE, Int.reduceEq]
  | some e =>
    obtain ⟨hf0, m, n, hn, hs, hm, hms⟩ := hC
    have hent : z_ev X d (z_entry 41 [.ref r, .ref cc, .int (Int32.ofInt fr), .ref wc] (mk S)) = z_ev X d (41, 6, L41 r cc fr wc (([] : List Int).length : Nat) fr none none none, [], mk S) := by
      show z_ev X d (41, 0, [some (.ref r), some (.ref cc), some (.int (Int32.ofInt fr)), some (.ref wc), none, none, none, none, none], [], mk S) = _
      simp (disch := first | omega | assumption | exact b01_rng _ | exact st_5 | exact st_12 | exact st_19 | (simp only [isSt_sI, isSt_sJ, isSt_sF, isSt_sG, isSt_sA]; assumption)) only [↓B41_0, i_lit, i_add, i_sub, i_mul, i_neg, i_lt, i_le, i_eq, i32_gI, i64_gJ, i32_id, i32_to, i64_to, sI_i32, sJ_i64, b01_t, b01_f, i32_b01, b01_0, ↓a_s0, ↓n_s0, ↓a_s1, ↓n_s1, Int.add_zero, t_lt, f_lt, t_le, f_le, t_eq, f_eq, true_and, and_true, false_and, and_false, and_self, ↓reduceIte, z_bool_of, or_true, true_or, or_false, false_or, Int.neg_neg, not_true_eq_false, not_false_eq_true, lg_lt, lg_le, lg_gt, lg_ge, lg_eq, j_lit, j_add, j_sub, j_mul, j_neg, j_eq, i64_id, ij, ji, z_rt, Nat.reduceEqDiff, Nat.reduceAdd, Int.reduceAdd, Int.reduceSub, Int.reduceMul, Int.reduceNeg, Int.reduceLT, Int.reduceLE, Int.reduceEq, List.length_nil, Int.natCast_zero, Int.ofNat_zero]
    rw [hent]
    have hlt := hs.1
    let G : mQ → Prop := fun q => ∀ (S1 : zS) (x6 x7 x8 : Option Value), FrSk sk S S1 → Stk (gI S1 sk) q.2 → SB q.2 → q.2.length ≤ 51 → ∃ S' : zS, z_ev X d (41, 6, L41 r cc fr wc (q.2.length : Nat) q.1 x6 x7 x8, [], mk S1) = some (vI (eV (some e) w), mk S') ∧ FrSk sk S S'
    have hzS : ∀ {S1 : zS}, FrSk sk S S1 → zdes S1 cc = some (.inr (0, len)) ∧ zdes S1 wc = some (.inr (0, wl)) := fun {S1} hF => ⟨by rw [hF.1.zd]; exact hz, by rw [hF.1.zd]; exact hwz⟩
    have key : G (fr, []) := by
      refine hs.sim hW (st := []) (by show 0 + n ≤ 50; omega) G ?_ ?_ ?_
      · intro k st y hk1 hk2 hy hky hG S1 x6 x7 x8 hF hS hB hL
        replace hS : Stk (gI S1 sk) st := hS
        replace hB : SB st := hB
        replace hL : st.length ≤ 51 := hL
        show ∃ S' : zS, z_ev X d (41, 6, L41 r cc fr wc (st.length : Nat) k x6 x7 x8, [], mk S1) = some (vI (eV (some e) w), mk S') ∧ FrSk sk S S'
        obtain ⟨z1, z2⟩ := hzS hF
        have ec : gI S1 cc k = gI S cc k := hF.2.1 cc k hc
        have hop : (dC ord (gI S cc k)).1 < 13 := Classical.byContradiction fun q => by
          rw [mst_13 (I := fun k => dC ord (gI S cc k)) (by show 13 ≤ (dC ord (gI S cc k)).1; omega)] at hy
          have : ((k, st) : mQ) = y := Option.some.inj hy
          rw [← this] at hky
          exact absurd hky (by show ¬ k < k; omega)
        obtain ⟨g1, g2, g3⟩ := dC_lt hop
        rw [g1] at hop
        have hgr := gI_rng S cc k
        have hdec := d41 (X := X) (d := d) (r := r) (wc := wc) (fr := fr) (h := (st.length : Nat)) (x6 := x6) (x7 := x7) (x8 := x8) h4 z1 hl (k := k) (by omega) (by rw [ec]; exact g2)
        rw [ec] at hdec
        unfold mst at hy
        simp only [g1] at hy
        generalize hop' : gI S cc k % 16 = op at *
        generalize har' : gI S cc k / 16 = ar at *
        have har : 0 ≤ ar ∧ ar < 134217728 := by omega
        rw [hdec]
        clear hdec
        by_cases o0 : op = 0
        · subst o0
          rw [if_pos (Or.inl rfl)]
          rw [if_pos rfl] at hy
          by_cases q : st.length < 51
          · rw [if_pos q] at hy
            have hy' : (k + 1, ar :: st) = y := Option.some.inj hy
            rw [n41 hr (by omega) (by omega) (by omega)]
            subst hy'
            exact hG (sI S1 sk st.length ar) _ _ _ (hF.tr (FrSk.I hsk)) ⟨by rw [gI_sI, if_pos ⟨rfl, rfl⟩, i32_id (by omega) (by omega)], hS.fr (fun i q1 q2 => by rw [gI_sI, if_neg (by omega)])⟩ (hB.cs (by omega)) (by show st.length + 1 ≤ 51; omega)
          · rw [if_neg q] at hy
            have hy' : (k, st) = y := Option.some.inj hy
            rw [← hy'] at hky
            exact absurd hky (by show ¬ k < k; omega)
        rw [if_neg o0] at hy
        by_cases o1 : op = 1
        · subst o1
          rw [if_pos (Or.inr rfl)]
          rw [if_pos rfl] at hy
          by_cases q : st.length < 51
          · rw [if_pos q] at hy
            have hy' : (k + 1, w ar :: st) = y := Option.some.inj hy
            have hw30 : ar < wl := by have := g3 rfl; omega
            have ew : gI S1 wc ar = w ar := by rw [hF.2.1 wc ar hcw]; exact hww ar (by omega) hw30
            have hwb := hW ar
            rw [w41 hr hw4 z2 (by omega) (by omega) (by omega) ⟨by omega, hw30⟩, ew]
            subst hy'
            exact hG (sI S1 sk st.length (w ar)) _ _ _ (hF.tr (FrSk.I hsk)) ⟨by rw [gI_sI, if_pos ⟨rfl, rfl⟩, i32_id (by omega) (by omega)], hS.fr (fun i q1 q2 => by rw [gI_sI, if_neg (by omega)])⟩ (hB.cs (by omega)) (by show st.length + 1 ≤ 51; omega)
          · rw [if_neg q] at hy
            have hy' : (k, st) = y := Option.some.inj hy
            rw [← hy'] at hky
            exact absurd hky (by show ¬ k < k; omega)
        rw [if_neg o1] at hy
        rw [if_neg (by omega)]
        cases st with
        | nil =>
          have hy' : ((k, []) : mQ) = y := Option.some.inj hy
          rw [← hy'] at hky
          exact absurd hky (by show ¬ k < k; omega)
        | cons u st =>
          simp only [] at hy
          have hlen : ((u :: st).length : Int) = st.length + 1 := rfl
          have hlen' : (u :: st).length = st.length + 1 := rfl
          have hu : gI S1 sk (((u :: st).length : Nat) - 1) = u := by rw [hlen, show (st.length : Int) + 1 - 1 = st.length by omega]; exact hS.1
          have hub := hB.hd
          by_cases o10 : op = 10
          · subst o10
            rw [if_pos rfl] at hy
            have hy' : (k + 1, (1 - u) :: st) = y := Option.some.inj hy
            rw [o41 hr (by omega) (by omega) hu hub]
            subst hy'
            have := hG (sI S1 sk (((u :: st).length : Nat) - 1) (1 - u)) (vI 10) (vI ar) x8 (hF.tr (FrSk.I hsk)) ⟨by rw [gI_sI, if_pos ⟨rfl, by omega⟩, i32_id (by omega) (by omega)], hS.2.fr (fun i q1 q2 => by rw [gI_sI, if_neg (by omega)])⟩ (hB.tl.cs (by omega)) hL
            exact this
          rw [if_neg o10] at hy
          by_cases oj : op = 11 ∨ op = 12
          · rw [if_pos oj] at hy
            by_cases q : u = (if op = 11 then 1 else 0)
            · rw [if_pos q] at hy
              by_cases q2 : k + 1 ≤ ar
              · rw [if_pos q2] at hy
                have hy' : (ar, u :: st) = y := Option.some.inj hy
                rw [j41 hd hr (by omega) (by omega) oj hu q (by omega)]
                subst hy'
                exact hG S1 _ _ _ hF hS hB hL
              · rw [if_neg q2] at hy
                have hy' : (k, u :: st) = y := Option.some.inj hy
                rw [← hy'] at hky
                exact absurd hky (by show ¬ k < k; omega)
            · rw [if_neg q] at hy
              have hy' : (k + 1, st) = y := Option.some.inj hy
              rw [i41 hr (by omega) (by omega) oj hu hub q, hlen, show (st.length : Int) + 1 - 1 = st.length by omega]
              subst hy'
              exact hG S1 _ _ _ hF hS.2 hB.tl (by show st.length ≤ 51; omega)
          rw [if_neg oj] at hy
          cases st with
          | nil =>
            have hy' : ((k, [u]) : mQ) = y := Option.some.inj hy
            rw [← hy'] at hky
            exact absurd hky (by show ¬ k < k; omega)
          | cons v st =>
            simp only [] at hy
            rw [if_neg (by omega)] at hy
            have hlen2 : ((u :: v :: st).length : Int) = st.length + 2 := by show ((st.length + 1 + 1 : Nat) : Int) = _; omega
            have hv : gI S1 sk (((u :: v :: st).length : Nat) - 2) = v := by rw [hlen2, show (st.length : Int) + 2 - 2 = st.length by omega]; exact hS.2.1
            have hvb := hB.tl.hd
            cases ho : opv op v u with
            | none => rw [ho] at hy; cases hy
            | some z =>
              rw [ho] at hy
              have hy' : (k + 1, z :: st) = y := Option.some.inj hy
              have hov : ov op v u = z := by unfold ov; rw [ho]
              have hzb := opv_b ho
              have hL2 : (u :: v :: st).length = st.length + 2 := rfl
              rw [b41 hd hr (by omega) (by omega) (by omega) hv hu hvb hub, hov, if_neg (by omega)]
              subst hy'
              rw [hlen2, show (st.length : Int) + 2 - 1 = ((z :: st).length : Nat) by show _ = ((st.length + 1 : Nat) : Int); omega, show (st.length : Int) + 2 - 2 = st.length by omega]
              exact hG (sI S1 sk st.length z) _ _ _ (hF.tr (FrSk.I hsk)) ⟨by rw [gI_sI, if_pos ⟨rfl, rfl⟩, i32_id (by omega) (by omega)], hS.2.2.fr (fun i q1 q2 => by rw [gI_sI, if_neg (by omega)])⟩ (hB.tl.tl.cs (by omega)) (by show st.length + 1 ≤ 51; omega)
      · intro he k st hk1 hk2 hy S1 x6 x7 x8 hF hS hB hL
        replace hS : Stk (gI S1 sk) st := hS
        replace hB : SB st := hB
        replace hL : st.length ≤ 51 := hL
        show ∃ S' : zS, z_ev X d (41, 6, L41 r cc fr wc (st.length : Nat) k x6 x7 x8, [], mk S1) = some (vI (eV (some e) w), mk S') ∧ FrSk sk S S'
        obtain ⟨z1, z2⟩ := hzS hF
        have ec : gI S1 cc k = gI S cc k := hF.2.1 cc k hc
        have hop : (dC ord (gI S cc k)).1 < 13 := Classical.byContradiction fun q => by
          rw [mst_13 (I := fun k => dC ord (gI S cc k)) (by show 13 ≤ (dC ord (gI S cc k)).1; omega)] at hy
          cases hy
        obtain ⟨g1, g2, g3⟩ := dC_lt hop
        rw [g1] at hop
        have hgr := gI_rng S cc k
        have hdec := d41 (X := X) (d := d) (r := r) (wc := wc) (fr := fr) (h := (st.length : Nat)) (x6 := x6) (x7 := x7) (x8 := x8) h4 z1 hl (k := k) (by omega) (by rw [ec]; exact g2)
        rw [ec] at hdec
        unfold mst at hy
        simp only [g1] at hy
        generalize hop' : gI S cc k % 16 = op at *
        generalize har' : gI S cc k / 16 = ar at *
        rw [hdec]
        clear hdec
        by_cases o0 : op = 0
        · rw [if_pos o0] at hy
          split at hy <;> cases hy
        rw [if_neg o0] at hy
        by_cases o1 : op = 1
        · rw [if_pos o1] at hy
          split at hy <;> cases hy
        rw [if_neg o1] at hy
        rw [if_neg (by omega)]
        cases st with
        | nil => cases hy
        | cons u st =>
          simp only [] at hy
          by_cases o10 : op = 10
          · rw [if_pos o10] at hy; cases hy
          rw [if_neg o10] at hy
          by_cases oj : op = 11 ∨ op = 12
          · rw [if_pos oj] at hy
            by_cases q : u = (if op = 11 then 1 else 0)
            · rw [if_pos q] at hy
              by_cases q2 : k + 1 ≤ ar
              · rw [if_pos q2] at hy; cases hy
              · rw [if_neg q2] at hy; cases hy
            · rw [if_neg q] at hy; cases hy
          rw [if_neg oj] at hy
          cases st with
          | nil => cases hy
          | cons v st =>
            simp only [] at hy
            rw [if_neg (by omega)] at hy
            have hlen2 : ((u :: v :: st).length : Int) = st.length + 2 := by show ((st.length + 1 + 1 : Nat) : Int) = _; omega
            have hL2 : (u :: v :: st).length = st.length + 2 := rfl
            have hu : gI S1 sk (((u :: v :: st).length : Nat) - 1) = u := by rw [hlen2, show (st.length : Int) + 2 - 1 = ((v :: st).length : Nat) by show _ = ((st.length + 1 : Nat) : Int); omega]; exact hS.1
            have hv : gI S1 sk (((u :: v :: st).length : Nat) - 2) = v := by rw [hlen2, show (st.length : Int) + 2 - 2 = st.length by omega]; exact hS.2.1
            cases ho : opv op v u with
            | some z => rw [ho] at hy; cases hy
            | none =>
              have hov : ov op v u = -2000000000 := ov_n.mpr ho
              rw [b41 hd hr (by omega) (by omega) (by omega) hv hu hB.tl.hd hB.hd, if_pos hov]
              refine ⟨S1, ?_, hF⟩
              rw [show eV (some e) w = -2000000000 from by unfold eV; simp only [he]]
      · intro v hv S1 x6 x7 x8 hF hS hB hL
        replace hS : Stk (gI S1 sk) [v] := hS
        show ∃ S' : zS, z_ev X d (41, 6, L41 r cc fr wc (([v] : List Int).length : Nat) m x6 x7 x8, [], mk S1) = some (vI (eV (some e) w), mk S') ∧ FrSk sk S S'
        obtain ⟨z1, z2⟩ := hzS hF
        have ec : gI S1 cc m = gI S cc m := hF.2.1 cc m hc
        obtain ⟨g1, g2, g3⟩ := dC_13 hm
        have hdec := d41 (X := X) (d := d) (r := r) (wc := wc) (fr := fr) (h := (([v] : List Int).length : Nat)) (x6 := x6) (x7 := x7) (x8 := x8) h4 z1 hl (k := m) (by omega) (by rw [ec]; exact g3)
        rw [ec, g1, g2, if_neg (by omega)] at hdec
        refine ⟨S1, ?_, hF⟩
        show z_ev X d (41, 6, L41 r cc fr wc (([v] : List Int).length : Nat) m x6 x7 x8, [], mk S1) = _
        rw [hdec, show eV (some e) w = v from by unfold eV; simp only [hv]]
        exact s41 hr (by show (1 : Int) ≤ 1 ∧ (1 : Int) ≤ 51; omega) hS.1
    exact key S none none none FrSk.rf trivial (fun v hv => by cases hv) (by show 0 ≤ 51; omega)
