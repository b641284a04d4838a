/-! the reference: and, or -/
def JS (I : Ins) (a k : Int) (w : Option Ev) (Q : List En) (m : Nat) (op : Int) : Prop := match w with
  | none => Q = [] ∧ a = k ∧ m = 0
  | some l => ∃ ia : Int, Q = [(op, ia)] ∧ Seg I a ia m l ∧ k = ia + 1
theorem JS.le {I : Ins} {a k : Int} {w : Option Ev} {Q : List En} {m : Nat} {op : Int} (h : JS I a k w Q m op) : a ≤ k := by
  cases w with
  | none => have h' : Q = [] ∧ a = k ∧ m = 0 := h; omega
  | some l => obtain ⟨ia, h1, h2, h3⟩ := h; have := h2.1; omega
theorem JS.mem {I : Ins} {a k : Int} {w : Option Ev} {Q : List En} {m : Nat} {op : Int} (h : JS I a k w Q m op) : ∀ y ∈ Q, y.1 = op := by
  intro y hy
  cases w with
  | none => have h' : Q = [] ∧ a = k ∧ m = 0 := h; rw [h'.1] at hy; cases hy
  | some l =>
    obtain ⟨ia, h1, h2, h3⟩ := h
    rw [h1] at hy
    simp only [List.mem_cons, List.not_mem_nil, or_false] at hy
    rw [hy]
theorem JS.cg {I I' : Ins} {a k : Int} {w : Option Ev} {Q : List En} {m : Nat} {op : Int} (h : JS I a k w Q m op) (hI : ∀ i, i < k → I' i = I i) : JS I' a k w Q m op := by
  cases w with
  | none => exact h
  | some l =>
    obtain ⟨ia, h1, h2, h3⟩ := h
    exact ⟨ia, h1, h2.cg (fun i _ q => hI i (by omega)), h3⟩
theorem JS.pend {ord : Int} {I : Ins} {a k k1 : Int} {w : Option Ev} {Q Q2 : List En} {m m2 : Nat} {op : Int} {e : Ev} (hop : op = 29 ∨ op = 30) (h : JS I a k w Q m op) (h2 : Pend ord I k k1 Q2 m2 e) (hk : k ≤ k1) : Pend ord I a k1 (Q2 ++ Q) (m + m2) (jn (if op = 29 then 12 else 11) w e) := by
  cases w with
  | none =>
    have h' : Q = [] ∧ a = k ∧ m = 0 := h
    obtain ⟨rfl, rfl, rfl⟩ := h'
    rw [List.append_nil, Nat.zero_add]; exact h2
  | some l =>
    obtain ⟨ia, h1, h3, h4⟩ := h
    subst h4
    rw [h1]
    exact Pend.join hop h3 h2 hk
theorem bnd_28 : bnd 28 = 3 := by decide
theorem bnd_29 : bnd 29 = 2 := by decide
theorem bnd_30 : bnd 30 = 1 := by decide
theorem bnd_ge4 {op : Int} (h : 20 ≤ op ∧ op ≤ 27) : 4 ≤ bnd op := by
  unfold bnd
  rw [if_neg (by omega), if_neg (by omega), if_neg (by omega), if_neg (by omega)]
  split
  · omega
  · split <;> omega
theorem ref_testL {X : zX} {d : Nat} (hd : 6 < d) {b : Int → Int} {n : Int} {T : Nat} (hT : RTape b n T) {ord dp : Int} {g : Rdr} (hg : RdC X d b n T ord dp g) (p0 : Nat) (P : List En) (hP : TopB P 1) (hi : inn P = -1 ∨ inn P = 31) (k : Int) : ∀ (m : Nat) (o a : Option Ev) (S : zS) (t : Nat) (p : Nat × Int) (ko ka : Int) (mo ma : Nat) (Qo Qa : List En), RX S b n T t ord p (Qa ++ (Qo ++ P)) dp ka → KW S → JS (IM ord S) k ko o Qo mo 30 → JS (IM ord S) ko ka a Qa ma 29 → T < t + m → p0 + mo + ma ≤ p.1 → match pTestL (tc b n) (pNots (tc b n) 500) g m o a p t with
  | .inl e => ∃ S' : zS, hd6 X d 1 0 S = some (none, mk S') ∧ RBad S' (tpos b n e) ∧ FrE S S'
  | .inr (e, p1, t1) => ∃ (S' : zS) (Q : List En) (k1 : Int) (m : Nat), hd6 X d 1 0 S = hd6 X d 1 2 S' ∧ RX S' b n T t1 ord p1 (Q ++ P) dp k1 ∧ Pend ord (IM ord S') k k1 Q m e ∧ p0 + m ≤ p1.1 ∧ (∀ i, i < k → IM ord S' i = IM ord S i) ∧ t < t1 ∧ FrE S S' ∧ (∀ y ∈ Q, 20 ≤ y.1 ∧ y.1 ≤ 30) ∧ tc b n t1 ≠ 266 ∧ tc b n t1 ≠ 260 ∧ k ≤ k1 := by
  intro m
  induction m with
  | zero => intro o a S t p ko ka mo ma Qo Qa h _ _ _ hm _; have := h.2.1.1; omega
  | succ m ih =>
    intro o a S t p ko ka mo ma Qo Qa h hK wo wa hm hp
    have ht3 := hT.2.2
    have htT := h.2.1.1
    obtain ⟨S0, N, n1, n2, n3, n4, n5, n6, n7, n8⟩ := ref_nots (X := X) (d := d) hd hT 500 S t (Qa ++ (Qo ++ P)) h (by omega)
    have mo' := wo.mem
    have ma' := wa.mem
    have hPo : TopB (Qo ++ P) 2 := TopB.app (fun y hy => by rw [mo' y hy, bnd_30]; omega) (hP.mono (by omega))
    have hPa : TopB (Qa ++ (Qo ++ P)) 3 := TopB.app (fun y hy => by rw [ma' y hy, bnd_29]; omega) (hPo.mono (by omega))
    have hPn : TopB (N ++ (Qa ++ (Qo ++ P))) 4 := TopB.app (fun y hy => by rw [n7 y hy, bnd_28]; omega) (hPa.mono (by omega))
    have hin : inn (N ++ (Qa ++ (Qo ++ P))) = inn P := by
      rw [inn_app (fun y hy => by rw [n7 y hy]; omega), inn_app (fun y hy => by rw [ma' y hy]; omega), inn_app (fun y hy => by rw [mo' y hy]; omega)]
    have hstep := hg S0 (pNots (tc b n) 500 t).2 p (N ++ (Qa ++ (Qo ++ P))) ka n2 (hK.e n4) hPn (by rw [hin]; exact hi) n5
    have ep : pTestL (tc b n) (pNots (tc b n) 500) g (m + 1) o a p t = (match g p (pNots (tc b n) 500 t).2 with
      | .inl e => .inl e
      | .inr (e, p1, t1) =>
        if tc b n t1 = 266 then pTestL (tc b n) (pNots (tc b n) 500) g m o (some (jn 12 a (trn (pNots (tc b n) 500 t).1 e))) p1 (t1 + 1)
        else if tc b n t1 = 260 then pTestL (tc b n) (pNots (tc b n) 500) g m (some (jn 11 o (jn 12 a (trn (pNots (tc b n) 500 t).1 e)))) none p1 (t1 + 1)
        else .inr (jn 11 o (jn 12 a (trn (pNots (tc b n) 500 t).1 e)), p1, t1)) := rfl
    rw [ep, n1]
    generalize hpn : pNots (tc b n) 500 t = pn at *
    cases hr : g p pn.2 with
    | inl e =>
      rw [hr] at hstep
      obtain ⟨S3, c1, c2, c3⟩ := hstep
      exact ⟨S3, c1, c2, n4.tr c3⟩
    | inr x =>
      obtain ⟨e, p1, t1⟩ := x
      rw [hr] at hstep
      obtain ⟨S1, Q, k1, m1, a1, a2, a3, a4, a5, a6, a7, a8, a10⟩ := hstep
      have lo := wo.le
      have la := wa.le
      have eqI : ∀ i, i < ka → IM ord S1 i = IM ord S i := fun i q => by rw [a5 i q, n3]
      have wo1 := wo.cg (I' := IM ord S1) (fun i q => eqI i (by omega))
      have wa1 := wa.cg (I' := IM ord S1) eqI
      have Pn := n8 _ _ _ _ _ a3
      have Pa : Pend ord (IM ord S1) ko k1 (Q ++ N ++ Qa) (ma + m1) (jn 12 a (trn pn.1 e)) := wa1.pend (Or.inl rfl) Pn a10
      have Po : Pend ord (IM ord S1) k k1 (Q ++ N ++ Qa ++ Qo) (mo + (ma + m1)) (jn 11 o (jn 12 a (trn pn.1 e))) := wo1.pend (Or.inr rfl) Pa (by omega)
      have g19 := a2.1.2.2.2
      show match (if tc b n t1 = 266 then pTestL (tc b n) (pNots (tc b n) 500) g m o (some (jn 12 a (trn pn.1 e))) p1 (t1 + 1)
        else if tc b n t1 = 260 then pTestL (tc b n) (pNots (tc b n) 500) g m (some (jn 11 o (jn 12 a (trn pn.1 e)))) none p1 (t1 + 1)
        else .inr (jn 11 o (jn 12 a (trn pn.1 e)), p1, t1)) with
        | .inl e => _
        | .inr (e, p1, t1) => _
      generalize hea : jn 12 a (trn pn.1 e) = ea at *
      have bA : ∀ y ∈ Q ++ N ++ Qa, (20 ≤ y.1 ∧ y.1 ≤ 30) ∧ 2 ≤ bnd y.1 := by
        intro y hy
        rcases List.mem_append.mp hy with w | w
        · rcases List.mem_append.mp w with w | w
          · have := a8 y w; have := bnd_ge4 this; omega
          · rw [n7 y w, bnd_28]; omega
        · rw [ma' y w, bnd_29]; omega
      have bO : ∀ y ∈ Q ++ N ++ Qa ++ Qo, (20 ≤ y.1 ∧ y.1 ≤ 30) ∧ 1 ≤ bnd y.1 := by
        intro y hy
        rcases List.mem_append.mp hy with w | w
        · have := bA y w; omega
        · rw [mo' y w, bnd_30]; omega
      have eA : Q ++ (N ++ (Qa ++ (Qo ++ P))) = (Q ++ N ++ Qa) ++ (Qo ++ P) := by simp only [List.append_assoc]
      have eO : Q ++ (N ++ (Qa ++ (Qo ++ P))) = (Q ++ N ++ Qa ++ Qo) ++ P := by simp only [List.append_assoc]
      by_cases q1 : tc b n t1 = 266
      · rw [if_pos q1]
        rw [eA] at a2
        obtain ⟨S2, b1, b2, b3, b4⟩ := z195j (X := X) (d := d) hd hT (K := 29) (least := 2) a2 (Or.inl ⟨q1, rfl, rfl⟩) (fun y hy => (bA y hy).2) hPo
        have hl := stl_lo (ord := ord) (m := ko) (Q ++ N ++ Qa) (IM ord S1) k1 (by omega) (fun y hy w => ((Pa.2 y hy).2 w).1)
        have hseg := Pa.1
        have hk2 := hseg.1
        generalize hst : stl ord (Q ++ N ++ Qa) (IM ord S1, k1) = st at *
        have low : ∀ i, i < ko → IM ord S2 i = IM ord S1 i := fun i q => by rw [b3, upI_ne _ _ (by omega), hl.1 i q]
        have := ih o (some ea) S2 (t1 + 1) p1 ko (st.2 + 1) mo (ma + m1) Qo [(29, st.2)] b2 ((hK.e n4).e a7 |>.e b4) (wo1.cg low) ⟨st.2, rfl, hseg.cg (fun i _ q => by rw [b3, upI_ne _ _ (by omega)]), rfl⟩ (by omega) (by omega)
        rw [a1, hd6_2 g19 b1]
        cases hr2 : pTestL (tc b n) (pNots (tc b n) 500) g m o (some ea) p1 (t1 + 1) with
        | inl e2 =>
          rw [hr2] at this
          obtain ⟨S3, c1, c2, c3⟩ := this
          exact ⟨S3, c1, c2, ((n4.tr a7).tr b4).tr c3⟩
        | inr x =>
          obtain ⟨e2, p2, t2⟩ := x
          rw [hr2] at this
          obtain ⟨S3, Q3, k3, m3, c1, c2, c3, c4, c5, c6, c7, c8, c9, c9', c10⟩ := this
          refine ⟨S3, Q3, k3, m3, c1, c2, c3, c4, fun i hi => ?_, by omega, ((n4.tr a7).tr b4).tr c7, c8, c9, c9', c10⟩
          rw [c5 i hi, low i (by omega), eqI i (by omega)]
      · rw [if_neg q1]
        by_cases q2 : tc b n t1 = 260
        · rw [if_pos q2]
          rw [eO] at a2
          obtain ⟨S2, b1, b2, b3, b4⟩ := z195j (X := X) (d := d) hd hT (K := 30) (least := 1) a2 (Or.inr ⟨q2, rfl, rfl⟩) (fun y hy => (bO y hy).2) hP
          have hl := stl_lo (ord := ord) (m := k) (Q ++ N ++ Qa ++ Qo) (IM ord S1) k1 (by omega) (fun y hy w => ((Po.2 y hy).2 w).1)
          have hseg := Po.1
          have hk2 := hseg.1
          generalize hst : stl ord (Q ++ N ++ Qa ++ Qo) (IM ord S1, k1) = st at *
          have low : ∀ i, i < k → IM ord S2 i = IM ord S1 i := fun i q => by rw [b3, upI_ne _ _ (by omega), hl.1 i q]
          have := ih (some (jn 11 o ea)) none S2 (t1 + 1) p1 (st.2 + 1) (st.2 + 1) (mo + (ma + m1)) 0 [(30, st.2)] [] b2 ((hK.e n4).e a7 |>.e b4) ⟨st.2, rfl, hseg.cg (fun i _ q => by rw [b3, upI_ne _ _ (by omega)]), rfl⟩ ⟨rfl, rfl, rfl⟩ (by omega) (by omega)
          rw [a1, hd6_2 g19 b1]
          cases hr2 : pTestL (tc b n) (pNots (tc b n) 500) g m (some (jn 11 o ea)) none p1 (t1 + 1) with
          | inl e2 =>
            rw [hr2] at this
            obtain ⟨S3, c1, c2, c3⟩ := this
            exact ⟨S3, c1, c2, ((n4.tr a7).tr b4).tr c3⟩
          | inr x =>
            obtain ⟨e2, p2, t2⟩ := x
            rw [hr2] at this
            obtain ⟨S3, Q3, k3, m3, c1, c2, c3, c4, c5, c6, c7, c8, c9, c9', c10⟩ := this
            refine ⟨S3, Q3, k3, m3, c1, c2, c3, c4, fun i hi => ?_, by omega, ((n4.tr a7).tr b4).tr c7, c8, c9, c9', c10⟩
            rw [c5 i hi, low i hi, eqI i (by omega)]
        · rw [if_neg q2]
          rw [eO] at a2
          exact ⟨S1, Q ++ N ++ Qa ++ Qo, k1, mo + (ma + m1), a1, a2, Po, by omega, fun i hi => eqI i (by omega), by omega, n4.tr a7, fun y hy => (bO y hy).1, q1, q2, by omega⟩
theorem pLeaf_40 {c v : Nat → Int} {ord : Int} {p : Nat × Int} {t : Nat} (h : c t = 40) : pLeaf c v ord p t = .inl t := by
  unfold pLeaf
  by_cases q : 50 ≤ p.1
  · rw [if_pos q]
  rw [if_neg q, if_neg (by omega)]
  by_cases q0 : ord = 0
  · rw [if_pos q0, if_neg (by omega)]
  rw [if_neg q0, if_neg (by omega), if_neg (by omega), if_neg (by omega), if_neg (by omega), if_neg (by omega), if_neg (by omega)]
theorem ref_testS {X : zX} {d : Nat} (hd : 6 < d) {b : Int → Int} {n : Int} {T : Nat} (hT : RTape b n T) {ord dp : Int} {Sm : Rdr} (hS : RdS X d b n T ord 1 dp Sm) {M : Option Rdr} (hM : match M with
  | none => dp = 8 ∧ ∀ p t, tc b n t = 40 → Sm p t = .inl t
  | some f => dp < 8 ∧ RdT X d b n T ord (dp + 1) f) : RdT X d b n T ord dp (pTestS (tc b n) Sm M) := by
  intro S t p P k h hK hP hi
  have h3 := hT.2.2
  have h1 := h.2.1.1
  exact ref_testL hd hT (ref_plain hd hT hS hM) p.1 P hP hi k 500 none none S t p k k 0 0 [] [] h hK ⟨rfl, rfl, rfl⟩ ⟨rfl, rfl, rfl⟩ (by omega) (by omega)
theorem ref_test {X : zX} {d : Nat} (hd : 6 < d) {b : Int → Int} {n : Int} {T : Nat} (hT : RTape b n T) {ord : Int} : ∀ (j : Nat) (dp : Int), dp + j = 8 → RdT X d b n T ord dp (pTest (tc b n) (tv b n) ord j) := by
  intro j
  induction j with
  | zero =>
    intro dp h
    refine ref_testS hd hT (ref_sum hd hT 0 dp h) (M := none) ⟨by omega, fun p t q => ?_⟩
    show pSumL (tc b n) (pPart (tc b n) (tv b n) ord none) 500 none none p t = .inl t
    have e : pPart (tc b n) (tv b n) ord none p t = .inl t := pLeaf_40 q
    simp only [pSumL, e]
  | succ j ih => intro dp h; exact ref_testS hd hT (ref_sum hd hT (j + 1) dp h) (M := some (pTest (tc b n) (tv b n) ord j)) ⟨by omega, ih (dp + 1) (by omega)⟩
