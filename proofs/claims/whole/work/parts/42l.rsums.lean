/-- the loop over a sum -/
theorem ref_sumL {X : zX} {d : Nat} (hd : 6 < d) {b : Int → Int} {n : Int} {T : Nat} (hT : RTape b n T) {ord ts dp : Int} {g : Rdr} (hg : RdP X d b n T ord ts dp g) (p0 : Nat) (P : List En) (hP : TopB P 5) (k : Int) : ∀ (m : Nat) (ad sc : Wt) (S : zS) (t : Nat) (p : Nat × Int) (ka ks : Int) (ma ms : Nat) (Qa Qs : List En), RX S b n T t ord p (Qs ++ (Qa ++ P)) dp ks → KW S → WtS (IM ord S) k ka ad Qa ma 2 3 → WtS (IM ord S) ka ks sc Qs ms 4 6 → T < t + m → p0 + ma + ms ≤ p.1 → match pSumL (tc b n) g m ad sc p t with
  | .inl e => ∃ S' : zS, hd6 X d ts 1 S = some (none, mk S') ∧ RBad S' (tpos b n e) ∧ FrE S S'
  | .inr (e, p1, t1) => ∃ (S' : zS) (Q : List En) (k1 : Int) (m : Nat), hd6 X d ts 1 S = hd6 X d ts 3 S' ∧ RX S' b n T t1 ord p1 (Q ++ P) dp k1 ∧ Pend ord (IM ord S') k k1 Q m e ∧ p0 + m ≤ p1.1 ∧ (∀ i, i < k → IM ord S' i = IM ord S i) ∧ t < t1 ∧ FrE S S' ∧ (∀ y ∈ Q, 20 ≤ y.1 ∧ y.1 ≤ 24) ∧ ops (tc b n t1) = -1 ∧ k ≤ k1 := by
  intro m
  induction m with
  | zero => intro ad sc S t p ka ks ma ms Qa Qs h _ _ _ hm _; have := h.2.1.1; omega
  | succ m ih =>
    intro ad sc S t p ka ks ma ms Qa Qs h hK wa ws hm hp
    have hstep := hg S t p (Qs ++ (Qa ++ P)) ks h hK
    have ep : pSumL (tc b n) g (m + 1) ad sc p t = (match g p t with
      | .inl e => .inl e
      | .inr (e, p1, t1) =>
        if scl (tc b n t1) ≠ -1 then pSumL (tc b n) g m ad (some (scl (tc b n t1), fin sc e)) p1 (t1 + 1)
        else if add (tc b n t1) ≠ -1 then pSumL (tc b n) g m (some (add (tc b n t1), fin ad (fin sc e))) none p1 (t1 + 1)
        else .inr (fin ad (fin sc e), p1, t1)) := rfl
    rw [ep]
    cases hr : g p t with
    | inl e =>
      rw [hr] at hstep
      exact hstep
    | inr x =>
      obtain ⟨e, p1, t1⟩ := x
      rw [hr] at hstep
      obtain ⟨S1, k1, m1, a1, a2, a3, a4, a5, a6, a7⟩ := hstep
      have la := wa.le
      have ls := ws.le
      have l1 := a3.1
      have wa1 := wa.cg (I' := IM ord S1) (fun i hi => a5 i (by omega))
      have ws1 := ws.cg (I' := IM ord S1) (fun i hi => a5 i hi)
      have P1 := ws1.pend (Pend.nil (ord := ord) a3) (by omega) (by omega)
      rw [List.nil_append] at P1
      have P2 := wa1.pend P1 (by omega) (by omega)
      have ms' := ws.mem
      have ma' := wa.mem
      have mQ : ∀ y ∈ Qs ++ Qa, 20 ≤ y.1 ∧ y.1 ≤ 24 := by
        intro y hy
        rcases List.mem_append.mp hy with w | w
        · have := ms' y w; omega
        · have := ma' y w; omega
      have mQs : ∀ y ∈ Qs, 20 ≤ y.1 ∧ y.1 ≤ 24 := fun y hy => mQ y (List.mem_append.mpr (Or.inl hy))
      have g19 := a2.1.2.2.2
      show match (if scl (tc b n t1) ≠ -1 then pSumL (tc b n) g m ad (some (scl (tc b n t1), fin sc e)) p1 (t1 + 1)
        else if add (tc b n t1) ≠ -1 then pSumL (tc b n) g m (some (add (tc b n t1), fin ad (fin sc e))) none p1 (t1 + 1)
        else .inr (fin ad (fin sc e), p1, t1)) with
        | .inl e => _
        | .inr (e, p1, t1) => _
      by_cases q1 : scl (tc b n t1) ≠ -1
      · rw [if_pos q1]
        obtain ⟨o1, o2, o3⟩ := ops_scl q1
        have hb : bnd (scl (tc b n t1) + 18) = 6 := bnd_6 (by omega)
        obtain ⟨S2, b1, b2, b3, b4⟩ := z194a (X := X) (d := d) hd hT (ts := ts) (Q := Qs) (R := Qa ++ P) a2 o1 (by omega) (fun y hy => by rw [hb, bnd_6 (by have := ms' y hy; omega)]; omega) (fun y r w => by
          rw [hb]
          cases Qa with
          | nil => have := hP y r w; omega
          | cons z Z =>
            have w' : z :: (Z ++ P) = y :: r := w
            have hz := ma' z List.mem_cons_self
            have : z = y := by cases w'; rfl
            rw [← this, bnd_5 (by omega)]; omega)
        have low := stl_low (ord := ord) (a := ka) (k := k1) (I := IM ord S1) mQs (by omega)
        have := ih ad (some (scl (tc b n t1), fin sc e)) S2 (t1 + 1) p1 ka _ ma (ms + m1) Qa [(scl (tc b n t1) + 18, 0)] b2 ((hK.e a7).e b4) (by rw [b3]; exact wa1.cg low) (by rw [b3]; exact ⟨rfl, P1.1, o2, o3⟩) (by omega) (by omega)
        rw [a1, hd6_3 g19 b1]
        cases hr2 : pSumL (tc b n) g m ad (some (scl (tc b n t1), fin sc e)) p1 (t1 + 1) with
        | inl e2 =>
          rw [hr2] at this
          obtain ⟨S3, c1, c2, c3⟩ := this
          exact ⟨S3, c1, c2, (a7.tr b4).tr c3⟩
        | inr x =>
          obtain ⟨e2, p2, t2⟩ := x
          rw [hr2] at this
          obtain ⟨S3, Q, k3, m3, c1, c2, c3, c4, c5, c6, c7, c8, c9, c10⟩ := this
          refine ⟨S3, Q, k3, m3, c1, c2, c3, c4, fun i hi => ?_, by omega, (a7.tr b4).tr c7, c8, c9, c10⟩
          rw [c5 i hi, b3, low i (by omega), a5 i (by omega)]
      · rw [if_neg q1]
        by_cases q2 : add (tc b n t1) ≠ -1
        · rw [if_pos q2]
          obtain ⟨o1, o2, o3⟩ := ops_add q2
          have hb : bnd (add (tc b n t1) + 18) = 5 := bnd_5 (by omega)
          have a2' : RX S1 b n T t1 ord p1 ((Qs ++ Qa) ++ P) dp k1 := by rw [List.append_assoc]; exact a2
          obtain ⟨S2, b1, b2, b3, b4⟩ := z194a (X := X) (d := d) hd hT (ts := ts) (Q := Qs ++ Qa) (R := P) a2' o1 (by omega) (fun y hy => by
            rw [hb]
            rcases List.mem_append.mp hy with w | w
            · rw [bnd_6 (by have := ms' y w; omega)]; omega
            · rw [bnd_5 (by have := ma' y w; omega)]; omega) (fun y r w => by rw [hb]; exact hP y r w)
          have low := stl_low (ord := ord) (a := k) (k := k1) (I := IM ord S1) mQ (by omega)
          have := ih (some (add (tc b n t1), fin ad (fin sc e))) none S2 (t1 + 1) p1 _ _ (ma + (ms + m1)) 0 [(add (tc b n t1) + 18, 0)] [] b2 ((hK.e a7).e b4) (by rw [b3]; exact ⟨rfl, P2.1, o2, o3⟩) ⟨rfl, rfl, rfl⟩ (by omega) (by omega)
          rw [a1, hd6_3 g19 b1]
          cases hr2 : pSumL (tc b n) g m (some (add (tc b n t1), fin ad (fin sc e))) none p1 (t1 + 1) with
          | inl e2 =>
            rw [hr2] at this
            obtain ⟨S3, c1, c2, c3⟩ := this
            exact ⟨S3, c1, c2, (a7.tr b4).tr c3⟩
          | inr x =>
            obtain ⟨e2, p2, t2⟩ := x
            rw [hr2] at this
            obtain ⟨S3, Q, k3, m3, c1, c2, c3, c4, c5, c6, c7, c8, c9, c10⟩ := this
            refine ⟨S3, Q, k3, m3, c1, c2, c3, c4, fun i hi => ?_, by omega, (a7.tr b4).tr c7, c8, c9, c10⟩
            rw [c5 i hi, b3, low i hi, a5 i (by omega)]
        · rw [if_neg q2]
          have a2' : RX S1 b n T t1 ord p1 ((Qs ++ Qa) ++ P) dp k1 := by rw [List.append_assoc]; exact a2
          exact ⟨S1, Qs ++ Qa, k1, ma + (ms + m1), a1, a2', P2, by omega, fun i hi => a5 i (by omega), a6, a7, mQ, ops_none (Classical.not_not.mp q1) (Classical.not_not.mp q2), by omega⟩
theorem ref_sumS {X : zX} {d : Nat} (hd : 6 < d) {b : Int → Int} {n : Int} {T : Nat} (hT : RTape b n T) {ord ts dp : Int} {M : Option Rdr} (hM : match M with
  | none => dp = 8
  | some f => dp < 8 ∧ RdS X d b n T ord ts (dp + 1) f) : RdS X d b n T ord ts dp (pSumS (tc b n) (tv b n) ord M) := by
  intro S t p P k h hK hP
  have h3 := hT.2.2
  have h1 := h.2.1.1
  exact ref_sumL hd hT (ref_part hd hT hM) p.1 P hP k 500 none none S t p k k 0 0 [] [] h hK ⟨rfl, rfl, rfl⟩ ⟨rfl, rfl, rfl⟩ (by omega) (by omega)
theorem ref_sum {X : zX} {d : Nat} (hd : 6 < d) {b : Int → Int} {n : Int} {T : Nat} (hT : RTape b n T) {ord ts : Int} : ∀ (j : Nat) (dp : Int), dp + j = 8 → RdS X d b n T ord ts dp (pSum (tc b n) (tv b n) ord j) := by
  intro j
  induction j with
  | zero => intro dp h; exact ref_sumS hd hT (M := none) (show dp = 8 by omega)
  | succ j ih => intro dp h; exact ref_sumS hd hT (M := some (pSum (tc b n) (tv b n) ord j)) ⟨by omega, ih (dp + 1) (by omega)⟩
