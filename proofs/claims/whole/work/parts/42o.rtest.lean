/-! the reference reads tests as the grammar tells: comparisons, plain tests, nots -/
def RdT (X : zX) (d : Nat) (b : Int → Int) (n : Int) (T : Nat) (ord dp : Int) (f : Rdr) : Prop := ∀ (S : zS) (t : Nat) (p : Nat × Int) (P : List En) (k : Int), RX S b n T t ord p P dp k → KW S → TopB P 1 → (inn P = -1 ∨ inn P = 31) → match f p t with
  | .inl e => ∃ S' : zS, hd6 X d 1 0 S = some (none, mk S') ∧ RBad S' (tpos b n e) ∧ FrE S S'
  | .inr (e, p1, t1) => ∃ (S' : zS) (Q : List En) (k1 : Int) (m : Nat), hd6 X d 1 0 S = hd6 X d 1 2 S' ∧ RX S' b n T t1 ord p1 (Q ++ P) dp k1 ∧ Pend ord (IM ord S') k k1 Q m e ∧ p.1 + m ≤ p1.1 ∧ (∀ i, i < k → IM ord S' i = IM ord S i) ∧ t < t1 ∧ FrE S S' ∧ (∀ y ∈ Q, 20 ≤ y.1 ∧ y.1 ≤ 30) ∧ tc b n t1 ≠ 266 ∧ tc b n t1 ≠ 260 ∧ k ≤ k1
def RdC (X : zX) (d : Nat) (b : Int → Int) (n : Int) (T : Nat) (ord dp : Int) (f : Rdr) : Prop := ∀ (S : zS) (t : Nat) (p : Nat × Int) (P : List En) (k : Int), RX S b n T t ord p P dp k → KW S → TopB P 4 → (inn P = -1 ∨ inn P = 31) → tc b n t ≠ 267 → match f p t with
  | .inl e => ∃ S' : zS, hd6 X d 1 0 S = some (none, mk S') ∧ RBad S' (tpos b n e) ∧ FrE S S'
  | .inr (e, p1, t1) => ∃ (S' : zS) (Q : List En) (k1 : Int) (m : Nat), hd6 X d 1 0 S = hd6 X d 1 2 S' ∧ RX S' b n T t1 ord p1 (Q ++ P) dp k1 ∧ Pend ord (IM ord S') k k1 Q m e ∧ p.1 + m ≤ p1.1 ∧ (∀ i, i < k → IM ord S' i = IM ord S i) ∧ t < t1 ∧ FrE S S' ∧ (∀ y ∈ Q, 20 ≤ y.1 ∧ y.1 ≤ 27) ∧ k ≤ k1
theorem bnd_4 {op : Int} (h : 25 ≤ op ∧ op ≤ 27) : bnd op = 4 := by unfold bnd; rw [if_neg (by omega), if_neg (by omega), if_neg (by omega), if_neg (by omega), if_pos (by omega)]
theorem bnd_lt4 {op : Int} (h : bnd op < 4) : 28 ≤ op := by
  apply Classical.byContradiction
  intro w
  unfold bnd at h
  rw [if_neg (by omega), if_neg (by omega), if_neg (by omega), if_neg (by omega)] at h
  split at h
  · omega
  · split at h <;> omega
theorem TopB.mono {P : List En} {m m' : Int} (h : TopB P m) (hm : m ≤ m') : TopB P m' := fun y r e => Int.lt_of_lt_of_le (h y r e) hm
theorem TopB.app {Q P : List En} {m : Int} (hQ : ∀ y ∈ Q, bnd y.1 < m) (h : TopB P m) : TopB (Q ++ P) m := by
  intro y r e
  cases Q with
  | nil => exact h y r e
  | cons z Z =>
    have e' : z :: (Z ++ P) = y :: r := e
    have : z = y := by cases e'; rfl
    rw [← this]; exact hQ z List.mem_cons_self
theorem isc_top {P : List En} (h : TopB P 4) : isc P = false := by
  cases P with
  | nil => rfl
  | cons y r =>
    have := bnd_lt4 (h y r rfl)
    show (if 20 ≤ y.1 ∧ y.1 ≤ 24 then isc r else decide (25 ≤ y.1 ∧ y.1 ≤ 27)) = false
    rw [if_neg (by omega)]
    exact decide_eq_false (by omega)
theorem cmp_rng {c : Int} (h : cmpOp c ≠ -1) : 7 ≤ cmpOp c ∧ cmpOp c ≤ 9 := by
  unfold cmpOp at h ⊢
  by_cases e1 : c = 60
  · rw [if_pos e1]; omega
  by_cases e2 : c = 62
  · rw [if_neg e1, if_pos e2]; omega
  by_cases e3 : c = 61
  · rw [if_neg e1, if_neg e2, if_pos e3]; omega
  rw [if_neg e1, if_neg e2, if_neg e3] at h
  exact absurd rfl h
theorem ref_cmp {X : zX} {d : Nat} (hd : 6 < d) {b : Int → Int} {n : Int} {T : Nat} (hT : RTape b n T) {ord dp : Int} {Sm : Rdr} (hS : RdS X d b n T ord 1 dp Sm) {S : zS} {t : Nat} {p : Nat × Int} {P : List En} {k : Int} (h : RX S b n T t ord p P dp k) (hK : KW S) (hP : TopB P 4) (hi : inn P = -1 ∨ inn P = 31) (q1 : tc b n t ≠ 267) (q2 : tc b n t ≠ 40) : match pCmp (tc b n) Sm p t with
  | .inl e => ∃ S' : zS, hd6 X d 1 0 S = some (none, mk S') ∧ RBad S' (tpos b n e) ∧ FrE S S'
  | .inr (e, p1, t1) => ∃ (S' : zS) (Q : List En) (k1 : Int) (m : Nat), hd6 X d 1 0 S = hd6 X d 1 2 S' ∧ RX S' b n T t1 ord p1 (Q ++ P) dp k1 ∧ Pend ord (IM ord S') k k1 Q m e ∧ p.1 + m ≤ p1.1 ∧ (∀ i, i < k → IM ord S' i = IM ord S i) ∧ t < t1 ∧ FrE S S' ∧ (∀ y ∈ Q, 20 ≤ y.1 ∧ y.1 ≤ 27) ∧ k ≤ k1 := by
  rw [hd6_01 hd hT hK h q1 q2]
  have ep : pCmp (tc b n) Sm p t = (match Sm p t with
    | .inl e => .inl e
    | .inr (l, p1, t1) => if cmpOp (tc b n t1) = -1 then .inl t1 else match Sm p1 (t1 + 1) with
      | .inl e => .inl e
      | .inr (r, p2, t2) => .inr (eB (cmpOp (tc b n t1)) l r, p2, t2)) := rfl
  rw [ep]
  have hs := hS S t p P k h hK (hP.mono (by omega))
  cases hr : Sm p t with
  | inl e => rw [hr] at hs; exact hs
  | inr x =>
    obtain ⟨l, p1, t1⟩ := x
    rw [hr] at hs
    obtain ⟨S1, Ql, k1, m1, a1, a2, a3, a4, a5, a6, a7, a8, a9, a10⟩ := hs
    have g19 := a2.1.2.2.2
    have ei : inn (Ql ++ P) = -1 ∨ inn (Ql ++ P) = 31 := by rw [inn_app (fun y hy => by have := a8 y hy; omega)]; exact hi
    have ec : isc (Ql ++ P) = false := by rw [isc_app a8]; exact isc_top hP
    show match (if cmpOp (tc b n t1) = -1 then (.inl t1 : pE) else match Sm p1 (t1 + 1) with
      | .inl e => .inl e
      | .inr (r, p2, t2) => .inr (eB (cmpOp (tc b n t1)) l r, p2, t2)) with
      | .inl e => _
      | .inr (e, p1, t1) => _
    by_cases q : cmpOp (tc b n t1) = -1
    · rw [if_pos q]
      obtain ⟨S3, c1, c2, c3⟩ := hd6_bad (X := X) (d := d) (by omega) (ts := 1) (tn := 1) (a2.bad hT).1
      exact ⟨S3, by rw [a1, hd6_3 g19 (fun {cm cp L st} => z194g hd hT a2 a9 q ei ec)]; exact c1, c2, (a7.tr (a2.bad hT).2).tr c3⟩
    · rw [if_neg q]
      have hcr := cmp_rng q
      obtain ⟨S2, b1, b2, b3, b4⟩ := z194f (X := X) (d := d) hd hT a2 rfl hcr ei ec a8 (hP.mono (by omega))
      generalize hop : cmpOp (tc b n t1) = op at *
      have hseg := a3.1
      rw [← b3] at hseg
      have low := stl_low (ord := ord) (a := k) (k := k1) (I := IM ord S1) a8 a10
      have hk2 := hseg.1
      generalize (stl ord Ql (IM ord S1, k1)).2 = k2 at *
      have hs2 := hS S2 (t1 + 1) p1 ((op + 18, 0) :: P) k2 b2 ((hK.e a7).e b4) (fun y r e => by cases e; show bnd (op + 18) < 5; rw [bnd_4 (by omega)]; omega)
      rw [a1, hd6_3 g19 b1]
      cases hr2 : Sm p1 (t1 + 1) with
      | inl e =>
        rw [hr2] at hs2
        obtain ⟨S3, c1, c2, c3⟩ := hs2
        exact ⟨S3, c1, c2, (a7.tr b4).tr c3⟩
      | inr x =>
        obtain ⟨r, p2, t2⟩ := x
        rw [hr2] at hs2
        obtain ⟨S3, Qr, k3, m3, c1, c2, c3, c4, c5, c6, c7, c8, c9, c10⟩ := hs2
        have g19' := c2.1.2.2.2
        have ei2 : inn (Qr ++ (op + 18, 0) :: P) = -1 ∨ inn (Qr ++ (op + 18, 0) :: P) = 31 := by
          rw [inn_app (fun y hy => by have := c8 y hy; omega)]
          show (if 31 ≤ op + 18 then op + 18 else inn P) = -1 ∨ (if 31 ≤ op + 18 then op + 18 else inn P) = 31
          rw [if_neg (by omega)]; exact hi
        have ec2 : isc (Qr ++ (op + 18, 0) :: P) = true := by
          rw [isc_app c8]
          show (if 20 ≤ op + 18 ∧ op + 18 ≤ 24 then isc P else decide (25 ≤ op + 18 ∧ op + 18 ≤ 27)) = true
          rw [if_neg (by omega)]
          exact decide_eq_true (by omega)
        have e1 : op + 18 - 18 = op := by omega
        have hp := Pend.bin (op := op + 18) (ar := 0) (hseg.cg (I' := IM ord S3) (fun i _ q => c5 i q)) c3 (by omega) c10
        rw [e1] at hp
        refine ⟨S3, Qr ++ [(op + 18, 0)], k3, m1 + m3, by rw [c1, hd6_3 g19' (fun {cm cp L st} => z194e hd hT c2 c9 ei2 ec2)], by rw [List.append_assoc]; exact c2, hp, by omega, fun i hi => ?_, by omega, (a7.tr b4).tr c7, fun y hy => ?_, by omega⟩
        · rw [c5 i (by omega), b3, low i hi, a5 i hi]
        · rcases List.mem_append.mp hy with w | w
          · have := c8 y w; omega
          · simp only [List.mem_cons, List.not_mem_nil, or_false] at w
            have : y.1 = op + 18 := by rw [w]
            omega
/-- a plain test -/
theorem ref_plain {X : zX} {d : Nat} (hd : 6 < d) {b : Int → Int} {n : Int} {T : Nat} (hT : RTape b n T) {ord dp : Int} {Sm : Rdr} (hS : RdS X d b n T ord 1 dp Sm) {M : Option Rdr} (hM : match M with
  | none => dp = 8 ∧ ∀ p t, tc b n t = 40 → Sm p t = .inl t
  | some f => dp < 8 ∧ RdT X d b n T ord (dp + 1) f) : RdC X d b n T ord dp (pPlain (tc b n) Sm M) := by
  intro S t p P k h hK hP hi hn
  have h19 := h.1.2.2.2
  cases M with
  | none =>
    obtain ⟨h8, h40⟩ := hM
    subst h8
    show match pCmp (tc b n) Sm p t with
      | .inl e => _
      | .inr (e, p1, t1) => _
    by_cases q : tc b n t = 40
    · have : pCmp (tc b n) Sm p t = .inl t := by unfold pCmp; rw [h40 p t q]
      rw [this]
      obtain ⟨S2, b1, b2, b3⟩ := hd6_bad (X := X) (d := d) (by omega) (ts := 1) (tn := 0) (h.bad hT).1
      exact ⟨S2, by rw [hd6_0 h19 (fun {cm cp L st} => y193p hd hT h q)]; exact b1, b2, (h.bad hT).2.tr b3⟩
    · exact ref_cmp hd hT hS h hK hP hi hn q
  | some f =>
    obtain ⟨hdp, hf⟩ := hM
    have ep : pPlain (tc b n) Sm (some f) p t = (if tc b n t = 40 then (match f p (t + 1) with
      | .inl e => .inl e
      | .inr (e, p1, t1) => if tc b n t1 = 41 then .inr (e, p1, t1 + 1) else .inl t1) else pCmp (tc b n) Sm p t) := rfl
    rw [ep]
    by_cases q : tc b n t = 40
    · rw [if_pos q]
      obtain ⟨S1, a1, a2, a3, a4⟩ := z193p (X := X) (d := d) hd hT h q hdp
      have := hf S1 (t + 1) p ((31, 0) :: P) k a2 (hK.e a4) (fun y r w => by cases w; show (0 : Int) < 1; decide) (Or.inr rfl)
      rw [hd6_0 h19 a1]
      cases hr : f p (t + 1) with
      | inl e =>
        rw [hr] at this
        obtain ⟨S2, b1, b2, b3⟩ := this
        exact ⟨S2, b1, b2, a4.tr b3⟩
      | inr x =>
        obtain ⟨e, p1, t1⟩ := x
        rw [hr] at this
        obtain ⟨S2, Q, k1, m, b1, b2, b3, b4, b5, b6, b7, b8, b9, b9', b10⟩ := this
        have g19 := b2.1.2.2.2
        have hdp2 := h.2.2.2.2.2
        show match (if tc b n t1 = 41 then (.inr (e, p1, t1 + 1) : pE) else .inl t1) with
          | .inl e => _
          | .inr (e, p1, t1) => _
        by_cases q1 : tc b n t1 = 41
        · rw [if_pos q1]
          obtain ⟨S3, c1, c2, c3, c4⟩ := z195p (X := X) (d := d) hd hT b2 q1 b8 (by omega)
          have ed : dp + 1 - 1 = dp := by omega
          rw [ed] at c2
          have hl := stl_lo (ord := ord) (m := k) Q (IM ord S2) k1 b10 (fun y hy w => ((b3.2 y hy).2 w).1)
          refine ⟨S3, [], _, m, by rw [b1, hd6_2 g19 c1], c2, Pend.nil (by rw [c3]; exact b3.1), b4, fun i hi => ?_, by omega, (a4.tr b7).tr c4, (fun _ w => by cases w), by omega⟩
          rw [c3, hl.1 i hi, b5 i hi, a3]
        · rw [if_neg q1]
          have ei : inn (Q ++ (31, 0) :: P) = 31 := by rw [inn_app (fun y hy => by have := b8 y hy; omega)]; rfl
          obtain ⟨S3, c1, c2, c3⟩ := hd6_bad (X := X) (d := d) (by omega) (ts := 1) (tn := 2) (b2.bad hT).1
          exact ⟨S3, by rw [b1, hd6_2 g19 (fun {cm cp L st} => z195q hd hT b2 b9 b9' q1 ei)]; exact c1, c2, ((a4.tr b7).tr (b2.bad hT).2).tr c3⟩
    · rw [if_neg q]
      exact ref_cmp hd hT hS h hK hP hi hn q
/-- nots -/
theorem ref_nots {X : zX} {d : Nat} (hd : 6 < d) {b : Int → Int} {n : Int} {T : Nat} (hT : RTape b n T) {ord dp k : Int} {p : Nat × Int} : ∀ (m : Nat) (S : zS) (t : Nat) (P : List En), RX S b n T t ord p P dp k → T < t + m → ∃ (S' : zS) (N : List En), hd6 X d 1 0 S = hd6 X d 1 0 S' ∧ RX S' b n T (pNots (tc b n) m t).2 ord p (N ++ P) dp k ∧ IM ord S' = IM ord S ∧ FrE S S' ∧ tc b n (pNots (tc b n) m t).2 ≠ 267 ∧ t ≤ (pNots (tc b n) m t).2 ∧ (∀ y ∈ N, y.1 = 28) ∧ (∀ (I : Ins) (k1 : Int) (Q : List En) (c : Nat) (e : Ev), Pend ord I k k1 Q c e → Pend ord I k k1 (Q ++ N) c (trn (pNots (tc b n) m t).1 e)) := by
  intro m
  induction m with
  | zero => intro S t P h hm; have := h.2.1.1; omega
  | succ m ih =>
    intro S t P h hm
    have en : pNots (tc b n) (m + 1) t = (if tc b n t = 267 then (!(pNots (tc b n) m (t + 1)).1, (pNots (tc b n) m (t + 1)).2) else (false, t)) := rfl
    rw [en]
    by_cases q : tc b n t = 267
    · rw [if_pos q]
      obtain ⟨S1, a1, a2, a3, a4⟩ := z193n (X := X) (d := d) hd hT h q
      obtain ⟨S2, N, b1, b2, b3, b4, b5, b6, b7, b8⟩ := ih S1 (t + 1) ((28, 0) :: P) a2 (by omega)
      refine ⟨S2, N ++ [(28, 0)], by rw [hd6_0 h.1.2.2.2 a1, b1], by rw [List.append_assoc]; exact b2, b3.trans a3, a4.tr b4, b5, by show t ≤ (pNots (tc b n) m (t + 1)).2; omega, fun y hy => ?_, fun I k1 Q c e hp => ?_⟩
      · rcases List.mem_append.mp hy with w | w
        · exact b7 y w
        · simp only [List.mem_cons, List.not_mem_nil, or_false] at w; rw [w]
      · have := Pend.not (ar := 0) (b8 I k1 Q c e hp)
        rw [List.append_assoc] at this
        have et : trn (!(pNots (tc b n) m (t + 1)).1) e = eN (trn (pNots (tc b n) m (t + 1)).1 e) := by
          cases (pNots (tc b n) m (t + 1)).1 with
          | true => show e = eN (eN e); rw [eN_N]
          | false => rfl
        show Pend ord I k k1 (Q ++ (N ++ [(28, 0)])) c (trn (!(pNots (tc b n) m (t + 1)).1) e)
        rw [et]; exact this
    · rw [if_neg q]
      exact ⟨S, [], rfl, h, rfl, FrE.rf, q, Nat.le_refl _, (fun _ w => by cases w), fun I k1 Q c e hp => by rw [List.append_nil]; exact hp⟩
