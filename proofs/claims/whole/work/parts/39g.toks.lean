/-! tokens, one by one, on both sides -/
theorem nv_dv {b : Int → Int} : ∀ (m : Nat) (i v w : Int), 0 ≤ w → (w ≤ 9999 ∧ v = w ∨ 9999 < w ∧ v = 9999) → (∀ j, i ≤ j → j < i + m → 48 ≤ b j ∧ b j ≤ 57) → 0 ≤ dv b m i w ∧ (dv b m i w ≤ 9999 ∧ nv b m i v = dv b m i w ∨ 9999 < dv b m i w ∧ nv b m i v = 9999) := by
  intro m
  induction m with
  | zero => intro i v w h0 h _; exact ⟨h0, h⟩
  | succ m ih =>
    intro i v w h0 h hd
    have hi := hd i (by omega) (by omega)
    simp only [nv, dv]
    refine ih (i + 1) _ _ ?_ ?_ (fun j h1 h2 => hd j (by omega) (by omega))
    · split <;> omega
    · by_cases q : w ≤ 1000000
      · rw [if_pos q]
        by_cases q2 : v * 10 + b i - 48 < 9999
        · rw [if_pos q2]; omega
        · rw [if_neg q2]; omega
      · rw [if_neg q]
        rw [if_neg (show ¬ (v * 10 + b i - 48 < 9999) by omega)]
        omega
/-- the code of the token that begins at p -/
noncomputable def tC (b : Int → Int) (n p : Int) : Int := if p = n then 301 else tcode b n p
theorem findE_rng {w : Int} : ∀ (l : List Int) (c : Int), 256 ≤ c → c + l.length ≤ 284 → 256 ≤ findE w l c ∧ findE w l c ≤ 284 := by
  intro l
  induction l with
  | nil => intro c h1 h2; simp only [findE]; omega
  | cons x r ih =>
    intro c h1 h2
    simp only [List.length_cons, Int.natCast_add] at h2
    simp only [findE]
    split
    · omega
    · exact ih (c + 1) (by omega) (by omega)
/-- a word of the list, by its place -/
theorem findE_at {w : Int} : ∀ (l : List Int) (c : Int) (k : Nat) (x : Int), l[k]? = some x → l.Nodup → c + l.length ≤ 284 → (findE w l c = c + k ↔ w = x) := by
  intro l
  induction l with
  | nil => intro c k x h; simp at h
  | cons y r ih =>
    intro c k x h hn hc
    simp only [List.length_cons, Int.natCast_add] at hc
    rw [List.nodup_cons] at hn
    simp only [findE]
    cases k with
    | zero =>
      simp only [List.getElem?_cons_zero, Option.some.injEq] at h
      subst h
      by_cases q : w = y
      · rw [if_pos q]; simp [q]
      · rw [if_neg q]
        have : ∀ (l : List Int) (c : Int), c + l.length ≤ 284 → c ≤ findE w l c := by
          intro l
          induction l with
          | nil => intro c h; simp only [findE]; simp only [List.length_nil, Int.natCast_zero, Int.ofNat_zero] at h; omega
          | cons z s ih2 =>
            intro c h
            simp only [List.length_cons, Int.natCast_add] at h
            simp only [findE]
            have := ih2 (c + 1) (by omega)
            split <;> omega
        have h2 := this r (c + 1) (by omega)
        constructor
        · intro e; omega
        · intro e; exact absurd e q
    | succ k =>
      simp only [List.getElem?_cons_succ] at h
      have hx : x ∈ r := List.mem_of_getElem? h
      have := ih (c + 1) k x h hn.2 (by omega)
      by_cases q : w = y
      · rw [if_pos q]
        constructor
        · intro e; omega
        · intro e; exact absurd hx (by rw [← e, q]; exact hn.1)
      · rw [if_neg q, ← this]
        constructor <;> intro e <;> omega
theorem E28_nd : E28.Nodup := by decide +kernel
theorem tC_cases {b : Int → Int} {n p : Int} (h : p ≤ n) (hb : 0 ≤ b p ∧ b p ≤ 255) (hp : p < n → b p ≠ 32) : (p = n ∧ tC b n p = 301 ∧ tsort b n p = 0) ∨ (p < n ∧ isL (b p) ∧ tC b n p = findE (tworth b n p) E28 256 ∧ tsort b n p = 1) ∨ (p < n ∧ ¬ isL (b p) ∧ isD (b p) ∧ tC b n p = 300 ∧ tsort b n p = 2) ∨ (p < n ∧ ¬ isL (b p) ∧ ¬ isD (b p) ∧ tC b n p = b p ∧ tsort b n p = 3 ∧ tworth b n p = b p) := by
  by_cases q : p = n
  · left; exact ⟨q, if_pos q, if_pos q⟩
  · right
    have hp2 : p < n := by omega
    have e1 : tC b n p = tcode b n p := if_neg q
    by_cases ql : isL (b p)
    · left
      exact ⟨hp2, ql, by rw [e1]; exact tcode_word hp2 ql, by unfold tsort; rw [if_neg q, if_pos ql]⟩
    · right
      by_cases qd : isD (b p)
      · left
        exact ⟨hp2, ql, qd, by rw [e1]; unfold tcode; rw [if_neg ql, if_pos qd], by unfold tsort; rw [if_neg q, if_neg ql, if_pos qd]⟩
      · right
        exact ⟨hp2, ql, qd, by rw [e1]; unfold tcode; rw [if_neg ql, if_neg qd], by unfold tsort; rw [if_neg q, if_neg ql, if_neg qd], by unfold tworth; rw [if_neg q, if_neg ql, if_neg qd]⟩
/-- a word -/
theorem tok_word {b : Int → Int} {n p : Int} (h : p ≤ n) (hb : 0 ≤ b p ∧ b p ≤ 255) (hp : p < n → b p ≠ 32) {k : Nat} {x : Int} (hx : E28[k]? = some x) : (tsort b n p = 1 ∧ tworth b n p = x) ↔ tC b n p = 256 + k := by
  have hk : k < 28 := (List.getElem?_eq_some_iff.mp hx).1
  rcases tC_cases h hb hp with ⟨h1, h2, h3⟩ | ⟨h1, h2, h3, h4⟩ | ⟨h1, h2, h3, h4, h5⟩ | ⟨h1, h2, h3, h4, h5, h6⟩
  · rw [h2, h3]; constructor
    · intro e; omega
    · intro e; omega
  · rw [h3, h4, findE_at E28 256 k x hx E28_nd (by decide)]
    constructor
    · intro e; exact e.2
    · intro e; exact ⟨rfl, e⟩
  · rw [h4, h5]; constructor
    · intro e; omega
    · intro e; omega
  · rw [h4, h5]; constructor
    · intro e; omega
    · intro e; omega
/-- a sign -/
theorem tok_sign {b : Int → Int} {n p : Int} (h : p ≤ n) (hb : 0 ≤ b p ∧ b p ≤ 255) (hp : p < n → b p ≠ 32) {c : Int} (hc : 0 ≤ c ∧ c ≤ 255) (hl : ¬ isL c) (hd : ¬ isD c) : (tsort b n p = 3 ∧ tworth b n p = c) ↔ tC b n p = c := by
  rcases tC_cases h hb hp with ⟨h1, h2, h3⟩ | ⟨h1, h2, h3, h4⟩ | ⟨h1, h2, h3, h4, h5⟩ | ⟨h1, h2, h3, h4, h5, h6⟩
  · rw [h2, h3]; constructor <;> intro e <;> omega
  · have := findE_rng (w := tworth b n p) E28 256 (by omega) (by decide)
    rw [h3, h4]; constructor <;> intro e <;> omega
  · rw [h4, h5]; constructor <;> intro e <;> omega
  · rw [h4, h5, h6]; constructor
    · intro e; exact e.2
    · intro e; exact ⟨rfl, e⟩
theorem tok_digits {b : Int → Int} {n p : Int} (h : p ≤ n) (hb : 0 ≤ b p ∧ b p ≤ 255) (hp : p < n → b p ≠ 32) : tsort b n p = 2 ↔ tC b n p = 300 := by
  rcases tC_cases h hb hp with ⟨h1, h2, h3⟩ | ⟨h1, h2, h3, h4⟩ | ⟨h1, h2, h3, h4, h5⟩ | ⟨h1, h2, h3, h4, h5, h6⟩
  · rw [h2, h3]; constructor <;> intro e <;> omega
  · have := findE_rng (w := tworth b n p) E28 256 (by omega) (by decide)
    rw [h3, h4]; constructor <;> intro e <;> omega
  · rw [h4, h5]; exact ⟨fun _ => rfl, fun _ => rfl⟩
  · rw [h4, h5]; constructor <;> intro e <;> omega
theorem tok_end {b : Int → Int} {n p : Int} (h : p ≤ n) (hb : 0 ≤ b p ∧ b p ≤ 255) (hp : p < n → b p ≠ 32) : tsort b n p = 0 ↔ tC b n p = 301 := by
  rcases tC_cases h hb hp with ⟨h1, h2, h3⟩ | ⟨h1, h2, h3, h4⟩ | ⟨h1, h2, h3, h4, h5⟩ | ⟨h1, h2, h3, h4, h5, h6⟩
  · rw [h2, h3]; exact ⟨fun _ => rfl, fun _ => rfl⟩
  · have := findE_rng (w := tworth b n p) E28 256 (by omega) (by decide)
    rw [h3, h4]; constructor <;> intro e <;> omega
  · rw [h4, h5]; constructor <;> intro e <;> omega
  · rw [h4, h5]; constructor <;> intro e <;> omega
/-- digits' numbers agree as far as it matters -/
theorem tok_val {b : Int → Int} {n p : Int} (hp : p < n) (hl : ¬ isL (b p)) (hd : isD (b p)) : 0 ≤ tworth b n p ∧ (tworth b n p ≤ 9999 ∧ tval b n p = tworth b n p ∨ 9999 < tworth b n p ∧ tval b n p = 9999) := by
  have htE : tE b n p = run isD b n p := by unfold tE; rw [if_neg hl, if_pos hd]; exact (run_t (p := isD) hp hd).symm
  have hE := tE_rng (b := b) hp
  unfold tworth tval
  rw [if_neg (by omega), if_neg hl, if_pos hd, if_neg hl, if_pos hd]
  exact nv_dv _ p 0 0 (by omega) (Or.inl ⟨by omega, rfl⟩) (fun j h1 h2 => run_all (p := isD) (b := b) (n := n) _ p rfl j h1 (by rw [← htE]; omega))
theorem tpos_rng {b : Int → Int} {n : Int} (hn : 0 ≤ n) : ∀ t : Nat, 0 ≤ tpos b n t ∧ tpos b n t ≤ n ∧ (tpos b n t < n → b (tpos b n t) ≠ 32) := by
  have hs : ∀ i, 0 ≤ i → i ≤ n → 0 ≤ skp b n i ∧ skp b n i ≤ n ∧ (skp b n i < n → b (skp b n i) ≠ 32) := by
    intro i h0 h1
    have h2 := skp_rng (b := b) h1
    refine ⟨by omega, h2.2, ?_⟩
    have key : ∀ (m : Nat) (i : Int), (n - i).toNat = m → i ≤ n → skp b n i < n → b (skp b n i) ≠ 32 := by
      intro m
      induction m with
      | zero => intro i h h1 h2; have : skp b n i = i := run_f (Or.inl (by omega)); omega
      | succ m ih =>
        intro i h h1 h2
        by_cases q : b i = 32
        · have e : skp b n i = skp b n (i + 1) := run_t (p := fun c => c = 32) (by omega) q
          rw [e] at h2 ⊢
          exact ih (i + 1) (by omega) (by omega) h2
        · have e : skp b n i = i := run_f (p := fun c => c = 32) (Or.inr q)
          rw [e]; exact q
    exact key _ i rfl h1
  intro t
  induction t with
  | zero => exact hs 0 (by omega) hn
  | succ t ih =>
    show 0 ≤ (@ite _ (tpos b n t < n) (Classical.propDecidable _) (skp b n (tE b n (tpos b n t))) n) ∧ _ ≤ n ∧ _
    show 0 ≤ (@ite _ (tpos b n t < n) (Classical.propDecidable _) (skp b n (tE b n (tpos b n t))) n) ∧ (@ite _ (tpos b n t < n) (Classical.propDecidable _) (skp b n (tE b n (tpos b n t))) n) ≤ n ∧ ((@ite _ (tpos b n t < n) (Classical.propDecidable _) (skp b n (tE b n (tpos b n t))) n) < n → b (@ite _ (tpos b n t < n) (Classical.propDecidable _) (skp b n (tE b n (tpos b n t))) n) ≠ 32)
    by_cases q : tpos b n t < n
    · rw [if_pos q]
      have := tE_rng (b := b) q
      exact hs _ (by omega) (by omega)
    · rw [if_neg q]; exact ⟨hn, Int.le_refl _, fun h => absurd h (by omega)⟩
theorem tpos_s {b : Int → Int} {n : Int} (t : Nat) (h : 0 ≤ n) : skp b n (tend b n (tpos b n t)) = tpos b n (t + 1) := by
  have hr := tpos_rng (b := b) h t
  unfold tend
  by_cases q : tpos b n t = n
  · rw [if_pos q]
    show skp b n n = @ite _ (tpos b n t < n) (Classical.propDecidable _) _ n
    rw [if_neg (by omega)]
    exact run_f (Or.inl (Int.le_refl _))
  · rw [if_neg q]
    show _ = @ite _ (tpos b n t < n) (Classical.propDecidable _) _ n
    rw [if_pos (by omega)]
