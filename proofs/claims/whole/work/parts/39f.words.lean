/-! words: the class's codes and the reference's numbers -/
def W28 : List (List Nat) := [[108, 111, 110, 103], [115, 104, 111, 114, 116], [97, 110, 121], [99, 117, 116], [111, 114], [116, 105, 109, 101, 115], [99, 111, 115, 116, 115], [97, 108, 108, 111, 119, 115], [98, 97, 114, 115], [105, 102], [97, 110, 100], [110, 111, 116], [112, 108, 97, 99, 101], [119, 101, 105, 103, 104, 116], [97, 115], [101, 110, 100, 115], [109, 101, 101, 116, 115], [99, 111, 117, 110, 116], [100, 97, 121], [109, 111, 111, 100], [119, 101, 105, 103, 104], [116, 111], [101, 110, 100], [109, 101, 101, 116], [112, 97, 115, 115], [100, 111, 110, 101], [108, 97, 116, 101, 115, 116], [115, 99, 97, 110, 115]]
def E28 : List Int := [409031, 20201044, 1497, 3764, 498, 21279923, 3657363, 46546675, 67155, 294, 1476, 14836, 17171557, 777297172, 51, 178323, 13801107, 3659220, 4153, 441828, 24290536, 655, 5572, 431284, 525939, 146885, 404362868, 20022739]
theorem z_words_28 : z_words = (W28.map (fun u => u ++ [32])).flatten := by decide +kernel
/-- a word lies there -/
def Mat (b : Int → Int) : Int → List Nat → Prop
  | _, [] => True
  | i, c :: r => b i = (c : Int) ∧ Mat b (i + 1) r
theorem wl_word {b : Int → Int} {i e : Int} : ∀ (u : List Nat) (r : List Nat) (c nx al : Int), (∀ x ∈ u, (x : Int) ≠ 32) → (al = 0 ∨ al = 1) → (al = 1 ∧ nx + u.length = e ∧ Mat b nx u → wl b i e (u ++ 32 :: r) c nx al = c) ∧ (¬ (al = 1 ∧ nx + u.length = e ∧ Mat b nx u) → wl b i e (u ++ 32 :: r) c nx al = wl b i e r (c + 1) i 1) := by
  intro u
  induction u with
  | nil =>
    intro r c nx al h ha
    have e0 : wl b i e ([] ++ 32 :: r) c nx al = if al ≠ 0 ∧ nx = e then c else wl b i e r (c + 1) i 1 := by
      show wl b i e (32 :: r) c nx al = _
      rw [wl, if_neg (show ¬ (((32 : Nat) : Int) ≠ 32) from fun h => h rfl)]
    rw [e0]
    simp only [List.length_nil, Int.natCast_zero, Int.ofNat_zero, Int.add_zero, Mat, and_true]
    constructor
    · intro ⟨h1, h2⟩; rw [if_pos ⟨by omega, by simpa using h2⟩]
    · intro h; rw [if_neg]; rintro ⟨h1, h2⟩; exact h ⟨by omega, by simpa using h2⟩
  | cons x u ih =>
    intro r c nx al h ha
    have hx := h x List.mem_cons_self
    have e0 : wl b i e ((x :: u) ++ 32 :: r) c nx al = wl b i e (u ++ 32 :: r) c (nx + 1) (b01 (al ≠ 0 ∧ nx < e ∧ b nx = (x : Int))) := by
      show wl b i e (x :: (u ++ 32 :: r)) c nx al = _
      rw [wl, if_pos hx]
    rw [e0]
    have := ih r c (nx + 1) (b01 (al ≠ 0 ∧ nx < e ∧ b nx = (x : Int))) (fun y hy => h y (List.mem_cons_of_mem _ hy)) (b01_rng _)
    have hb1 : (b01 (al ≠ 0 ∧ nx < e ∧ b nx = (x : Int)) = 1) ↔ (al ≠ 0 ∧ nx < e ∧ b nx = (x : Int)) := by
      unfold b01; split
      · next q => exact ⟨fun _ => q, fun _ => rfl⟩
      · next q => exact ⟨fun h => by omega, fun h => absurd h q⟩
    constructor
    · rintro ⟨h1, h2, h3, h4⟩
      simp only [List.length_cons, Int.natCast_add] at h2
      exact this.1 ⟨hb1.mpr ⟨by omega, by omega, h3⟩, by omega, h4⟩
    · intro hn
      refine this.2 ?_
      rintro ⟨h1, h2, h3⟩
      obtain ⟨w1, w2, w3⟩ := hb1.mp h1
      exact hn ⟨by omega, by simp only [List.length_cons, Int.natCast_add]; omega, w3, h3⟩
def findW (ok : List Nat → Prop) : List (List Nat) → Int → Int → Prop
  | [], _, v => v = 284
  | u :: r, c, v => (ok u ∧ v = c) ∨ (¬ ok u ∧ findW ok r (c + 1) v)
theorem wl_all {b : Int → Int} {i e : Int} : ∀ (ws : List (List Nat)) (c : Int), (∀ u ∈ ws, ∀ x ∈ u, (x : Int) ≠ 32) → findW (fun u => i + u.length = e ∧ Mat b i u) ws c (wl b i e ((ws.map (fun u => u ++ [32])).flatten) c i 1) := by
  intro ws
  induction ws with
  | nil => intro c _; rfl
  | cons u r ih =>
    intro c h
    have e0 : ((u :: r).map (fun u => u ++ [32])).flatten = u ++ 32 :: (r.map (fun u => u ++ [32])).flatten := by simp
    rw [e0]
    have := wl_word (b := b) (i := i) (e := e) u ((r.map (fun u => u ++ [32])).flatten) c i 1 (h u List.mem_cons_self) (Or.inr rfl)
    by_cases q : i + u.length = e ∧ Mat b i u
    · exact Or.inl ⟨q, this.1 ⟨rfl, q⟩⟩
    · refine Or.inr ⟨q, ?_⟩
      rw [this.2 (fun h => q h.2)]
      exact ih (c + 1) (fun v hv => h v (List.mem_cons_of_mem _ hv))
/-- the number of the first m letters -/
def vb (b : Int → Int) (i : Int) : Nat → Int
  | 0 => 0
  | m + 1 => vb b i m * 32 + (b (i + m) - 96)
theorem wv_vb {b : Int → Int} {s : Int} : ∀ (m k : Nat), k ≤ 10 → wv b s m (s + k) (vb b s k) = if k + m ≤ 10 then vb b s (k + m) else -1 := by
  intro m
  induction m with
  | zero => intro k hk; rw [if_pos (by omega)]; rfl
  | succ m ih =>
    intro k hk
    show wv b s m (s + k + 1) (if s + k - s < 10 then vb b s k * 32 + b (s + k) - 96 else -1) = _
    by_cases q : k < 10
    · rw [if_pos (by omega)]
      have := ih (k + 1) (by omega)
      rw [show vb b s (k + 1) = vb b s k * 32 + b (s + k) - 96 from by show vb b s k * 32 + (b (s + k) - 96) = _; omega] at this
      rw [show s + (k : Int) + 1 = s + ((k + 1 : Nat) : Int) by omega, this, show k + 1 + m = k + (m + 1) by omega]
    · rw [if_neg (by omega), if_neg (by omega)]
      have : ∀ (m : Nat) (j : Int), 10 ≤ j - s → wv b s m j (-1) = -1 := by
        intro m
        induction m with
        | zero => intro j _; rfl
        | succ m ih => intro j hj; show wv b s m (j + 1) (if j - s < 10 then _ else -1) = -1; rw [if_neg (by omega)]; exact ih (j + 1) (by omega)
      exact this m _ (by omega)
/-- a word's own number -/
def vu (u : List Nat) : Int := u.foldl (fun (v : Int) (x : Nat) => v * 32 + ((x : Int) - 96)) 0
theorem vu_snoc (u : List Nat) (x : Nat) : vu (u ++ [x]) = vu u * 32 + ((x : Int) - 96) := by unfold vu; rw [List.foldl_append]; rfl
theorem Mat_snoc {b : Int → Int} : ∀ (u : List Nat) (x : Nat) (i : Int), Mat b i (u ++ [x]) ↔ Mat b i u ∧ b (i + u.length) = (x : Int) := by
  intro u
  induction u with
  | nil => intro x i; simp [Mat]
  | cons y u ih =>
    intro x i
    show (b i = (y : Int) ∧ Mat b (i + 1) (u ++ [x])) ↔ (b i = (y : Int) ∧ Mat b (i + 1) u) ∧ _
    rw [ih]
    simp only [List.length_cons, Int.natCast_add, Int.add_assoc, and_assoc]
    rw [show (i + (1 + (u.length : Int))) = (i + ((u.length : Int) + ((1 : Nat) : Int))) by omega]
theorem vb_mat {b : Int → Int} {i : Int} : ∀ (m : Nat) (ur : List Nat), (∀ j : Int, i ≤ j → j < i + m → 97 ≤ b j ∧ b j ≤ 122) → (∀ x ∈ ur, 97 ≤ x ∧ x ≤ 122) → (vb b i m = vu ur.reverse ↔ ur.length = m ∧ Mat b i ur.reverse) := by
  intro m
  induction m with
  | zero =>
    intro ur hl hu
    cases ur with
    | nil => simp [vb, vu, Mat]
    | cons x r =>
      have hx := hu x List.mem_cons_self
      have hpos : ∀ r : List Nat, (∀ x ∈ r, 97 ≤ x ∧ x ≤ 122) → 0 ≤ vu r.reverse := by
        intro r
        induction r with
        | nil => intro _; exact Int.le_refl _
        | cons y r ih => intro h; rw [List.reverse_cons, vu_snoc]; have := ih (fun z hz => h z (List.mem_cons_of_mem _ hz)); have := h y List.mem_cons_self; omega
      have := hpos r (fun z hz => hu z (List.mem_cons_of_mem _ hz))
      rw [List.reverse_cons, vu_snoc]
      constructor
      · intro h; simp only [vb] at h; omega
      · rintro ⟨h, -⟩; cases h
  | succ m ih =>
    intro ur hl hu
    have hpb : ∀ m : Nat, (∀ j : Int, i ≤ j → j < i + m → 97 ≤ b j ∧ b j ≤ 122) → 0 ≤ vb b i m := by
      intro m
      induction m with
      | zero => intro _; exact Int.le_refl _
      | succ m ih => intro h; have h1 := ih (fun j a1 a2 => h j a1 (by omega)); have h2 := h (i + m) (by omega) (by omega); show 0 ≤ vb b i m * 32 + (b (i + m) - 96); omega
    have hbm := hl (i + m) (by omega) (by omega)
    have h0 := hpb m (fun j a1 a2 => hl j a1 (by omega))
    cases ur with
    | nil =>
      constructor
      · intro h; simp only [vb, List.reverse_nil, vu, List.foldl_nil] at h; omega
      · rintro ⟨h, -⟩; cases h
    | cons x r =>
      have hx := hu x List.mem_cons_self
      have := ih r (fun j a1 a2 => hl j a1 (by omega)) (fun z hz => hu z (List.mem_cons_of_mem _ hz))
      rw [List.reverse_cons, vu_snoc, Mat_snoc, List.length_reverse, List.length_cons]
      show vb b i m * 32 + (b (i + m) - 96) = _ ↔ _
      constructor
      · intro h
        have hq : vb b i m = vu r.reverse := by omega
        obtain ⟨w1, w2⟩ := this.mp hq
        exact ⟨by omega, w2, by rw [w1]; omega⟩
      · rintro ⟨w1, w2, w3⟩
        have hr : r.length = m := by omega
        have hq := this.mpr ⟨hr, w2⟩
        rw [hr] at w3
        omega
/-- by its number -/
def findE (w : Int) : List Int → Int → Int
  | [], _ => 284
  | x :: r, c => if w = x then c else findE w r (c + 1)
theorem findW_E {w : Int} {ok : List Nat → Prop} : ∀ (ws : List (List Nat)) (c v : Int), (∀ u ∈ ws, (ok u ↔ w = vu u)) → findW ok ws c v → v = findE w (ws.map vu) c := by
  intro ws
  induction ws with
  | nil => intro c v _ h; exact h
  | cons u r ih =>
    intro c v h hf
    have hu := h u List.mem_cons_self
    show v = if w = vu u then c else _
    rcases hf with ⟨h1, h2⟩ | ⟨h1, h2⟩
    · rw [if_pos (hu.mp h1)]; exact h2
    · rw [if_neg (fun q => h1 (hu.mpr q))]; exact ih (c + 1) v (fun z hz => h z (List.mem_cons_of_mem _ hz)) h2
theorem W28_E : W28.map vu = E28 := by decide +kernel
theorem W28_l : ∀ u ∈ W28, u.length ≤ 7 ∧ (∀ x ∈ u, 97 ≤ x ∧ x ≤ 122) := by decide +kernel
theorem E28_p : ∀ x ∈ E28, 0 < x := by decide +kernel
theorem tcode_word {b : Int → Int} {n p : Int} (hp : p < n) (hl : isL (b p)) : tcode b n p = findE (tworth b n p) E28 256 := by
  have htE : tE b n p = run isL b n p := by unfold tE; rw [if_pos hl]; exact (run_t (p := isL) hp hl).symm
  have hE := tE_rng (b := b) hp
  have hall : ∀ j, p ≤ j → j < tE b n p → 97 ≤ b j ∧ b j ≤ 122 := fun j h1 h2 => run_all (p := isL) (b := b) (n := n) _ p rfl j h1 (by rw [← htE]; exact h2)
  have hw : tworth b n p = if (tE b n p - p).toNat ≤ 10 then vb b p (tE b n p - p).toNat else -1 := by
    unfold tworth
    rw [if_neg (by omega), if_pos hl]
    have := wv_vb (b := b) (s := p) (tE b n p - p).toNat 0 (by omega)
    rw [Nat.zero_add] at this
    rw [← this]
    show wv b p _ p 0 = wv b p _ (p + ((0 : Nat) : Int)) 0
    rw [show p + ((0 : Nat) : Int) = p by omega]
  unfold tcode
  rw [if_pos hl, ← W28_E]
  refine findW_E W28 256 _ (fun u hu => ?_) (by rw [z_words_28]; exact wl_all (e := tE b n p) W28 256 (fun u hu x hx => by have := (W28_l u hu).2 x hx; omega))
  obtain ⟨h1, h2⟩ := W28_l u hu
  rw [hw]
  have key := vb_mat (b := b) (i := p) (tE b n p - p).toNat u.reverse (fun j a1 a2 => hall j a1 (by omega)) (fun x hx => h2 x (List.mem_reverse.mp hx))
  rw [List.reverse_reverse, List.length_reverse] at key
  by_cases q : (tE b n p - p).toNat ≤ 10
  · rw [if_pos q, key]
    constructor
    · rintro ⟨w1, w2⟩; exact ⟨by omega, w2⟩
    · rintro ⟨w1, w2⟩; exact ⟨by omega, w2⟩
  · rw [if_neg q]
    constructor
    · rintro ⟨w1, w2⟩; omega
    · intro w
      have : vu u ∈ E28 := by rw [← W28_E]; exact List.mem_map_of_mem hu
      have := E28_p _ this
      omega
