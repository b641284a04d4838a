theorem p_I1 {st : List Value} {g : Int32 → List Value → Prop} (h : z_I1 False st g) : ∃ x r, st = .int x :: r ∧ g x r := by
  unfold z_I1 at h
  split at h
  · exact ⟨_, _, rfl, h⟩
  · exact h.elim
theorem p_I2 {st : List Value} {g : Int32 → Int32 → List Value → Prop} (h : z_I2 False st g) : ∃ x y r, st = .int y :: .int x :: r ∧ g x y r := by
  unfold z_I2 at h
  split at h
  · exact ⟨_, _, _, rfl, h⟩
  · exact h.elim
theorem p_J1 {st : List Value} {g : Int64 → List Value → Prop} (h : z_J1 False st g) : ∃ x r, st = .long x :: r ∧ g x r := by
  unfold z_J1 at h
  split at h
  · exact ⟨_, _, rfl, h⟩
  · exact h.elim
theorem p_J2 {st : List Value} {g : Int64 → Int64 → List Value → Prop} (h : z_J2 False st g) : ∃ x y r, st = .long y :: .long x :: r ∧ g x y r := by
  unfold z_J2 at h
  split at h
  · exact ⟨_, _, _, rfl, h⟩
  · exact h.elim
theorem p_JI {st : List Value} {g : Int64 → Int32 → List Value → Prop} (h : z_JI False st g) : ∃ x y r, st = .int y :: .long x :: r ∧ g x y r := by
  unfold z_JI at h
  split at h
  · exact ⟨_, _, _, rfl, h⟩
  · exact h.elim
theorem p_V1 {st : List Value} {g : Value → List Value → Prop} (h : z_V1 False st g) : ∃ x r, st = x :: r ∧ g x r := by
  unfold z_V1 at h
  split at h
  · exact ⟨_, _, rfl, h⟩
  · exact h.elim
theorem p_R1 {st : List Value} {g : Nat → List Value → Prop} (h : z_R1 False st g) : ∃ x r, st = .ref x :: r ∧ g x r := by
  unfold z_R1 at h
  split at h
  · exact ⟨_, _, rfl, h⟩
  · exact h.elim
theorem p_RI {st : List Value} {g : Nat → Int32 → List Value → Prop} (h : z_RI False st g) : ∃ x y r, st = .int y :: .ref x :: r ∧ g x y r := by
  unfold z_RI at h
  split at h
  · exact ⟨_, _, _, rfl, h⟩
  · exact h.elim
theorem p_cp5 {st : List Value} {g : Int32 → Int32 → Nat → Int32 → Nat → List Value → Prop} (h : z_cp5 False st g) : ∃ n dp a sp a0 r, st = .int n :: .int dp :: .ref a :: .int sp :: .ref a0 :: r ∧ g n dp a sp a0 r := by
  unfold z_cp5 at h
  split at h
  · exact ⟨_, _, _, _, _, _, rfl, h⟩
  · exact h.elim
theorem p_nil {st : List Value} {g : Prop} (h : z_nil False st g) : st = [] ∧ g := by
  unfold z_nil at h
  split at h
  · exact ⟨rfl, h⟩
  · exact h.elim
theorem p_isI {v : Value} {g : Int32 → Prop} (h : z_isI False v g) : ∃ x, v = .int x ∧ g x := by
  unfold z_isI at h
  split at h
  · exact ⟨_, rfl, h⟩
  · exact h.elim
theorem p_isJ {v : Value} {g : Int64 → Prop} (h : z_isJ False v g) : ∃ x, v = .long x ∧ g x := by
  unfold z_isJ at h
  split at h
  · exact ⟨_, rfl, h⟩
  · exact h.elim
theorem p_isR {v : Value} {g : Nat → Prop} (h : z_isR False v g) : ∃ x, v = .ref x ∧ g x := by
  unfold z_isR at h
  split at h
  · exact ⟨_, rfl, h⟩
  · exact h.elim
theorem p_ldI {L : zL} {a : Nat} {g : Int32 → Prop} (h : z_ldI False L a g) : ∃ x, z_get L a = some (some (.int x)) ∧ g x := by
  unfold z_ldI at h
  split at h
  · next q => exact ⟨_, q, h⟩
  · exact h.elim
theorem p_ldJ {L : zL} {a : Nat} {g : Int64 → Prop} (h : z_ldJ False L a g) : ∃ x, z_get L a = some (some (.long x)) ∧ g x := by
  unfold z_ldJ at h
  split at h
  · next q => exact ⟨_, q, h⟩
  · exact h.elim
theorem p_isA {v : Value} {g : Prop} (h : z_isA False v g) : ((∃ a, v = .ref a) ∨ v = .null) ∧ g := by
  unfold z_isA at h
  split at h
  · exact ⟨Or.inl ⟨_, rfl⟩, h⟩
  · exact ⟨Or.inr rfl, h⟩
  · exact h.elim
theorem p_ldA {L : zL} {a : Nat} {g : Value → Prop} (h : z_ldA False L a g) : ∃ v, z_get L a = some (some v) ∧ ((∃ a, v = .ref a) ∨ v = .null) ∧ g v := by
  unfold z_ldA at h
  split at h
  · next q => exact ⟨_, q, p_isA h⟩
  · exact h.elim
theorem p_cat1 {v : Value} {g : Prop} (h : z_cat1 False v g) : v.category = 1 ∧ g := by
  unfold z_cat1 at h
  split at h
  · exact ⟨rfl, h⟩
  · exact ⟨rfl, h⟩
  · exact ⟨rfl, h⟩
  · exact h.elim
theorem p_nul {v : Value} {gn gr : Prop} (h : z_nul False v gn gr) : (v = .null ∧ gn) ∨ ∃ a, v = .ref a ∧ gr := by
  unfold z_nul at h
  split at h
  · exact Or.inl ⟨rfl, h⟩
  · exact Or.inr ⟨_, rfl, h⟩
  · exact h.elim
theorem p_sm {r : List Value} {g : Prop} (h : z_sm False r g) : z_catS r ≤ 8 ∧ g := by
  unfold z_sm at h
  split at h
  · next q => exact ⟨Nat.le_of_ble_eq_true q, h⟩
  · exact h.elim
theorem p_fit {a : Nat} {as : List Value} {g : Prop} (h : z_fit False a as g) : (z_ent as).length ≤ z_maxL a ∧ g := by
  unfold z_fit at h
  split at h
  · next q => exact ⟨Nat.le_of_ble_eq_true q, h⟩
  · exact h.elim
theorem p_str {a : Nat} {g : Prop} (h : z_str False a g) : a = 3 ∧ g := by
  unfold z_str at h
  split at h
  · next q => exact ⟨Nat.eq_of_beq_eq_true q, h⟩
  · exact h.elim
theorem p_bool {x : Int32} {g : Prop} (h : z_bool False x g) : (x = 0 ∨ x = 1) ∧ g := by
  unfold z_bool at h
  split at h
  · next q => exact ⟨q, h⟩
  · exact h.elim
theorem p_ald {X : zX} {M : zM} {t a : Nat} {i : Int32} {g : Int32 → Prop} (h : z_ald X False M t a i g) : (∃ q, z_stat X a = some q ∧ t = 0 ∧ z_in i q.1 ∧ g (q.2 i.toNatClampNeg)) ∨ ∃ n f, M.2.2 a = some (.inl (t, n, .inl f)) ∧ z_in i n ∧ g (f i.toNatClampNeg) := by
  unfold z_ald at h
  split at h
  · next q hq =>
    split at h
    · next hc => exact Or.inl ⟨q, hq, hc.1, hc.2, h⟩
    · exact h.elim
  · split at h
    · next hM =>
      split at h
      · next hc => obtain ⟨rfl, hc⟩ := hc; exact Or.inr ⟨_, _, hM, hc, h⟩
      · exact h.elim
    · exact h.elim
theorem p_len {X : zX} {M : zM} {a : Nat} {g : Int32 → Prop} (h : z_len X False M a g) : (∃ q, z_stat X a = some q ∧ g (Int32.ofNat q.1)) ∨ ∃ t n x, M.2.2 a = some (.inl (t, n, x)) ∧ g (Int32.ofNat n) := by
  unfold z_len at h
  split at h
  · next q hq => exact Or.inl ⟨q, hq, h⟩
  · split at h
    · next hM =>
      split at h
      · exact Or.inr ⟨_, _, _, hM, h⟩
      · exact h.elim
    · exact h.elim
theorem p_jld {M : zM} {a : Nat} {i : Int32} {g : Int64 → Prop} (h : z_jld False M a i g) : ∃ n f, M.2.2 a = some (.inl (1, n, .inr (.inl f))) ∧ z_in i n ∧ g (f i.toNatClampNeg) := by
  unfold z_jld at h
  split at h
  · next hM =>
    split at h
    · next hc => obtain ⟨rfl, hc⟩ := hc; exact ⟨_, _, hM, hc, h⟩
    · exact h.elim
  · exact h.elim
theorem p_qld {M : zM} {a : Nat} {i : Int32} {gn : Prop} {g : Nat → Prop} (h : z_qld False M a i gn g) : ∃ (t n : Nat) (f : Nat → Option Nat), M.2.2 a = some (.inl (t, n, .inr (.inr (.inr (.inr f))))) ∧ 3 ≤ t ∧ t < 6 ∧ z_in i n ∧ ((f i.toNatClampNeg = none ∧ gn) ∨ ∃ q, f i.toNatClampNeg = some q ∧ g q) := by
  unfold z_qld at h
  split at h
  · next hM =>
    split at h
    · next hc =>
      split at h
      · next hq => exact ⟨_, _, _, hM, hc.1, hc.2.1, hc.2.2, Or.inl ⟨hq, h⟩⟩
      · next hq => exact ⟨_, _, _, hM, hc.1, hc.2.1, hc.2.2, Or.inr ⟨_, hq, h⟩⟩
    · exact h.elim
  · exact h.elim
theorem p_ast {M : zM} {t a : Nat} {i x : Int32} {g : zM → Prop} (h : z_ast False M t a i x g) : ∃ n f, M.2.2 a = some (.inl (t, n, .inl f)) ∧ z_in i n ∧ (t = 2 → x = 0 ∨ x = 1) ∧ g (z_upd M a (.inl (t, n, .inl (upd f i.toNatClampNeg x)))) := by
  unfold z_ast at h
  split at h
  · next hM =>
    split at h
    · next hc => obtain ⟨rfl, hc1, hc2⟩ := hc; exact ⟨_, _, hM, hc1, hc2, h⟩
    · exact h.elim
  · exact h.elim
theorem p_jst {M : zM} {a : Nat} {i : Int32} {x : Int64} {g : zM → Prop} (h : z_jst False M a i x g) : ∃ n f, M.2.2 a = some (.inl (1, n, .inr (.inl f))) ∧ z_in i n ∧ g (z_upd M a (.inl (1, n, .inr (.inl (vp_updL f i.toNatClampNeg x))))) := by
  unfold z_jst at h
  split at h
  · next hM =>
    split at h
    · next hc => obtain ⟨rfl, hc1⟩ := hc; exact ⟨_, _, hM, hc1, h⟩
    · exact h.elim
  · exact h.elim
theorem p_qst {M : zM} {a : Nat} {i : Int32} {v : Value} {g : zM → Prop} (h : z_qst False M a i v g) : ∃ (t n : Nat) (f : Nat → Option Nat), M.2.2 a = some (.inl (t, n, .inr (.inr (.inr (.inr f))))) ∧ 3 ≤ t ∧ t < 6 ∧ z_in i n ∧ ((v = .null ∧ g (z_upd M a (.inl (t, n, .inr (.inr (.inr (.inr (va_up f i.toNatClampNeg none)))))))) ∨ ∃ q fs, v = .ref q ∧ M.2.2 q = some (.inr (z_elem t, fs)) ∧ g (z_upd M a (.inl (t, n, .inr (.inr (.inr (.inr (va_up f i.toNatClampNeg (some q))))))))) := by
  unfold z_qst at h
  split at h
  · next hM =>
    split at h
    · split at h
      · next hc => exact ⟨_, _, _, hM, hc.1, hc.2.1, hc.2.2, Or.inl ⟨rfl, h⟩⟩
      · exact h.elim
    · split at h
      · next hq =>
        split at h
        · next hc => obtain ⟨h1, h2, h3, rfl⟩ := hc; exact ⟨_, _, _, hM, h1, h2, h3, Or.inr ⟨_, _, rfl, hq, h⟩⟩
        · exact h.elim
      · exact h.elim
    · exact h.elim
  · exact h.elim
theorem p_fld {M : zM} {a ci j : Nat} {g : Value → Prop} (h : z_fld False M a ci j g) : ∃ fs v, M.2.2 a = some (.inr (ci, fs)) ∧ fs[j]? = some v ∧ g v := by
  unfold z_fld at h
  split at h
  · next hM =>
    split at h
    · next hc =>
      subst hc
      split at h
      · next hv => exact ⟨_, _, hM, hv, h⟩
      · exact h.elim
    · exact h.elim
  · exact h.elim
theorem p_getf {M : zM} {val : Value} {o a b : Nat} {g : Value → Prop} (h : z_getf False M val o a b g) : ∃ fs v, M.2.2 o = some (.inr (a, fs)) ∧ fs[b]? = some v ∧ g v := by
  unfold z_getf at h
  split at h
  · obtain ⟨fs, v, h1, h2, h3⟩ := p_fld h
    obtain ⟨x, rfl, h4⟩ := p_isJ h3
    exact ⟨fs, _, h1, h2, h4⟩
  · obtain ⟨fs, v, h1, h2, h3⟩ := p_fld h
    obtain ⟨x, rfl, h4⟩ := p_isR h3
    exact ⟨fs, _, h1, h2, h4⟩
  · obtain ⟨fs, v, h1, h2, h3⟩ := p_fld h
    obtain ⟨x, rfl, h4⟩ := p_isI h3
    exact ⟨fs, _, h1, h2, h4⟩
theorem p_fset {M : zM} {a ci j : Nat} {v : Value} {g : zM → Prop} (h : z_fset False M a ci j v g) : ∃ fs, M.2.2 a = some (.inr (ci, fs)) ∧ j < fs.length ∧ g (z_upd M a (.inr (ci, fs.set j v))) := by
  unfold z_fset at h
  split at h
  · next hM =>
    split at h
    · next hc => obtain ⟨rfl, hc⟩ := hc; exact ⟨_, hM, hc, h⟩
    · exact h.elim
  · exact h.elim
/-- a value that a field of this kind takes -/
def z_okv (val v : Value) : Prop := (val = .int 0 ∧ ∃ x, v = .int x) ∨ (val = .int 1 ∧ (v = .int 0 ∨ v = .int 1)) ∨ (val = .int 2 ∧ ∃ x, v = .long x) ∨ (val ≠ .int 0 ∧ val ≠ .int 1 ∧ val ≠ .int 2 ∧ ((∃ a, v = .ref a) ∨ v = .null))
theorem p_putf {M : zM} {val : Value} {o a b : Nat} {v : Value} {g : zM → Prop} (h : z_putf False M val o a b v g) : z_okv val v ∧ ∃ fs, M.2.2 o = some (.inr (a, fs)) ∧ b < fs.length ∧ g (z_upd M o (.inr (a, fs.set b v))) := by
  unfold z_putf at h
  split at h
  · obtain ⟨x, rfl, h⟩ := p_isI h
    exact ⟨Or.inl ⟨rfl, _, rfl⟩, p_fset h⟩
  · obtain ⟨x, rfl, h⟩ := p_isI h
    obtain ⟨hx, h⟩ := p_bool h
    exact ⟨Or.inr (Or.inl ⟨rfl, by rcases hx with rfl | rfl <;> simp⟩), p_fset h⟩
  · obtain ⟨x, rfl, h⟩ := p_isJ h
    exact ⟨Or.inr (Or.inr (Or.inl ⟨rfl, _, rfl⟩)), p_fset h⟩
  · next n0 n1 n2 =>
    obtain ⟨hv, h⟩ := p_isA h
    exact ⟨Or.inr (Or.inr (Or.inr ⟨n0, n1, n2, hv⟩)), p_fset h⟩
theorem p_obj {M : zM} {v : Value} {ci : Nat} {g : Prop} (h : z_obj False M v ci g) : ∃ a fs, v = .ref a ∧ M.2.2 a = some (.inr (ci, fs)) ∧ g := by
  unfold z_obj at h
  split at h
  · split at h
    · next hM =>
      split at h
      · next hc => subst hc; exact ⟨_, _, rfl, hM, h⟩
      · exact h.elim
    · exact h.elim
  · exact h.elim
theorem p_pop {g : List Value → List Value → Prop} : ∀ (n : Nat) (st acc : List Value), z_pop False n st acc g → ∃ as r, as.length = n ∧ st = as.reverse ++ r ∧ g (as ++ acc) r := by
  intro n
  induction n with
  | zero => intro st acc h; exact ⟨[], st, rfl, rfl, h⟩
  | succ n ih =>
    intro st acc h
    cases st with
    | nil => exact h.elim
    | cons v st =>
      obtain ⟨as, r, h1, h2, h3⟩ := ih st (v :: acc) h
      refine ⟨as ++ [v], r, by simp [h1], by simp [h2], ?_⟩
      rw [List.append_assoc]
      exact h3
theorem p_cpy {M : zM} {a0 : Nat} {sp : Int32} {a : Nat} {dp n : Int32} {g : zM → Prop} (h : z_cpy False M a0 sp a dp n g) : ∃ n0 f n1 f1, M.2.2 a0 = some (.inl (0, n0, .inl f)) ∧ M.2.2 a = some (.inl (0, n1, .inl f1)) ∧ 0 ≤ sp ∧ 0 ≤ dp ∧ 0 ≤ n ∧ sp.toNatClampNeg + n.toNatClampNeg ≤ n0 ∧ dp.toNatClampNeg + n.toNatClampNeg ≤ n1 ∧ g (z_upd M a (.inl (0, n1, .inl (va_cpy f f1 sp.toNatClampNeg dp.toNatClampNeg n.toNatClampNeg)))) := by
  unfold z_cpy at h
  split at h
  · next hM =>
    split at h
    · next hM1 =>
      split at h
      · next hc => obtain ⟨rfl, rfl, h1, h2, h3, h4, h5⟩ := hc; exact ⟨_, _, _, _, hM, hM1, h1, h2, h3, h4, h5, h⟩
      · exact h.elim
    · exact h.elim
  · exact h.elim
theorem p_cln {M : zM} {a : Nat} {g : zM → Prop} (h : z_cln False M a g) : ∃ n f, M.2.2 a = some (.inl (0, n, .inl f)) ∧ g (z_new M (.inl (0, n, .inl f))) := by
  unfold z_cln at h
  split at h
  · next hM =>
    split at h
    · next hc => subst hc; exact ⟨_, _, hM, h⟩
    · exact h.elim
  · exact h.elim
theorem p_ar0 {M : zM} {a : Nat} {g : Prop} (h : z_ar0 False M a g) : ∃ n x, M.2.2 a = some (.inl (0, n, x)) ∧ g := by
  unfold z_ar0 at h
  split at h
  · next hM =>
    split at h
    · next hc => subst hc; exact ⟨_, _, hM, h⟩
    · exact h.elim
  · exact h.elim
theorem p_ite {c : Prop} [Decidable c] {a b : Prop} (h : if c then a else b) : (c → a) ∧ (¬ c → b) := by
  split at h
  · next q => exact ⟨fun _ => h, fun n => absurd q n⟩
  · next q => exact ⟨fun n => absurd n q, fun _ => h⟩
