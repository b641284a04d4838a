/-! the reference: behind a sum, no sign more -/
theorem inn_app {R : List En} : ∀ {Q : List En}, (∀ y ∈ Q, y.1 < 31) → inn (Q ++ R) = inn R := by
  intro Q
  induction Q with
  | nil => intro _; rfl
  | cons y Q ih =>
    intro h
    show (if 31 ≤ y.1 then y.1 else inn (Q ++ R)) = _
    rw [if_neg (by have := h y List.mem_cons_self; omega), ih (fun z hz => h z (List.mem_cons_of_mem _ hz))]
theorem isc_app {R : List En} : ∀ {Q : List En}, (∀ y ∈ Q, 20 ≤ y.1 ∧ y.1 ≤ 24) → isc (Q ++ R) = isc R := by
  intro Q
  induction Q with
  | nil => intro _; rfl
  | cons y Q ih =>
    intro h
    show (if 20 ≤ y.1 ∧ y.1 ≤ 24 then isc (Q ++ R) else _) = _
    rw [if_pos (h y List.mem_cons_self), ih (fun z hz => h z (List.mem_cons_of_mem _ hz))]
theorem RX.k186 {X : zX} {d : Nat} (hd : 1 ≤ d) {S : zS} {b : Int → Int} {n : Int} {T t : Nat} {ord dp k : Int} {p : Nat × Int} {P : List En} (h : RX S b n T t ord p P dp k) (hT : RTape b n T) {cm cp : Nat} {L : zL} {s : List Value} : z_evc X d 186 [.ref 72] (cm, cp, L, s, mk S) = z_ev X d (cm, cp, L, .int (Int32.ofInt (inn P)) :: s, mk S) := by
  have h1 := h.2.1.1
  have h2 := hT.2.2
  obtain ⟨r1, r2, r3, r4, r5, r6⟩ := h.2.2.2.2.1
  exact z186 hd r1 (by omega) r2
theorem RX.k187 {X : zX} {d : Nat} (hd : 2 ≤ d) {S : zS} {b : Int → Int} {n : Int} {T t : Nat} {ord dp k : Int} {p : Nat × Int} {P : List En} (h : RX S b n T t ord p P dp k) (hT : RTape b n T) {cm cp : Nat} {L : zL} {s : List Value} : z_evc X d 187 [.ref 72] (cm, cp, L, s, mk S) = z_ev X d (cm, cp, L, .int (Int32.ofInt (bI (isc P))) :: s, mk S) := by
  have h1 := h.2.1.1
  have h2 := hT.2.2
  obtain ⟨r1, r2, r3, r4, r5, r6⟩ := h.2.2.2.2.1
  exact z187 hd r1 (by omega) r2
/-- a bracket popped -/
theorem RX.pop {S : zS} {b : Int → Int} {n : Int} {T t : Nat} {ord dp k : Int} {p : Nat × Int} {y : En} {P : List En} (h : RX S b n T t ord p (y :: P) dp k) (hd : 1 ≤ dp) (hT : T ≤ 400) : RX (sI (sI S 72 29 P.length) 72 30 (dp - 1)) b n T t ord p P (dp - 1) k := by
  obtain ⟨a1, a2, a3, a4, ⟨r1, r2, r3, r4, r5, r6⟩, a6⟩ := h
  have hec := emi_cons y P
  rw [List.length_cons] at r6
  have e : ∀ (a : Nat) (i : Int), ¬ (a = 72 ∧ (i = 29 ∨ i = 30)) → gI (sI (sI S 72 29 P.length) 72 30 (dp - 1)) a i = gI S a i := fun a i q => by rw [gI_sI, if_neg (by omega), gI_sI, if_neg (by omega)]
  refine ⟨a1.fr (fun i q => e _ _ (by omega)) (fun i => e _ _ (by omega)) rfl, ⟨a2.1, by rw [e _ _ (by omega)]; exact a2.2⟩, ⟨by rw [e _ _ (by omega)]; exact a3.1, a3.2⟩, ⟨by rw [e _ _ (by omega)]; exact a4.1, a4.2⟩, ⟨?_, r2.2.2.2.2.fr (Int.le_refl _) (fun i _ _ => ⟨e _ _ (by omega), e _ _ (by omega)⟩) (fun i _ _ => e _ _ (by omega)), by rw [e _ _ (by omega)]; exact r3, r4, by omega, by omega⟩, ⟨?_, by omega, by omega⟩⟩
  · rw [gI_sI, if_neg (by omega), gI_sI, if_pos ⟨rfl, rfl⟩, i32_id (by omega) (by omega)]
  · rw [gI_sI, if_pos ⟨rfl, rfl⟩, i32_id (by omega) (by omega)]
