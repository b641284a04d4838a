/-! THE START: the state from which the calls begin -/
def zs0I (a : Nat) : Int → Int32 := match a with
  | 4 => fun j => if j = 17 then -1 else if j = 19 then -1 else 0
  | 5 => fun j => if j = 10 then -1 else 0
  | 7 => fun j => upd (upd (upd (fun _ => 0) 0 0) 1 1) 2 0 j.toNat
  | 12 => fun j => if j = 10 then -1 else 0
  | 14 => fun j => upd (upd (upd (fun _ => 0) 0 0) 1 1) 2 0 j.toNat
  | 19 => fun j => if j = 10 then -1 else 0
  | 21 => fun j => upd (upd (upd (fun _ => 0) 0 0) 1 1) 2 0 j.toNat
  | 37 => fun j => if j = 5 then -1 else 0
  | 72 => fun j => if j = 18 then -1 else if j = 67 then -1 else if j = 71 then -1 else 0
  | 74 => fun j => upd (upd (fun _ => 0) 4 (-1)) 6 1 j.toNat
  | _ => fun _ => 0
def zs0J (a : Nat) : Int → Int64 := match a with
  | 87 => fun j => (vp_updL (vp_updL (vp_updL (vp_updL (vp_updL (vp_updL (vp_updL (vp_updL (fun _ => 0) 0 17171557) 1 777297172) 2 51) 3 178323) 4 13801107) 5 3659220) 6 4153) 7 441828) j.toNat
  | 88 => fun j => (vp_updL (vp_updL (vp_updL (vp_updL (vp_updL (vp_updL (fun _ => 0) 0 4153) 1 146885) 2 404362868) 3 3659220) 4 777297172) 5 20022739) j.toNat
  | 89 => fun j => (vp_updL (vp_updL (vp_updL (fun _ => 0) 0 3657363) 1 46546675) 2 67155) j.toNat
  | 93 => fun j => (vp_updL (vp_updL (vp_updL (vp_updL (fun _ => 0) 0 409031) 1 20201044) 2 1497) 3 3764) j.toNat
  | 111 => fun j => (vp_updL (vp_updL (vp_updL (vp_updL (fun _ => 0) 0 24290536) 1 5572) 2 431284) 3 525939) j.toNat
  | _ => fun _ => 0
def zs0Q (a : Nat) (i : Int) : Option Nat := if a = 58 then (if i = 6 then some 66 else if i = 7 then some 67 else none) else none
def S0 : zS := (zs0I, zs0J, zs0Q, fun _ => none, 114, 88987)
def Ml : List va_E := [.inl (0, 63, .inl (fun _ => 0)), .inl (0, 96, .inl (fun _ => 0)), .inl (1, 4, .inr (.inl (vp_updL (vp_updL (vp_updL (vp_updL (fun _ => 0) 0 24290536) 1 5572) 2 431284) 3 525939))), .inl (1, 21, .inr (.inl (fun _ => 0))), .inl (0, 120, .inl (fun _ => 0)), .inl (2, 4221, .inl (fun _ => 0)), .inl (0, 20, .inl (fun _ => 0)), .inl (2, 201, .inl (fun _ => 0)), .inl (2, 201, .inl (fun _ => 0)), .inl (0, 4221, .inl (fun _ => 0)), .inl (0, 60, .inl (fun _ => 0)), .inl (2, 201, .inl (fun _ => 0)), .inl (2, 201, .inl (fun _ => 0)), .inl (2, 40401, .inl (fun _ => 0)), .inl (0, 201, .inl (fun _ => 0)), .inl (0, 400, .inl (fun _ => 0)), .inl (0, 900, .inl (fun _ => 0)), .inl (0, 9, .inl (fun _ => 0)), .inl (0, 9, .inl (fun _ => 0)), .inl (0, 900, .inl (fun _ => 0)), .inl (1, 4, .inr (.inl (vp_updL (vp_updL (vp_updL (vp_updL (fun _ => 0) 0 409031) 1 20201044) 2 1497) 3 3764))), .inl (1, 400, .inr (.inl (fun _ => 0))), .inl (1, 13, .inr (.inl (fun _ => 0))), .inl (1, 13, .inr (.inl (fun _ => 0))), .inl (1, 3, .inr (.inl (vp_updL (vp_updL (vp_updL (fun _ => 0) 0 3657363) 1 46546675) 2 67155))), .inl (1, 6, .inr (.inl (vp_updL (vp_updL (vp_updL (vp_updL (vp_updL (vp_updL (fun _ => 0) 0 4153) 1 146885) 2 404362868) 3 3659220) 4 777297172) 5 20022739))), .inl (1, 8, .inr (.inl (vp_updL (vp_updL (vp_updL (vp_updL (vp_updL (vp_updL (vp_updL (vp_updL (fun _ => 0) 0 17171557) 1 777297172) 2 51) 3 178323) 4 13801107) 5 3659220) 6 4153) 7 441828))), .inl (0, 400, .inl (fun _ => 0)), .inl (0, 400, .inl (fun _ => 0)), .inl (0, 400, .inl (fun _ => 0)), .inl (0, 400, .inl (fun _ => 0)), .inl (0, 96, .inl (fun _ => 0)), .inl (0, 400, .inl (fun _ => 0)), .inl (0, 16, .inl (fun _ => 0)), .inl (0, 1008, .inl (fun _ => 0)), .inl (0, 16, .inl (fun _ => 0)), .inl (0, 1134, .inl (fun _ => 0)), .inl (2, 2, .inl (fun _ => 0)), .inl (0, 15784, .inl (fun _ => 0)), .inl (0, 7892, .inl (upd (upd (fun _ => 0) 4 (-1)) 6 1)), .inl (0, 7, .inl (fun _ => 0)), .inr (11, [.int (0), .int (0), .ref 73, .ref 74, .ref 75, .ref 76, .ref 77, .ref 78, .int (0), .ref 79, .ref 80, .int (0), .ref 81, .int (0), .int (0), .int (0), .int (0), .long (0), .int (-1), .int (0), .int (0), .int (0), .ref 82, .int (0), .ref 83, .ref 84, .int (0), .ref 85, .ref 86, .int (0), .int (0), .ref 87, .ref 88, .ref 89, .int (0), .ref 90, .ref 91, .ref 92, .int (0), .long (0), .int (0), .long (0), .ref 93, .ref 94, .int (0), .ref 95, .ref 96, .int (0), .ref 97, .ref 98, .ref 99, .int (0), .ref 100, .ref 101, .ref 102, .ref 103, .ref 104, .ref 105, .ref 106, .ref 107, .ref 108, .ref 109, .ref 110, .ref 111, .ref 112, .int (0), .int (0), .int (-1), .int (0), .long (0), .ref 113, .int (-1)]), .inl (0, 5, .inl (fun _ => 0)), .inl (1, 20, .inr (.inl (fun _ => 0))), .inl (1, 6, .inr (.inl (fun _ => 0))), .inl (0, 30, .inl (fun _ => 0)), .inl (1, 400, .inr (.inl (fun _ => 0))), .inl (1, 400, .inr (.inl (fun _ => 0))), .inl (0, 400, .inl (fun _ => 0)), .inl (1, 60, .inr (.inl (fun _ => 0))), .inl (0, 60, .inl (fun _ => 0)), .inl (0, 3, .inl (fun _ => 0)), .inl (0, 8, .inl (fun _ => 0)), .inl (0, 51, .inl (fun _ => 0)), .inr (5, [.ref 60]), .inr (6, [.ref 59, .ref 61, .ref 62, .ref 63, .ref 64, .ref 65, .ref 66, .ref 67, .int (0), .int (0), .int (0)]), .inl (0, 51, .inl (fun _ => 0)), .inr (5, [.ref 57]), .inl (0, 60, .inl (fun _ => 0)), .inl (0, 436, .inl (fun _ => 0)), .inr (1, [.ref 54, .ref 55, .int (0), .int (0), .int (0)]), .inr (0, [.ref 53, .int (0), .int (0)]), .inl (0, 400, .inl (fun _ => 0)), .inl (0, 400, .inl (fun _ => 0)), .inl (0, 400, .inl (fun _ => 0)), .inl (0, 400, .inl (fun _ => 0)), .inl (0, 400, .inl (fun _ => 0)), .inl (0, 402, .inl (fun _ => 0)), .inl (0, 402, .inl (fun _ => 0)), .inl (0, 402, .inl (fun _ => 0)), .inl (0, 402, .inl (fun _ => 0)), .inl (0, 402, .inl (fun _ => 0)), .inr (4, [.ref 42, .ref 43, .ref 44, .ref 45, .ref 46, .ref 47, .ref 48, .ref 49, .ref 50, .ref 51, .int (0)]), .inl (0, 401, .inl (fun _ => 0)), .inl (0, 401, .inl (fun _ => 0)), .inl (0, 401, .inl (fun _ => 0)), .inr (9, [.ref 38, .ref 39, .ref 40, .int (0), .int (0), .int (-1)]), .inl (0, 400, .inl (fun _ => 0)), .inr (8, [.ref 36, .int (0)]), .inl (0, 16, .inl (fun _ => 0)), .inl (0, 16, .inl (fun _ => 0)), .inl (0, 16, .inl (fun _ => 0)), .inr (2, [.ref 32, .ref 33, .ref 34, .int (0)]), .inl (0, 16, .inl (fun _ => 0)), .inl (0, 16, .inl (fun _ => 0)), .inl (0, 16, .inl (fun _ => 0)), .inr (2, [.ref 28, .ref 29, .ref 30, .int (0)]), .inl (5, 2, .inr (.inr (.inr (.inr (fun _ => none))))), .inl (4, 6, .inr (.inr (.inr (.inr (fun _ => none))))), .inl (3, 6, .inr (.inr (.inr (.inr (fun _ => none))))), .inl (0, 6, .inl (fun _ => 0)), .inl (0, 6, .inl (fun _ => 0)), .inl (0, 3, .inl (upd (upd (upd (fun _ => 0) 0 0) 1 1) 2 0)), .inl (0, 60, .inl (fun _ => 0)), .inr (7, [.ref 20, .ref 21, .ref 22, .ref 23, .ref 24, .ref 25, .int (0), .int (0), .int (0), .int (0), .int (-1)]), .inl (4, 6, .inr (.inr (.inr (.inr (fun _ => none))))), .inl (3, 6, .inr (.inr (.inr (.inr (fun _ => none))))), .inl (0, 6, .inl (fun _ => 0)), .inl (0, 6, .inl (fun _ => 0)), .inl (0, 3, .inl (upd (upd (upd (fun _ => 0) 0 0) 1 1) 2 0)), .inl (0, 60, .inl (fun _ => 0)), .inr (7, [.ref 13, .ref 14, .ref 15, .ref 16, .ref 17, .ref 18, .int (0), .int (0), .int (0), .int (0), .int (-1)]), .inl (4, 6, .inr (.inr (.inr (.inr (fun _ => none))))), .inl (3, 6, .inr (.inr (.inr (.inr (fun _ => none))))), .inl (0, 6, .inl (fun _ => 0)), .inl (0, 6, .inl (fun _ => 0)), .inl (0, 3, .inl (upd (upd (upd (fun _ => 0) 0 0) 1 1) 2 0)), .inl (0, 60, .inl (fun _ => 0)), .inr (7, [.ref 6, .ref 7, .ref 8, .ref 9, .ref 10, .ref 11, .int (0), .int (0), .int (0), .int (0), .int (-1)])]
def M0 : zM := zmm 114 4 (fun _ => none) 10 [.ref 5, .ref 12, .ref 19, .ref 26, .ref 27, .ref 31, .ref 35, .ref 37, .ref 41, .ref 52, .ref 56, .ref 58, .ref 68, .ref 69, .ref 70, .ref 71, .int (0), .int (-1), .int (0), .int (-1)] Ml 88987
def alq {α : Type} (f g : Nat → α) : Nat → Prop
  | 0 => True
  | k + 1 => alq f g k ∧ f k = g k
theorem alq_at {α : Type} {f g : Nat → α} : ∀ (n : Nat), alq f g n → ∀ a, a < n → f a = g a := by
  intro n
  induction n with
  | zero => intro _ a h; omega
  | succ n ih =>
    intro h a ha
    rcases Nat.lt_or_ge a n with q | q
    · exact ih h.1 a q
    · have : a = n := by omega
      rw [this]; exact h.2
set_option maxRecDepth 20000 in
theorem s0_0 : M0.2.2 0 = (mk S0).2.2 0 := rfl
set_option maxRecDepth 20000 in
theorem s0_1 : M0.2.2 1 = (mk S0).2.2 1 := rfl
set_option maxRecDepth 20000 in
theorem s0_2 : M0.2.2 2 = (mk S0).2.2 2 := rfl
set_option maxRecDepth 20000 in
theorem s0_3 : M0.2.2 3 = (mk S0).2.2 3 := rfl
set_option maxRecDepth 20000 in
theorem s0_4 : M0.2.2 4 = (mk S0).2.2 4 := rfl
set_option maxRecDepth 20000 in
theorem s0_5 : M0.2.2 5 = (mk S0).2.2 5 := rfl
set_option maxRecDepth 20000 in
theorem s0_6 : M0.2.2 6 = (mk S0).2.2 6 := rfl
set_option maxRecDepth 20000 in
theorem s0_7 : M0.2.2 7 = (mk S0).2.2 7 := rfl
set_option maxRecDepth 20000 in
theorem s0_8 : M0.2.2 8 = (mk S0).2.2 8 := rfl
set_option maxRecDepth 20000 in
theorem s0_9 : M0.2.2 9 = (mk S0).2.2 9 := rfl
set_option maxRecDepth 20000 in
theorem s0_10 : M0.2.2 10 = (mk S0).2.2 10 := rfl
set_option maxRecDepth 20000 in
theorem s0_11 : M0.2.2 11 = (mk S0).2.2 11 := rfl
set_option maxRecDepth 20000 in
theorem s0_12 : M0.2.2 12 = (mk S0).2.2 12 := rfl
set_option maxRecDepth 20000 in
theorem s0_13 : M0.2.2 13 = (mk S0).2.2 13 := rfl
set_option maxRecDepth 20000 in
theorem s0_14 : M0.2.2 14 = (mk S0).2.2 14 := rfl
set_option maxRecDepth 20000 in
theorem s0_15 : M0.2.2 15 = (mk S0).2.2 15 := rfl
set_option maxRecDepth 20000 in
theorem s0_16 : M0.2.2 16 = (mk S0).2.2 16 := rfl
set_option maxRecDepth 20000 in
theorem s0_17 : M0.2.2 17 = (mk S0).2.2 17 := rfl
set_option maxRecDepth 20000 in
theorem s0_18 : M0.2.2 18 = (mk S0).2.2 18 := rfl
set_option maxRecDepth 20000 in
theorem s0_19 : M0.2.2 19 = (mk S0).2.2 19 := rfl
set_option maxRecDepth 20000 in
theorem s0_20 : M0.2.2 20 = (mk S0).2.2 20 := rfl
set_option maxRecDepth 20000 in
theorem s0_21 : M0.2.2 21 = (mk S0).2.2 21 := rfl
set_option maxRecDepth 20000 in
theorem s0_22 : M0.2.2 22 = (mk S0).2.2 22 := rfl
set_option maxRecDepth 20000 in
theorem s0_23 : M0.2.2 23 = (mk S0).2.2 23 := rfl
set_option maxRecDepth 20000 in
theorem s0_24 : M0.2.2 24 = (mk S0).2.2 24 := rfl
set_option maxRecDepth 20000 in
theorem s0_25 : M0.2.2 25 = (mk S0).2.2 25 := rfl
set_option maxRecDepth 20000 in
theorem s0_26 : M0.2.2 26 = (mk S0).2.2 26 := rfl
set_option maxRecDepth 20000 in
theorem s0_27 : M0.2.2 27 = (mk S0).2.2 27 := rfl
set_option maxRecDepth 20000 in
theorem s0_28 : M0.2.2 28 = (mk S0).2.2 28 := rfl
set_option maxRecDepth 20000 in
theorem s0_29 : M0.2.2 29 = (mk S0).2.2 29 := rfl
set_option maxRecDepth 20000 in
theorem s0_30 : M0.2.2 30 = (mk S0).2.2 30 := rfl
set_option maxRecDepth 20000 in
theorem s0_31 : M0.2.2 31 = (mk S0).2.2 31 := rfl
set_option maxRecDepth 20000 in
theorem s0_32 : M0.2.2 32 = (mk S0).2.2 32 := rfl
set_option maxRecDepth 20000 in
theorem s0_33 : M0.2.2 33 = (mk S0).2.2 33 := rfl
set_option maxRecDepth 20000 in
theorem s0_34 : M0.2.2 34 = (mk S0).2.2 34 := rfl
set_option maxRecDepth 20000 in
theorem s0_35 : M0.2.2 35 = (mk S0).2.2 35 := rfl
set_option maxRecDepth 20000 in
theorem s0_36 : M0.2.2 36 = (mk S0).2.2 36 := rfl
set_option maxRecDepth 20000 in
theorem s0_37 : M0.2.2 37 = (mk S0).2.2 37 := rfl
set_option maxRecDepth 20000 in
theorem s0_38 : M0.2.2 38 = (mk S0).2.2 38 := rfl
set_option maxRecDepth 20000 in
theorem s0_39 : M0.2.2 39 = (mk S0).2.2 39 := rfl
set_option maxRecDepth 20000 in
theorem s0_40 : M0.2.2 40 = (mk S0).2.2 40 := rfl
set_option maxRecDepth 20000 in
theorem s0_41 : M0.2.2 41 = (mk S0).2.2 41 := rfl
set_option maxRecDepth 20000 in
theorem s0_42 : M0.2.2 42 = (mk S0).2.2 42 := rfl
set_option maxRecDepth 20000 in
theorem s0_43 : M0.2.2 43 = (mk S0).2.2 43 := rfl
set_option maxRecDepth 20000 in
theorem s0_44 : M0.2.2 44 = (mk S0).2.2 44 := rfl
set_option maxRecDepth 20000 in
theorem s0_45 : M0.2.2 45 = (mk S0).2.2 45 := rfl
set_option maxRecDepth 20000 in
theorem s0_46 : M0.2.2 46 = (mk S0).2.2 46 := rfl
set_option maxRecDepth 20000 in
theorem s0_47 : M0.2.2 47 = (mk S0).2.2 47 := rfl
set_option maxRecDepth 20000 in
theorem s0_48 : M0.2.2 48 = (mk S0).2.2 48 := rfl
set_option maxRecDepth 20000 in
theorem s0_49 : M0.2.2 49 = (mk S0).2.2 49 := rfl
set_option maxRecDepth 20000 in
theorem s0_50 : M0.2.2 50 = (mk S0).2.2 50 := rfl
set_option maxRecDepth 20000 in
theorem s0_51 : M0.2.2 51 = (mk S0).2.2 51 := rfl
set_option maxRecDepth 20000 in
theorem s0_52 : M0.2.2 52 = (mk S0).2.2 52 := rfl
set_option maxRecDepth 20000 in
theorem s0_53 : M0.2.2 53 = (mk S0).2.2 53 := rfl
set_option maxRecDepth 20000 in
theorem s0_54 : M0.2.2 54 = (mk S0).2.2 54 := rfl
set_option maxRecDepth 20000 in
theorem s0_55 : M0.2.2 55 = (mk S0).2.2 55 := rfl
set_option maxRecDepth 20000 in
theorem s0_56 : M0.2.2 56 = (mk S0).2.2 56 := rfl
set_option maxRecDepth 20000 in
theorem s0_57 : M0.2.2 57 = (mk S0).2.2 57 := rfl
set_option maxRecDepth 20000 in
theorem s0_58 : M0.2.2 58 = (mk S0).2.2 58 := rfl
set_option maxRecDepth 20000 in
theorem s0_59 : M0.2.2 59 = (mk S0).2.2 59 := rfl
set_option maxRecDepth 20000 in
theorem s0_60 : M0.2.2 60 = (mk S0).2.2 60 := rfl
set_option maxRecDepth 20000 in
theorem s0_61 : M0.2.2 61 = (mk S0).2.2 61 := rfl
set_option maxRecDepth 20000 in
theorem s0_62 : M0.2.2 62 = (mk S0).2.2 62 := rfl
set_option maxRecDepth 20000 in
theorem s0_63 : M0.2.2 63 = (mk S0).2.2 63 := rfl
set_option maxRecDepth 20000 in
theorem s0_64 : M0.2.2 64 = (mk S0).2.2 64 := rfl
set_option maxRecDepth 20000 in
theorem s0_65 : M0.2.2 65 = (mk S0).2.2 65 := rfl
set_option maxRecDepth 20000 in
theorem s0_66 : M0.2.2 66 = (mk S0).2.2 66 := rfl
set_option maxRecDepth 20000 in
theorem s0_67 : M0.2.2 67 = (mk S0).2.2 67 := rfl
set_option maxRecDepth 20000 in
theorem s0_68 : M0.2.2 68 = (mk S0).2.2 68 := rfl
set_option maxRecDepth 20000 in
theorem s0_69 : M0.2.2 69 = (mk S0).2.2 69 := rfl
set_option maxRecDepth 20000 in
theorem s0_70 : M0.2.2 70 = (mk S0).2.2 70 := rfl
set_option maxRecDepth 20000 in
theorem s0_71 : M0.2.2 71 = (mk S0).2.2 71 := rfl
set_option maxRecDepth 20000 in
theorem s0_72 : M0.2.2 72 = (mk S0).2.2 72 := rfl
set_option maxRecDepth 20000 in
theorem s0_73 : M0.2.2 73 = (mk S0).2.2 73 := rfl
set_option maxRecDepth 20000 in
theorem s0_74 : M0.2.2 74 = (mk S0).2.2 74 := rfl
set_option maxRecDepth 20000 in
theorem s0_75 : M0.2.2 75 = (mk S0).2.2 75 := rfl
set_option maxRecDepth 20000 in
theorem s0_76 : M0.2.2 76 = (mk S0).2.2 76 := rfl
set_option maxRecDepth 20000 in
theorem s0_77 : M0.2.2 77 = (mk S0).2.2 77 := rfl
set_option maxRecDepth 20000 in
theorem s0_78 : M0.2.2 78 = (mk S0).2.2 78 := rfl
set_option maxRecDepth 20000 in
theorem s0_79 : M0.2.2 79 = (mk S0).2.2 79 := rfl
set_option maxRecDepth 20000 in
theorem s0_80 : M0.2.2 80 = (mk S0).2.2 80 := rfl
set_option maxRecDepth 20000 in
theorem s0_81 : M0.2.2 81 = (mk S0).2.2 81 := rfl
set_option maxRecDepth 20000 in
theorem s0_82 : M0.2.2 82 = (mk S0).2.2 82 := rfl
set_option maxRecDepth 20000 in
theorem s0_83 : M0.2.2 83 = (mk S0).2.2 83 := rfl
set_option maxRecDepth 20000 in
theorem s0_84 : M0.2.2 84 = (mk S0).2.2 84 := rfl
set_option maxRecDepth 20000 in
theorem s0_85 : M0.2.2 85 = (mk S0).2.2 85 := rfl
set_option maxRecDepth 20000 in
theorem s0_86 : M0.2.2 86 = (mk S0).2.2 86 := rfl
set_option maxRecDepth 20000 in
theorem s0_87 : M0.2.2 87 = (mk S0).2.2 87 := rfl
set_option maxRecDepth 20000 in
theorem s0_88 : M0.2.2 88 = (mk S0).2.2 88 := rfl
set_option maxRecDepth 20000 in
theorem s0_89 : M0.2.2 89 = (mk S0).2.2 89 := rfl
set_option maxRecDepth 20000 in
theorem s0_90 : M0.2.2 90 = (mk S0).2.2 90 := rfl
set_option maxRecDepth 20000 in
theorem s0_91 : M0.2.2 91 = (mk S0).2.2 91 := rfl
set_option maxRecDepth 20000 in
theorem s0_92 : M0.2.2 92 = (mk S0).2.2 92 := rfl
set_option maxRecDepth 20000 in
theorem s0_93 : M0.2.2 93 = (mk S0).2.2 93 := rfl
set_option maxRecDepth 20000 in
theorem s0_94 : M0.2.2 94 = (mk S0).2.2 94 := rfl
set_option maxRecDepth 20000 in
theorem s0_95 : M0.2.2 95 = (mk S0).2.2 95 := rfl
set_option maxRecDepth 20000 in
theorem s0_96 : M0.2.2 96 = (mk S0).2.2 96 := rfl
set_option maxRecDepth 20000 in
theorem s0_97 : M0.2.2 97 = (mk S0).2.2 97 := rfl
set_option maxRecDepth 20000 in
theorem s0_98 : M0.2.2 98 = (mk S0).2.2 98 := rfl
set_option maxRecDepth 20000 in
theorem s0_99 : M0.2.2 99 = (mk S0).2.2 99 := rfl
set_option maxRecDepth 20000 in
theorem s0_100 : M0.2.2 100 = (mk S0).2.2 100 := rfl
set_option maxRecDepth 20000 in
theorem s0_101 : M0.2.2 101 = (mk S0).2.2 101 := rfl
set_option maxRecDepth 20000 in
theorem s0_102 : M0.2.2 102 = (mk S0).2.2 102 := rfl
set_option maxRecDepth 20000 in
theorem s0_103 : M0.2.2 103 = (mk S0).2.2 103 := rfl
set_option maxRecDepth 20000 in
theorem s0_104 : M0.2.2 104 = (mk S0).2.2 104 := rfl
set_option maxRecDepth 20000 in
theorem s0_105 : M0.2.2 105 = (mk S0).2.2 105 := rfl
set_option maxRecDepth 20000 in
theorem s0_106 : M0.2.2 106 = (mk S0).2.2 106 := rfl
set_option maxRecDepth 20000 in
theorem s0_107 : M0.2.2 107 = (mk S0).2.2 107 := rfl
set_option maxRecDepth 20000 in
theorem s0_108 : M0.2.2 108 = (mk S0).2.2 108 := rfl
set_option maxRecDepth 20000 in
theorem s0_109 : M0.2.2 109 = (mk S0).2.2 109 := rfl
set_option maxRecDepth 20000 in
theorem s0_110 : M0.2.2 110 = (mk S0).2.2 110 := rfl
set_option maxRecDepth 20000 in
theorem s0_111 : M0.2.2 111 = (mk S0).2.2 111 := rfl
set_option maxRecDepth 20000 in
theorem s0_112 : M0.2.2 112 = (mk S0).2.2 112 := rfl
set_option maxRecDepth 20000 in
theorem s0_113 : M0.2.2 113 = (mk S0).2.2 113 := rfl
set_option maxRecDepth 20000 in
theorem s0_all : alq M0.2.2 (mk S0).2.2 114 := ⟨⟨⟨⟨⟨⟨⟨⟨⟨⟨⟨⟨⟨⟨⟨⟨⟨⟨⟨⟨⟨⟨⟨⟨⟨⟨⟨⟨⟨⟨⟨⟨⟨⟨⟨⟨⟨⟨⟨⟨⟨⟨⟨⟨⟨⟨⟨⟨⟨⟨⟨⟨⟨⟨⟨⟨⟨⟨⟨⟨⟨⟨⟨⟨⟨⟨⟨⟨⟨⟨⟨⟨⟨⟨⟨⟨⟨⟨⟨⟨⟨⟨⟨⟨⟨⟨⟨⟨⟨⟨⟨⟨⟨⟨⟨⟨⟨⟨⟨⟨⟨⟨⟨⟨⟨⟨⟨⟨⟨⟨⟨⟨⟨⟨trivial, s0_0⟩, s0_1⟩, s0_2⟩, s0_3⟩, s0_4⟩, s0_5⟩, s0_6⟩, s0_7⟩, s0_8⟩, s0_9⟩, s0_10⟩, s0_11⟩, s0_12⟩, s0_13⟩, s0_14⟩, s0_15⟩, s0_16⟩, s0_17⟩, s0_18⟩, s0_19⟩, s0_20⟩, s0_21⟩, s0_22⟩, s0_23⟩, s0_24⟩, s0_25⟩, s0_26⟩, s0_27⟩, s0_28⟩, s0_29⟩, s0_30⟩, s0_31⟩, s0_32⟩, s0_33⟩, s0_34⟩, s0_35⟩, s0_36⟩, s0_37⟩, s0_38⟩, s0_39⟩, s0_40⟩, s0_41⟩, s0_42⟩, s0_43⟩, s0_44⟩, s0_45⟩, s0_46⟩, s0_47⟩, s0_48⟩, s0_49⟩, s0_50⟩, s0_51⟩, s0_52⟩, s0_53⟩, s0_54⟩, s0_55⟩, s0_56⟩, s0_57⟩, s0_58⟩, s0_59⟩, s0_60⟩, s0_61⟩, s0_62⟩, s0_63⟩, s0_64⟩, s0_65⟩, s0_66⟩, s0_67⟩, s0_68⟩, s0_69⟩, s0_70⟩, s0_71⟩, s0_72⟩, s0_73⟩, s0_74⟩, s0_75⟩, s0_76⟩, s0_77⟩, s0_78⟩, s0_79⟩, s0_80⟩, s0_81⟩, s0_82⟩, s0_83⟩, s0_84⟩, s0_85⟩, s0_86⟩, s0_87⟩, s0_88⟩, s0_89⟩, s0_90⟩, s0_91⟩, s0_92⟩, s0_93⟩, s0_94⟩, s0_95⟩, s0_96⟩, s0_97⟩, s0_98⟩, s0_99⟩, s0_100⟩, s0_101⟩, s0_102⟩, s0_103⟩, s0_104⟩, s0_105⟩, s0_106⟩, s0_107⟩, s0_108⟩, s0_109⟩, s0_110⟩, s0_111⟩, s0_112⟩, s0_113⟩
theorem M0_mk : M0 = mk S0 := by
  refine Prod.ext rfl (Prod.ext rfl (funext fun a => ?_))
  rcases Nat.lt_or_ge a 114 with q | q
  · exact alq_at 114 s0_all a q
  · have e1 : M0.2.2 a = none := by
      show (if 4 < a then (if a < 114 then _ else none) else _) = none
      rw [if_pos (by omega), if_neg (by omega)]
    have e2 : (mk S0).2.2 a = none := by
      show (zdes S0 a).map _ = none
      rw [zdes_dyn q]
      rfl
    rw [e1, e2]
