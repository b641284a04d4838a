abbrev zA (b : Nat) : Nat → Prop := fun q => b ≤ q
theorem z_in_vp {i : Int32} {n : Nat} (h : z_in i n) : vp_in i n := by
  intro q
  rcases q with q | q
  · exact absurd h.1 (Int32.not_le.mpr q)
  · exact absurd h.2 (Nat.not_lt.mpr q)
theorem z_cl_at {ci : Nat} (h : ci < 12) : vwCl[ci]? = some (z_cl ci) := by
  rcases (show ci = 0 ∨ ci = 1 ∨ ci = 2 ∨ ci = 3 ∨ ci = 4 ∨ ci = 5 ∨ ci = 6 ∨ ci = 7 ∨ ci = 8 ∨ ci = 9 ∨ ci = 10 ∨ ci = 11 by omega) with rfl | rfl | rfl | rfl | rfl | rfl | rfl | rfl | rfl | rfl | rfl | rfl <;> rfl
theorem z_cl_ws {ci : Nat} (h : ci < 12) : ∀ w ∈ u_ws (z_cl ci).1 (z_cl ci).2.1 (z_cl ci).2.2, w ∈ zG := by
  intro w hw
  refine List.mem_flatten.mpr ⟨u_ws (z_cl ci).1 (z_cl ci).2.1 (z_cl ci).2.2, z_get_mem zchunks (62 + ci) _ ?_, hw⟩
  rcases (show ci = 0 ∨ ci = 1 ∨ ci = 2 ∨ ci = 3 ∨ ci = 4 ∨ ci = 5 ∨ ci = 6 ∨ ci = 7 ∨ ci = 8 ∨ ci = 9 ∨ ci = 10 ∨ ci = 11 by omega) with rfl | rfl | rfl | rfl | rfl | rfl | rfl | rfl | rfl | rfl | rfl | rfl <;> rfl
/-- types of the fields, names apart, what is in a new object -/
theorem z_cl_ty {ci : Nat} (h : ci < 12) : ∃ ty : Nat → FieldType, (∀ k, k < (z_cl ci).2.2 → parseFieldDescriptor ((z_cl ci).2.1 k).2.2.1 = some (ty k)) ∧ (∀ a, a < (z_cl ci).2.2 → ∀ b, b < (z_cl ci).2.2 → a ≠ b → ((z_cl ci).2.1 a).2.1 ≠ ((z_cl ci).2.1 b).2.1) ∧ (∀ j, j < (z_cl ci).2.2 → defaultValue (ty j) = vp_V (z_defs ci) j) ∧ (z_defs ci).length = (z_cl ci).2.2 ∧ ∀ (b : Nat) (sa : Nat → Nat), (z_defs ci).map (z_tv b sa) = z_defs ci := by
  rcases (show ci = 0 ∨ ci = 1 ∨ ci = 2 ∨ ci = 3 ∨ ci = 4 ∨ ci = 5 ∨ ci = 6 ∨ ci = 7 ∨ ci = 8 ∨ ci = 9 ∨ ci = 10 ∨ ci = 11 by omega) with rfl | rfl | rfl | rfl | rfl | rfl | rfl | rfl | rfl | rfl | rfl | rfl
  · exact ⟨tyX0, tyX0_ok, nmX0, by decide +kernel, rfl, fun _ _ => rfl⟩
  · exact ⟨tyX1, tyX1_ok, nmX1, by decide +kernel, rfl, fun _ _ => rfl⟩
  · exact ⟨tyX2, tyX2_ok, nmX2, by decide +kernel, rfl, fun _ _ => rfl⟩
  · exact ⟨tyX3, tyX3_ok, nmX3, by decide +kernel, rfl, fun _ _ => rfl⟩
  · exact ⟨tyX4, tyX4_ok, nmX4, by decide +kernel, rfl, fun _ _ => rfl⟩
  · exact ⟨tyX5, tyX5_ok, nmX5, by decide +kernel, rfl, fun _ _ => rfl⟩
  · exact ⟨tyX6, tyX6_ok, nmX6, by decide +kernel, rfl, fun _ _ => rfl⟩
  · exact ⟨tyX7, tyX7_ok, nmX7, by decide +kernel, rfl, fun _ _ => rfl⟩
  · exact ⟨tyX8, tyX8_ok, nmX8, by decide +kernel, rfl, fun _ _ => rfl⟩
  · exact ⟨tyX9, tyX9_ok, nmX9, by decide +kernel, rfl, fun _ _ => rfl⟩
  · exact ⟨tyX10, tyX10_ok, nmX10, by decide +kernel, rfl, fun _ _ => rfl⟩
  · exact ⟨tyX11, tyX11_ok, nmX11, by decide +kernel, rfl, fun _ _ => rfl⟩
section ZY
variable {p : Program} {l : Launch} {e : Env} {R : Room} {s : State} {m : MethodId} {args : Array Value} {below : List Frame} {meth : Method} {c : Code} {Q : State → Prop} {D : va_G} {b : Nat} {sa : Nat → Nat} {nL n0 k0 : Nat}
variable {cc : ByteArray} {pc a mi : Nat} {L : zL} {st : List Value} {M : zM} {val : Value} {H : Heap} {locs : List Loc}
theorem zH_upd {cs : Nat → ClassId} {tys : List (ClassId × FieldType)} {i : Nat} {e0 e1 : va_E} {H1 : Heap} {locs1 : List Loc} (hw : z_wf M) (hK : va_K D vwCl tys s) (ht : ∀ i t n x, M.2.2 i = some (.inl (t, n, x)) → ∃ t0 : Nat, tys[t0]? = some (cs i, z_fty t)) (hi : M.2.2 i = some e0) (hs : ∀ t n x, e1 = .inl (t, n, x) → ∃ n' x', e0 = .inl (t, n', x'))
    (hP : va_P D vwCl ((z_ws b sa cs M).set (i - 4) (z_ad b sa i, z_te b sa (cs i) e1)) H1) (hD : va_D (zA b) ((z_ws b sa cs M).set (i - 4) (z_ad b sa i, z_te b sa (cs i) e1))) (hS : va_S (zA b) s.heap H1 locs1) : zH D b sa s (z_upd M i e1) H1 locs1 := by
  rw [← z_ws_upd hw hi] at hP hD
  refine ⟨hw.upd hi, cs, tys, hK, hP, hD, hS, fun j t n x hj => ?_⟩
  have hj2 : (if j = i then some e1 else M.2.2 j) = some (.inl (t, n, x)) := hj
  by_cases q : j = i
  · rw [if_pos q] at hj2
    obtain ⟨n', x', h0⟩ := hs t n x (Option.some.inj hj2)
    rw [q]
    exact ht i t n' x' (by rw [hi, h0])
  · rw [if_neg q] at hj2
    exact ht j t n x hj2
theorem va_at_lt {q : Nat × va_E} (h : va_at D vwCl q H) : q.1 < H.size := by
  obtain ⟨a, e⟩ := q
  cases e with
  | inl x => exact (Array.getElem?_eq_some_iff.mp (show H[a]? = some _ from h)).1
  | inr x =>
    obtain ⟨r, -, cell, hc, -⟩ := (show ∃ r : vw_C, vwCl[x.1]? = some r ∧ t_OB a (D.1 x.1) r.2.2 (D.2 x.1) H (vp_V x.2) from h)
    exact (Array.getElem?_eq_some_iff.mp hc).1
theorem z_fresh {cs : Nat → ClassId} {q : Nat} {e1 : va_E} {H1 : Heap} (hw : z_wf M) (hP : va_P D vwCl (z_ws b sa cs M ++ [(q, e1)]) H1) (hD : va_D (zA b) (z_ws b sa cs M ++ [(q, e1)])) (hsz : H1.size ≤ b + (M.1 - 4) + 1) : q = z_ad b sa M.1 := by
  have h0 := hw.1
  have hlast : (z_ws b sa cs M ++ [(q, e1)])[M.1 - 4]? = some (q, e1) := by
    rw [List.getElem?_append_right (by rw [z_ws_len]; exact Nat.le_refl _), z_ws_len, Nat.sub_self]; rfl
  have h1 : b ≤ q := hD.2 _ _ hlast
  have h2 : q < H1.size := va_at_lt (hP _ _ hlast)
  rw [z_ad_ge h0]
  rcases Nat.lt_or_ge q (b + (M.1 - 4)) with h3 | h3
  · have hj : (z_ws b sa cs M ++ [(q, e1)])[q - b]? = some (b + (q - b), z_tc b sa cs M (q - b + 4)) := by
      rw [List.getElem?_append_left (by rw [z_ws_len]; omega), z_ws_at, if_pos (by omega)]
    have := hD.1 _ _ _ _ hj hlast (by show b + (q - b) = q; omega)
    omega
  · omega
theorem zH_new {cs : Nat → ClassId} {tys tys1 : List (ClassId × FieldType)} {q : Nat} {e0 : va_E} {cA : ClassId} {H1 : Heap} (hw : z_wf M) (ht : ∀ i t n x, M.2.2 i = some (.inl (t, n, x)) → ∃ t0 : Nat, tys[t0]? = some (cs i, z_fty t)) (hK : va_K D vwCl (tys ++ tys1) s) (hs : ∀ t n x, e0 = .inl (t, n, x) → tys1 = [(cA, z_fty t)]) (hP : va_P D vwCl (z_ws b sa cs M ++ [(q, z_te b sa cA e0)]) H1) (hD : va_D (zA b) (z_ws b sa cs M ++ [(q, z_te b sa cA e0)])) (hS : va_S (zA b) s.heap H1 locs) (hq : q = z_ad b sa M.1) : zH D b sa s (z_new M e0) H1 locs := by
  subst hq
  rw [← z_ws_new hw] at hP hD
  refine ⟨hw.new e0, va_up cs M.1 cA, tys ++ tys1, hK, hP, hD, hS, fun j t n x hj => ?_⟩
  have hj2 : (if j = M.1 then some e0 else M.2.2 j) = some (.inl (t, n, x)) := hj
  unfold va_up
  by_cases q : j = M.1
  · rw [if_pos q] at hj2 ⊢
    rw [hs t n x (Option.some.inj hj2)]
    exact ⟨tys.length, by rw [List.getElem?_append_right (Nat.le_refl _), Nat.sub_self]; rfl⟩
  · rw [if_neg q] at hj2 ⊢
    obtain ⟨t0, h0⟩ := ht j t n x hj2
    exact ⟨t0, by rw [List.getElem?_append_left (by exact (List.getElem?_eq_some_iff.mp h0).1)]; exact h0⟩
theorem zs_getfield {own : String} {i ci k : Nat} (hx : p.tables.exec = Jvm.exec) (hb : c.code = cc) (hts : ∀ w ∈ zG, w.before args s = true) (hown : s.vm.findClass own = some m.cls) (hd : decode cc pc = .ok (.getfield i, 3)) (hci : ci < 12) (hk : k < (z_cl ci).2.2) (hw : Cond.fieldLink own i ((z_cl ci).2.1 k).1 ((z_cl ci).2.1 k).2.1 ((z_cl ci).2.1 k).2.2.1 ∈ zG)
    (h : z_R1 False st (fun o r => z_getf False M val o ci k (fun v => zK p l e R s m args below meth c Q D b sa nL n0 k0 (mi, pc + 3, L, v :: r, M)))) : zW p l e R s m args below meth c Q D b sa nL n0 k0 (mi, pc, L, st, M) := by
  obtain ⟨o, r, rfl, h1⟩ := p_R1 h
  obtain ⟨fs, v, h2, h3, h4⟩ := p_getf h1
  intro H locs ls hH hL
  obtain ⟨hwf, cs, tys, hK, hP, hD, hS, ht⟩ := id hH
  exact va_get hx hb (T := (z_cl ci).2.1) (N := (z_cl ci).2.2) hts (z_cl_ws hci) hown hK hP (o - 4) (z_ws_get hwf h2) (z_cl_at hci) k hk (hts _ hw) (fun _ q => q) (by rw [List.getElem?_map, h3]; rfl) hd (h4.2 H locs ls hH hL)
theorem z_okv_fit {val v : Value} {d : String} {ty : FieldType} (h : z_okv val v) (hf : z_ft val d = true) (hd : parseFieldDescriptor d = some ty) : narrow ty (z_tv b sa v) = z_tv b sa v ∧ fits ty (z_tv b sa v) = true := by
  rcases h with ⟨rfl, x, rfl⟩ | ⟨rfl, hv⟩ | ⟨rfl, x, rfl⟩ | ⟨n0, n1, n2, hv⟩
  · have hf : d = "I" := of_decide_eq_true hf
    subst hf
    have : ty = .int := Option.some.inj (hd.symm.trans (by decide +kernel))
    subst this
    exact ⟨rfl, rfl⟩
  · have hf : d = "Z" := of_decide_eq_true hf
    subst hf
    have : ty = .boolean := Option.some.inj (hd.symm.trans (by decide +kernel))
    subst this
    rcases hv with rfl | rfl <;> exact ⟨rfl, rfl⟩
  · have hf : d = "J" := of_decide_eq_true hf
    subst hf
    have : ty = .long := Option.some.inj (hd.symm.trans (by decide +kernel))
    subst this
    exact ⟨rfl, rfl⟩
  · have h3 : (∃ n, ty = .object n) ∨ ∃ t, ty = .array t := by
      unfold z_ft at hf
      split at hf
      · exact absurd rfl n0
      · exact absurd rfl n1
      · exact absurd rfl n2
      · rw [hd] at hf
        split at hf
        · next q => exact Or.inl ⟨_, Option.some.inj q⟩
        · next q => exact Or.inr ⟨_, Option.some.inj q⟩
        · cases hf
      · cases hf
    rcases h3 with ⟨n, rfl⟩ | ⟨t, rfl⟩ <;> rcases hv with ⟨q, rfl⟩ | rfl <;> exact ⟨rfl, rfl⟩
theorem zs_putfield {own : String} {i ci k : Nat} (hx : p.tables.exec = Jvm.exec) (hb : c.code = cc) (hts : ∀ w ∈ zG, w.before args s = true) (hown : s.vm.findClass own = some m.cls) (hd : decode cc pc = .ok (.putfield i, 3)) (hci : ci < 12) (hk : k < (z_cl ci).2.2) (hw : Cond.fieldLink own i ((z_cl ci).2.1 k).1 ((z_cl ci).2.1 k).2.1 ((z_cl ci).2.1 k).2.2.1 ∈ zG) (hf : z_ft val ((z_cl ci).2.1 k).2.2.1 = true) (hfin : ((z_cl ci).2.1 k).2.2.2 = true → meth.name = "<init>" ∧ ((z_cl ci).2.1 k).1 = own)
    (h : z_V1 False st (fun v r => z_R1 False r (fun o r => z_putf False M val o ci k v (fun M => zK p l e R s m args below meth c Q D b sa nL n0 k0 (mi, pc + 3, L, r, M))))) : zW p l e R s m args below meth c Q D b sa nL n0 k0 (mi, pc, L, st, M) := by
  obtain ⟨v, r, rfl, h1⟩ := p_V1 h
  obtain ⟨o, r2, hr2, hz1⟩ := p_R1 h1
  subst hr2
  obtain ⟨hv, fs, h2, h3, h4⟩ := p_putf hz1
  intro H locs ls hH hL
  obtain ⟨hwf, cs, tys, hK, hP, hD, hS, ht⟩ := id hH
  obtain ⟨ty, hty, hnm, -⟩ := z_cl_ty hci
  obtain ⟨f1, f2⟩ := z_okv_fit (b := b) (sa := sa) hv hf (hty k hk)
  have hgo : ∀ (H1 : Heap) (locs1 : List Loc), va_P D vwCl ((z_ws b sa cs M).set (o - 4) (z_ad b sa o, .inr (ci, (fs.map (z_tv b sa)).set k (z_tv b sa v)))) H1 → va_D (zA b) ((z_ws b sa cs M).set (o - 4) (z_ad b sa o, .inr (ci, (fs.map (z_tv b sa)).set k (z_tv b sa v)))) → va_S (zA b) s.heap H1 locs1 → W p l e R s m args below meth c H1 locs1 (M.1 - n0) (M.2.1 - k0) Q (F0 m (pc + 3) ls (r2.map (z_tv b sa))) := by
    intro H1 locs1 hP1 hD1 hS1
    refine h4.2 H1 locs1 ls (zH_upd hwf hK ht h2 (fun _ _ _ q => by cases q) ?_ ?_ hS1) hL
    · show va_P D vwCl ((z_ws b sa cs M).set (o - 4) (z_ad b sa o, .inr (ci, (fs.set k v).map (z_tv b sa)))) H1
      rw [List.map_set]; exact hP1
    · show va_D (zA b) ((z_ws b sa cs M).set (o - 4) (z_ad b sa o, .inr (ci, (fs.set k v).map (z_tv b sa))))
      rw [List.map_set]; exact hD1
  cases hq : ((z_cl ci).2.1 k).2.2.2 with
  | false => exact va_put hx hb (T := (z_cl ci).2.1) (N := (z_cl ci).2.2) hts (z_cl_ws hci) ty hty hnm hown hK hP hD hS (o - 4) (z_ws_get hwf h2) (z_cl_at hci) k hk (hts _ hw) (fun _ q => q) hq (hty k hk) f1 f2 (by rw [List.length_map]; exact h3) hd hgo
  | true => exact va_putF hx hb (T := (z_cl ci).2.1) (N := (z_cl ci).2.2) hts (z_cl_ws hci) ty hty hnm hown hK hP hD hS (o - 4) (z_ws_get hwf h2) (z_cl_at hci) k hk (hts _ hw) (fun _ q => q) hq (hfin hq).1 (hfin hq).2 (hty k hk) f1 f2 (by rw [List.length_map]; exact h3) hd hgo
theorem zs_laload (hx : p.tables.exec = Jvm.exec) (hb : c.code = cc) (hd : decode cc pc = .ok (.laload, 1)) (h : z_RI False st (fun o i r => z_jld False M o i (fun x => zK p l e R s m args below meth c Q D b sa nL n0 k0 (mi, pc + 1, L, .long x :: r, M)))) : zW p l e R s m args below meth c Q D b sa nL n0 k0 (mi, pc, L, st, M) := by
  obtain ⟨o, i, r, rfl, h1⟩ := p_RI h
  obtain ⟨n, f, h2, h3, h4⟩ := p_jld h1
  intro H locs ls hH hL
  obtain ⟨hwf, cs, tys, hK, hP, hD, hS, ht⟩ := id hH
  obtain ⟨t0, h0⟩ := ht _ _ _ _ h2
  exact va_lald hx hb hK hP (o - 4) t0 (z_ws_get hwf h2) h0 (z_in_vp h3) hd (h4.2 H locs ls hH hL)
theorem zs_lastore (hx : p.tables.exec = Jvm.exec) (hb : c.code = cc) (hd : decode cc pc = .ok (.lastore, 1)) (h : z_J1 False st (fun x r => z_RI False r (fun o i r => z_jst False M o i x (fun M => zK p l e R s m args below meth c Q D b sa nL n0 k0 (mi, pc + 1, L, r, M))))) : zW p l e R s m args below meth c Q D b sa nL n0 k0 (mi, pc, L, st, M) := by
  obtain ⟨x, r, rfl, h1⟩ := p_J1 h
  obtain ⟨o, i, r2, hr2, hz1⟩ := p_RI h1
  subst hr2
  obtain ⟨n, f, h2, h3, h4⟩ := p_jst hz1
  intro H locs ls hH hL
  obtain ⟨hwf, cs, tys, hK, hP, hD, hS, ht⟩ := id hH
  obtain ⟨t0, h0⟩ := ht _ _ _ _ h2
  exact va_last hx hb hK hP hD hS (o - 4) t0 (z_ws_get hwf h2) h0 (z_in_vp h3) hd (fun H1 locs1 hP1 hD1 hS1 => h4.2 H1 locs1 ls (zH_upd hwf hK ht h2 (fun t n' x' q => by cases q; exact ⟨_, _, rfl⟩) hP1 hD1 hS1) hL)
theorem zs_iastore (hx : p.tables.exec = Jvm.exec) (hb : c.code = cc) (hd : decode cc pc = .ok (.iastore, 1)) (h : z_I1 False st (fun x r => z_RI False r (fun o i r => z_ast False M 0 o i x (fun M => zK p l e R s m args below meth c Q D b sa nL n0 k0 (mi, pc + 1, L, r, M))))) : zW p l e R s m args below meth c Q D b sa nL n0 k0 (mi, pc, L, st, M) := by
  obtain ⟨x, r, rfl, h1⟩ := p_I1 h
  obtain ⟨o, i, r2, hr2, hz1⟩ := p_RI h1
  subst hr2
  obtain ⟨n, f, h2, h3, -, h4⟩ := p_ast hz1
  intro H locs ls hH hL
  obtain ⟨hwf, cs, tys, hK, hP, hD, hS, ht⟩ := id hH
  obtain ⟨t0, h0⟩ := ht _ _ _ _ h2
  exact va_iast hx hb hK hP hD hS (o - 4) t0 (z_ws_get hwf h2) h0 (z_in_vp h3) hd (fun H1 locs1 hP1 hD1 hS1 => h4.2 H1 locs1 ls (zH_upd hwf hK ht h2 (fun t n' x' q => by cases q; exact ⟨_, _, rfl⟩) hP1 hD1 hS1) hL)
theorem z_nar {x : Int32} (h : x = 0 ∨ x = 1) : vp_nar .boolean x = x := by
  rcases h with rfl | rfl <;> decide +kernel
theorem zs_bastore (hx : p.tables.exec = Jvm.exec) (hb : c.code = cc) (hd : decode cc pc = .ok (.bastore, 1)) (h : z_I1 False st (fun x r => z_RI False r (fun o i r => z_ast False M 2 o i x (fun M => zK p l e R s m args below meth c Q D b sa nL n0 k0 (mi, pc + 1, L, r, M))))) : zW p l e R s m args below meth c Q D b sa nL n0 k0 (mi, pc, L, st, M) := by
  obtain ⟨x, r, rfl, h1⟩ := p_I1 h
  obtain ⟨o, i, r2, hr2, hz1⟩ := p_RI h1
  subst hr2
  obtain ⟨n, f, h2, h3, hb1, h4⟩ := p_ast hz1
  intro H locs ls hH hL
  obtain ⟨hwf, cs, tys, hK, hP, hD, hS, ht⟩ := id hH
  obtain ⟨t0, h0⟩ := ht _ _ _ _ h2
  exact va_zast hx hb hK hP hD hS (o - 4) t0 (z_ws_get hwf h2) h0 (z_in_vp h3) hd (fun H1 locs1 hP1 hD1 hS1 => by
    rw [z_nar (hb1 rfl)] at hP1 hD1
    exact h4.2 H1 locs1 ls (zH_upd hwf hK ht h2 (fun t n' x' q => by cases q; exact ⟨_, _, rfl⟩) hP1 hD1 hS1) hL)
theorem zs_aaload (hx : p.tables.exec = Jvm.exec) (hb : c.code = cc) (hd : decode cc pc = .ok (.aaload, 1)) (h : z_RI False st (fun o i r => z_qld False M o i (zK p l e R s m args below meth c Q D b sa nL n0 k0 (mi, pc + 1, L, .null :: r, M)) (fun q => zK p l e R s m args below meth c Q D b sa nL n0 k0 (mi, pc + 1, L, .ref q :: r, M)))) : zW p l e R s m args below meth c Q D b sa nL n0 k0 (mi, pc, L, st, M) := by
  obtain ⟨o, i, r, rfl, h1⟩ := p_RI h
  obtain ⟨t, n, f, h2, ht1, ht2, h3, h4⟩ := p_qld h1
  intro H locs ls hH hL
  obtain ⟨hwf, cs, tys, hK, hP, hD, hS, ht⟩ := id hH
  obtain ⟨t0, h0⟩ := ht _ _ _ _ h2
  have hty : ∃ C, z_fty t = .object C := by rcases (show t = 3 ∨ t = 4 ∨ t = 5 by omega) with rfl | rfl | rfl <;> exact ⟨_, rfl⟩
  obtain ⟨C, hC⟩ := hty
  rw [hC] at h0
  refine va_aldq hx hb hK hP (o - 4) t0 (z_ws_get hwf h2) h0 (z_in_vp h3) hd ?_
  show W p l e R s m args below meth c H locs _ _ Q (F0 m (pc + 1) ls (va_rf ((f i.toNatClampNeg).map (z_ad b sa)) :: r.map (z_tv b sa)))
  rcases h4 with ⟨e1, h4⟩ | ⟨q, e1, h4⟩
  · rw [e1]; exact h4.2 H locs ls hH hL
  · rw [e1]; exact h4.2 H locs ls hH hL
theorem z_up_map {f : Nat → Option Nat} {k : Nat} {v : Option Nat} : (fun i => ((va_up f k v) i).map (z_ad b sa)) = va_up (fun i => (f i).map (z_ad b sa)) k (v.map (z_ad b sa)) := by
  funext i
  unfold va_up
  split <;> rfl
theorem zs_aastore (hx : p.tables.exec = Jvm.exec) (hb : c.code = cc) (hd : decode cc pc = .ok (.aastore, 1)) (h : z_V1 False st (fun v r => z_RI False r (fun o i r => z_qst False M o i v (fun M => zK p l e R s m args below meth c Q D b sa nL n0 k0 (mi, pc + 1, L, r, M))))) : zW p l e R s m args below meth c Q D b sa nL n0 k0 (mi, pc, L, st, M) := by
  obtain ⟨v, r, rfl, h1⟩ := p_V1 h
  obtain ⟨o, i, r2, hr2, hz1⟩ := p_RI h1
  subst hr2
  obtain ⟨t, n, f, h2, ht1, ht2, h3, h4⟩ := p_qst hz1
  intro H locs ls hH hL
  obtain ⟨hwf, cs, tys, hK, hP, hD, hS, ht⟩ := id hH
  obtain ⟨t0, h0⟩ := ht _ _ _ _ h2
  have hty : z_fty t = .object (z_cl (z_elem t)).1 ∧ z_elem t < 12 := by rcases (show t = 3 ∨ t = 4 ∨ t = 5 by omega) with rfl | rfl | rfl <;> exact ⟨rfl, by decide⟩
  rw [hty.1] at h0
  rcases h4 with ⟨rfl, h4⟩ | ⟨q, fs, rfl, h5, h4⟩
  · exact va_astqN hx hb hK hP hD hS (o - 4) t0 (z_ws_get hwf h2) h0 (z_in_vp h3) hd (fun H1 locs1 hP1 hD1 hS1 => h4.2 H1 locs1 ls (zH_upd hwf hK ht h2 (fun t n' x' q => by cases q; exact ⟨_, _, rfl⟩) (by
      show va_P D vwCl ((z_ws b sa cs M).set (o - 4) (z_ad b sa o, .inl (cs o, n, .inr (.inr (.inr (.inr (fun j => ((va_up f i.toNatClampNeg none) j).map (z_ad b sa)))))))) H1
      rw [z_up_map]; exact hP1) (by
      show va_D (zA b) ((z_ws b sa cs M).set (o - 4) (z_ad b sa o, .inl (cs o, n, .inr (.inr (.inr (.inr (fun j => ((va_up f i.toNatClampNeg none) j).map (z_ad b sa))))))))
      rw [z_up_map]; exact hD1) hS1) hL)
  · exact va_astq hx hb hK hP hD hS (o - 4) t0 (q - 4) (z_elem t) (z_ws_get hwf h2) h0 (z_ws_get hwf h5) (z_cl_at hty.2) (z_in_vp h3) hd (fun H1 locs1 hP1 hD1 hS1 => h4.2 H1 locs1 ls (zH_upd hwf hK ht h2 (fun t n' x' q => by cases q; exact ⟨_, _, rfl⟩) (by
      show va_P D vwCl ((z_ws b sa cs M).set (o - 4) (z_ad b sa o, .inl (cs o, n, .inr (.inr (.inr (.inr (fun j => ((va_up f i.toNatClampNeg (some q)) j).map (z_ad b sa)))))))) H1
      rw [z_up_map]; exact hP1) (by
      show va_D (zA b) ((z_ws b sa cs M).set (o - 4) (z_ad b sa o, .inl (cs o, n, .inr (.inr (.inr (.inr (fun j => ((va_up f i.toNatClampNeg (some q)) j).map (z_ad b sa))))))))
      rw [z_up_map]; exact hD1) hS1) hL)
theorem zs_checkcast {own : String} {i : Nat} (hx : p.tables.exec = Jvm.exec) (hb : c.code = cc) (hown : s.vm.findClass own = some m.cls) (hw : (Cond.classLink own i "[I").before args s = true) (hd : decode cc pc = .ok (.checkcast i, 3)) (h : z_R1 False st (fun o r => z_ar0 False M o (zK p l e R s m args below meth c Q D b sa nL n0 k0 (mi, pc + 3, L, .ref o :: r, M)))) : zW p l e R s m args below meth c Q D b sa nL n0 k0 (mi, pc, L, st, M) := by
  obtain ⟨o, r, rfl, h1⟩ := p_R1 h
  obtain ⟨n, x, h2, h4⟩ := p_ar0 h1
  intro H locs ls hH hL
  obtain ⟨hwf, cs, tys, hK, hP, hD, hS, ht⟩ := id hH
  obtain ⟨t0, h0⟩ := ht _ _ _ _ h2
  exact va_castA hx hb hown hw hP (o - 4) (z_ws_get hwf h2) (show s.vm.findClass ("[" ++ FieldType.int.toString) = some (cs o) from (hK.2 t0 _ h0).2) hd (h4.2 H locs ls hH hL)
end ZY
