set_option maxHeartbeats 4000000 in
set_option maxRecDepth 100000 in
theorem tX10_areShares (l : Launch) (dC : Nat → ClassId) (dI : Nat → Nat → Nat) (h0 h1 : Nat) (k1 : ClassId) (g0_length g0_text g0_itemMany g0_items g0_balls g0_outs g0_sightMany g0_sights g0_keptMany g0_cameras g0_callMany g0_calls g0_rights g0_caseMany g0_cases g0_place g0_numbers g0_xs g0_ys g0_zs g0_us g0_vs g0_ws g0_touchTick g0_touchHalf g0_powers g0_worths : Value) (N : Nat)  (c1 : Nat → Int32) (ru : Int32) (hm : fX10_areShares N c1 = some ru) : Met l yX10_areShares wsX10_areShares ({ frames := 0, cells := 0, slots := 0, locals := 0 } : Room) (va_Pc [.ref h0] (fun U => va_P (dC, dI) vwCl [(h0, .inr (10, [g0_length, g0_text, g0_itemMany, g0_items, g0_balls, g0_outs, g0_sightMany, g0_sights, g0_keptMany, g0_cameras, g0_callMany, g0_calls, .ref h1, g0_rights, g0_caseMany, g0_cases, g0_place, g0_numbers, g0_xs, g0_ys, g0_zs, g0_us, g0_vs, g0_ws, g0_touchTick, g0_touchHalf, g0_powers, g0_worths])), (h1, .inl (k1, 4, .inl c1))] U.heap ∧ va_K (dC, dI) vwCl [(k1, .int)] U)) (vp_Si (fun r => r = ru ∧ narrow .boolean (.int r) = .int r)) 0 0 (fun _ => False) := by
  refine Met.ofW (cc := cX10_areShares) (maxL := 1) (ret := (some .boolean)) (by decide) rfl ?_
  intro p e s m args below meth c s₁ B hml hv
  obtain ⟨rfl, hP, hK⟩ := hv
  have hx := B.exec
  have hb := B.bytes
  have hr := B.returns
  have hts := atoms_spec (ws := wsX10_areShares) B.pre
  have hown : s.vm.findClass RX10 = some m.cls := findClass_of_methodNamed B.named
  have hlocks := B.notSynchronized
  have hinX10 : ∀ w ∈ wsX100, w ∈ wsX10_areShares := by decide +kernel
  have hl := lv_entry ([.ref h0]) (n := 1) (Nat.le_of_ble_eq_true rfl)
  rw [lg_entry_eq]
  generalize (lg_sl ([.ref h0]) ++ List.replicate (1 - (lg_sl ([.ref h0])).length) Slot.unset).toArray = ls at hl ⊢
  have hl : lv_has ls 1 [(0, .ref h0)] := hl
  have hrun := hm
  rw [fX10_areShares] at hrun
  refine lv_aload_n hx hb dX10_areShares_0 rfl (lv_at hl 0 rfl) ?_
  refine va_get (D := (dC, dI)) (ci := 10) (v := .ref h1) (C := RX10) (T := TX10) (N := 28) hx hb hts hinX10 hown hK hP 0 rfl rfl 12 (by decide) (hts (.fieldLink RX10 37 "WasItOutModel" "shares" "[I") (by decide +kernel)) (fun _ h9 => h9) rfl dX10_areShares_1 ?_
  refine lv_iconst (v := (0 : Int32)) hx hb dX10_areShares_4 (by decide) ?_
  have hi : vp_in (0 : Int32) 4 := ixk (by decide)
  refine va_iald hx hb hK hP 1 0 rfl rfl hi dX10_areShares_5 ?_
  refine lv_aload_n hx hb dX10_areShares_6 rfl (lv_at hl 0 rfl) ?_
  refine va_get (D := (dC, dI)) (ci := 10) (v := .ref h1) (C := RX10) (T := TX10) (N := 28) hx hb hts hinX10 hown hK hP 0 rfl rfl 12 (by decide) (hts (.fieldLink RX10 37 "WasItOutModel" "shares" "[I") (by decide +kernel)) (fun _ h9 => h9) rfl dX10_areShares_7 ?_
  refine lv_iconst (v := (1 : Int32)) hx hb dX10_areShares_10 (by decide) ?_
  have hi : vp_in (1 : Int32) 4 := ixk (by decide)
  refine va_iald hx hb hK hP 1 0 rfl rfl hi dX10_areShares_11 ?_
  refine lv_iadd hx hb dX10_areShares_12 ?_
  refine lv_aload_n hx hb dX10_areShares_13 rfl (lv_at hl 0 rfl) ?_
  refine va_get (D := (dC, dI)) (ci := 10) (v := .ref h1) (C := RX10) (T := TX10) (N := 28) hx hb hts hinX10 hown hK hP 0 rfl rfl 12 (by decide) (hts (.fieldLink RX10 37 "WasItOutModel" "shares" "[I") (by decide +kernel)) (fun _ h9 => h9) rfl dX10_areShares_14 ?_
  refine lv_iconst (v := (2 : Int32)) hx hb dX10_areShares_17 (by decide) ?_
  have hi : vp_in (2 : Int32) 4 := ixk (by decide)
  refine va_iald hx hb hK hP 1 0 rfl rfl hi dX10_areShares_18 ?_
  refine lv_iadd hx hb dX10_areShares_19 ?_
  refine lv_aload_n hx hb dX10_areShares_20 rfl (lv_at hl 0 rfl) ?_
  refine va_get (D := (dC, dI)) (ci := 10) (v := .ref h1) (C := RX10) (T := TX10) (N := 28) hx hb hts hinX10 hown hK hP 0 rfl rfl 12 (by decide) (hts (.fieldLink RX10 37 "WasItOutModel" "shares" "[I") (by decide +kernel)) (fun _ h9 => h9) rfl dX10_areShares_21 ?_
  refine lv_iconst (v := (3 : Int32)) hx hb dX10_areShares_24 (by decide) ?_
  have hi : vp_in (3 : Int32) 4 := ixk (by decide)
  refine va_iald hx hb hK hP 1 0 rfl rfl hi dX10_areShares_25 ?_
  refine lv_iadd hx hb dX10_areShares_26 ?_
  refine lv_bipush (v := (10 : Int32)) hx hb dX10_areShares_27 (by decide) ?_
  refine lv_icmp_ne (tgt := 36) hx hb dX10_areShares_29 (by decide) (fun cc => ?_) (fun cc => ?_)
  · have hrun := oi_t hrun cc
    refine lv_iconst (v := (0 : Int32)) hx hb dX10_areShares_36 (by decide) ?_
    exact W.zret hx hb hr (by rfl) (fun t ht _ => ⟨_, rfl, ⟨Option.some.inj hrun, (by rfl)⟩, ht⟩) (fun _ h => by cases h) dX10_areShares_37
  · have hrun := oi_n hrun cc
    refine lv_iconst (v := (1 : Int32)) hx hb dX10_areShares_32 (by decide) ?_
    refine lv_goto (tgt := 37) hx hb dX10_areShares_33 (by decide) ?_
    exact W.zret hx hb hr (by rfl) (fun t ht _ => ⟨_, rfl, ⟨Option.some.inj hrun, (by rfl)⟩, ht⟩) (fun _ h => by cases h) dX10_areShares_37
set_option maxHeartbeats 4000000 in
set_option maxRecDepth 100000 in
theorem tX10_asked (l : Launch) (dC : Nat → ClassId) (dI : Nat → Nat → Nat) (h0 h1 h2 h3 : Nat) (k1 k2 k3 : ClassId) (g0_length g0_text g0_itemMany g0_items g0_balls g0_outs g0_sightMany g0_sights g0_keptMany g0_cameras g0_callMany g0_calls g0_shares g0_caseMany g0_cases g0_place g0_numbers g0_xs g0_ys g0_zs g0_us g0_vs g0_ws g0_touchTick g0_touchHalf : Value) (N : Nat) (a1 : Int32) (a2 : Int32) (a3 : Int32) (c1 : Nat → Int64) (c2 : Nat → Int32) (c3 : Nat → Int64) (ru : Int64) (hm : fX10_asked N a1 a2 a3 c1 c2 c3 = some ru) : Met l yX10_asked wsX10_asked ({ frames := 0, cells := 0, slots := 0, locals := 0 } : Room) (va_Pc [.ref h0, .int a1, .int a2, .int a3] (fun U => va_P (dC, dI) vwCl [(h0, .inr (10, [g0_length, g0_text, g0_itemMany, g0_items, g0_balls, g0_outs, g0_sightMany, g0_sights, g0_keptMany, g0_cameras, g0_callMany, g0_calls, g0_shares, .ref h2, g0_caseMany, g0_cases, g0_place, g0_numbers, g0_xs, g0_ys, g0_zs, g0_us, g0_vs, g0_ws, g0_touchTick, g0_touchHalf, .ref h1, .ref h3])), (h1, .inl (k1, 9, .inr (.inl c1))), (h2, .inl (k2, 4, .inl c2)), (h3, .inl (k3, 81, .inr (.inl c3)))] U.heap ∧ va_K (dC, dI) vwCl [(k1, .long), (k2, .int), (k3, .long)] U)) (vp_Sl (fun r => r = ru)) 0 0 (fun _ => False) := by
  refine Met.ofW (cc := cX10_asked) (maxL := 4) (ret := (some .long)) (by decide) rfl ?_
  intro p e s m args below meth c s₁ B hml hv
  obtain ⟨rfl, hP, hK⟩ := hv
  have hx := B.exec
  have hb := B.bytes
  have hr := B.returns
  have hts := atoms_spec (ws := wsX10_asked) B.pre
  have hown : s.vm.findClass RX10 = some m.cls := findClass_of_methodNamed B.named
  have hlocks := B.notSynchronized
  have hinX10 : ∀ w ∈ wsX100, w ∈ wsX10_asked := by decide +kernel
  have hl := lv_entry ([.ref h0, .int a1, .int a2, .int a3]) (n := 4) (Nat.le_of_ble_eq_true rfl)
  rw [lg_entry_eq]
  generalize (lg_sl ([.ref h0, .int a1, .int a2, .int a3]) ++ List.replicate (4 - (lg_sl ([.ref h0, .int a1, .int a2, .int a3])).length) Slot.unset).toArray = ls at hl ⊢
  have hl : lv_has ls 4 [(0, .ref h0), (1, .int a1), (2, .int a2), (3, .int a3)] := hl
  have hrun := hm
  rw [fX10_asked] at hrun
  refine lv_aload_n hx hb dX10_asked_0 rfl (lv_at hl 0 rfl) ?_
  refine va_get (D := (dC, dI)) (ci := 10) (v := .ref h2) (C := RX10) (T := TX10) (N := 28) hx hb hts hinX10 hown hK hP 0 rfl rfl 13 (by decide) (hts (.fieldLink RX10 40 "WasItOutModel" "rights" "[I") (by decide +kernel)) (fun _ h9 => h9) rfl dX10_asked_1 ?_
  refine lv_iload_n hx hb dX10_asked_4 rfl (lv_at hl 3 rfl) ?_
  obtain ⟨hi, hrun⟩ := oi_x hrun
  refine va_iald hx hb hK hP 2 1 rfl rfl hi dX10_asked_5 ?_
  refine lv_i2l (v := (c2 a3.toNatClampNeg).toInt64) hx hb dX10_asked_6 rfl ?_
  refine lv_aload_n hx hb dX10_asked_7 rfl (lv_at hl 0 rfl) ?_
  refine va_get (D := (dC, dI)) (ci := 10) (v := .ref h1) (C := RX10) (T := TX10) (N := 28) hx hb hts hinX10 hown hK hP 0 rfl rfl 26 (by decide) (hts (.fieldLink RX10 67 "WasItOutModel" "powers" "[J") (by decide +kernel)) (fun _ h9 => h9) rfl dX10_asked_8 ?_
  refine lv_iload_n hx hb dX10_asked_11 rfl (lv_at hl 1 rfl) ?_
  obtain ⟨hi, hrun⟩ := oi_x hrun
  refine va_lald hx hb hK hP 1 0 rfl rfl hi dX10_asked_12 ?_
  refine lv_aload_n hx hb dX10_asked_13 rfl (lv_at hl 0 rfl) ?_
  refine va_get (D := (dC, dI)) (ci := 10) (v := .ref h3) (C := RX10) (T := TX10) (N := 28) hx hb hts hinX10 hown hK hP 0 rfl rfl 27 (by decide) (hts (.fieldLink RX10 71 "WasItOutModel" "worths" "[J") (by decide +kernel)) (fun _ h9 => h9) rfl dX10_asked_14 ?_
  refine lv_bipush (v := (9 : Int32)) hx hb dX10_asked_17 (by decide) ?_
  refine lv_iload_n hx hb dX10_asked_19 rfl (lv_at hl 1 rfl) ?_
  refine lv_imul hx hb dX10_asked_20 ?_
  refine lv_iload_n hx hb dX10_asked_21 rfl (lv_at hl 2 rfl) ?_
  refine lv_iadd hx hb dX10_asked_22 ?_
  obtain ⟨hi, hrun⟩ := oi_x hrun
  refine va_lald hx hb hK hP 3 2 rfl rfl hi dX10_asked_23 ?_
  refine lv_ladd hx hb dX10_asked_24 ?_
  refine lv_lmul hx hb dX10_asked_25 ?_
  refine lv_ldc2 (v := (10 : Int64)) hx hb hown (hts (.constantLong RX10 168 (10 : Int64)) (by decide +kernel)) dX10_asked_26 ?_
  refine lv_aload_n hx hb dX10_asked_29 rfl (lv_at hl 0 rfl) ?_
  refine va_get (D := (dC, dI)) (ci := 10) (v := .ref h2) (C := RX10) (T := TX10) (N := 28) hx hb hts hinX10 hown hK hP 0 rfl rfl 13 (by decide) (hts (.fieldLink RX10 40 "WasItOutModel" "rights" "[I") (by decide +kernel)) (fun _ h9 => h9) rfl dX10_asked_30 ?_
  refine lv_iload_n hx hb dX10_asked_33 rfl (lv_at hl 3 rfl) ?_
  obtain ⟨hi, hrun⟩ := oi_x hrun
  refine va_iald hx hb hK hP 2 1 rfl rfl hi dX10_asked_34 ?_
  refine lv_i2l (v := (c2 a3.toNatClampNeg).toInt64) hx hb dX10_asked_35 rfl ?_
  refine lv_lsub hx hb dX10_asked_36 ?_
  refine lv_aload_n hx hb dX10_asked_37 rfl (lv_at hl 0 rfl) ?_
  refine va_get (D := (dC, dI)) (ci := 10) (v := .ref h3) (C := RX10) (T := TX10) (N := 28) hx hb hts hinX10 hown hK hP 0 rfl rfl 27 (by decide) (hts (.fieldLink RX10 71 "WasItOutModel" "worths" "[J") (by decide +kernel)) (fun _ h9 => h9) rfl dX10_asked_38 ?_
  refine lv_bipush (v := (9 : Int32)) hx hb dX10_asked_41 (by decide) ?_
  refine lv_iload_n hx hb dX10_asked_43 rfl (lv_at hl 1 rfl) ?_
  refine lv_imul hx hb dX10_asked_44 ?_
  refine lv_iload_n hx hb dX10_asked_45 rfl (lv_at hl 2 rfl) ?_
  refine lv_iadd hx hb dX10_asked_46 ?_
  refine lv_iconst (v := (1 : Int32)) hx hb dX10_asked_47 (by decide) ?_
  refine lv_isub hx hb dX10_asked_48 ?_
  obtain ⟨hi, hrun⟩ := oi_x hrun
  refine va_lald hx hb hK hP 3 2 rfl rfl hi dX10_asked_49 ?_
  refine lv_lmul hx hb dX10_asked_50 ?_
  refine lv_ladd hx hb dX10_asked_51 ?_
  exact W.lret hx hb hr (fun t ht _ => ⟨_, rfl, Option.some.inj hrun, ht⟩) (fun _ h => by cases h) dX10_asked_52
set_option maxHeartbeats 4000000 in
set_option maxRecDepth 100000 in
theorem tX10_copy (l : Launch) (dC : Nat → ClassId) (dI : Nat → Nat → Nat) (sz : Nat) (h0 h1 h2 h3 h4 : Nat) (k1 k2 k3 k4 : ClassId) (g0_length g0_text g0_itemMany g0_items g0_keptMany g0_cameras g0_callMany g0_calls g0_shares g0_rights g0_caseMany g0_cases g0_place g0_numbers g0_xs g0_ys g0_zs g0_us g0_vs g0_ws g0_touchTick g0_touchHalf g0_powers g0_worths : Value) (N : Nat) (a1 : Int32) (a2 : Int32) (c1 : Nat → Int32) (c2 : Nat → Int32) (c3 : Nat → Int32) (c4 : Nat → Int32) (ru : (Nat → Int32) × (Nat → Int32) × (Nat → Int32) × (Nat → Int32)) (hm : fX10_copy N a1 a2 c1 c2 c3 c4 = some ru) : Met l yX10_copy wsX10_copy ({ frames := 0, cells := 0, slots := 0, locals := 0 } : Room) (va_Pc [.ref h0, .int a1, .int a2] (fun U => U.heap.size = sz ∧ va_P (dC, dI) vwCl [(h0, .inr (10, [g0_length, g0_text, g0_itemMany, g0_items, .ref h1, .ref h2, .ref h3, .ref h4, g0_keptMany, g0_cameras, g0_callMany, g0_calls, g0_shares, g0_rights, g0_caseMany, g0_cases, g0_place, g0_numbers, g0_xs, g0_ys, g0_zs, g0_us, g0_vs, g0_ws, g0_touchTick, g0_touchHalf, g0_powers, g0_worths])), (h1, .inl (k1, 18, .inl c1)), (h2, .inl (k2, 3, .inl c2)), (h3, .inl (k3, 3, .inl c3)), (h4, .inl (k4, 540, .inl c4))] U.heap ∧ va_K (dC, dI) vwCl [(k1, .int), (k2, .int), (k3, .int), (k4, .int)] U ∧ va_D (fun _ => True) [(h0, .inr (10, [g0_length, g0_text, g0_itemMany, g0_items, .ref h1, .ref h2, .ref h3, .ref h4, g0_keptMany, g0_cameras, g0_callMany, g0_calls, g0_shares, g0_rights, g0_caseMany, g0_cases, g0_place, g0_numbers, g0_xs, g0_ys, g0_zs, g0_us, g0_vs, g0_ws, g0_touchTick, g0_touchHalf, g0_powers, g0_worths])), (h1, .inl (k1, 18, .inl c1)), (h2, .inl (k2, 3, .inl c2)), (h3, .inl (k3, 3, .inl c3)), (h4, .inl (k4, 540, .inl c4))])) (va_Qv (fun (_ : Unit) => True) (fun (_ : Unit) t => va_P (dC, dI) vwCl [(h0, .inr (10, [g0_length, g0_text, g0_itemMany, g0_items, .ref h1, .ref h2, .ref h3, .ref h4, g0_keptMany, g0_cameras, g0_callMany, g0_calls, g0_shares, g0_rights, g0_caseMany, g0_cases, g0_place, g0_numbers, g0_xs, g0_ys, g0_zs, g0_us, g0_vs, g0_ws, g0_touchTick, g0_touchHalf, g0_powers, g0_worths])), (h1, .inl (k1, 18, .inl ru.1)), (h2, .inl (k2, 3, .inl ru.2.1)), (h3, .inl (k3, 3, .inl ru.2.2.1)), (h4, .inl (k4, 540, .inl ru.2.2.2))] t.heap ∧ va_K (dC, dI) vwCl [(k1, .int), (k2, .int), (k3, .int), (k4, .int)] t ∧ va_D (va_A [(h0, .inr (10, [g0_length, g0_text, g0_itemMany, g0_items, .ref h1, .ref h2, .ref h3, .ref h4, g0_keptMany, g0_cameras, g0_callMany, g0_calls, g0_shares, g0_rights, g0_caseMany, g0_cases, g0_place, g0_numbers, g0_xs, g0_ys, g0_zs, g0_us, g0_vs, g0_ws, g0_touchTick, g0_touchHalf, g0_powers, g0_worths])), (h1, .inl (k1, 18, .inl c1)), (h2, .inl (k2, 3, .inl c2)), (h3, .inl (k3, 3, .inl c3)), (h4, .inl (k4, 540, .inl c4))] sz) [(h0, .inr (10, [g0_length, g0_text, g0_itemMany, g0_items, .ref h1, .ref h2, .ref h3, .ref h4, g0_keptMany, g0_cameras, g0_callMany, g0_calls, g0_shares, g0_rights, g0_caseMany, g0_cases, g0_place, g0_numbers, g0_xs, g0_ys, g0_zs, g0_us, g0_vs, g0_ws, g0_touchTick, g0_touchHalf, g0_powers, g0_worths])), (h1, .inl (k1, 18, .inl ru.1)), (h2, .inl (k2, 3, .inl ru.2.1)), (h3, .inl (k3, 3, .inl ru.2.2.1)), (h4, .inl (k4, 540, .inl ru.2.2.2))]) (va_A [(h0, .inr (10, [g0_length, g0_text, g0_itemMany, g0_items, .ref h1, .ref h2, .ref h3, .ref h4, g0_keptMany, g0_cameras, g0_callMany, g0_calls, g0_shares, g0_rights, g0_caseMany, g0_cases, g0_place, g0_numbers, g0_xs, g0_ys, g0_zs, g0_us, g0_vs, g0_ws, g0_touchTick, g0_touchHalf, g0_powers, g0_worths])), (h1, .inl (k1, 18, .inl c1)), (h2, .inl (k2, 3, .inl c2)), (h3, .inl (k3, 3, .inl c3)), (h4, .inl (k4, 540, .inl c4))] sz)) 0 0 (va_A [(h0, .inr (10, [g0_length, g0_text, g0_itemMany, g0_items, .ref h1, .ref h2, .ref h3, .ref h4, g0_keptMany, g0_cameras, g0_callMany, g0_calls, g0_shares, g0_rights, g0_caseMany, g0_cases, g0_place, g0_numbers, g0_xs, g0_ys, g0_zs, g0_us, g0_vs, g0_ws, g0_touchTick, g0_touchHalf, g0_powers, g0_worths])), (h1, .inl (k1, 18, .inl c1)), (h2, .inl (k2, 3, .inl c2)), (h3, .inl (k3, 3, .inl c3)), (h4, .inl (k4, 540, .inl c4))] sz) := by
  refine Met.ofW (cc := cX10_copy) (maxL := 4) (ret := none) (by decide) rfl ?_
  intro p e s m args below meth c s₁ B hml hv
  obtain ⟨rfl, hsz, hP, hK, hD0⟩ := hv
  have hx := B.exec
  have hb := B.bytes
  have hr := B.returns
  have hts := atoms_spec (ws := wsX10_copy) B.pre
  have hown : s.vm.findClass RX10 = some m.cls := findClass_of_methodNamed B.named
  have hlocks := B.notSynchronized
  subst hsz
  have hD := hD0.self (sz := s.heap.size)
  generalize hAe : va_A [(h0, .inr (10, [g0_length, g0_text, g0_itemMany, g0_items, .ref h1, .ref h2, .ref h3, .ref h4, g0_keptMany, g0_cameras, g0_callMany, g0_calls, g0_shares, g0_rights, g0_caseMany, g0_cases, g0_place, g0_numbers, g0_xs, g0_ys, g0_zs, g0_us, g0_vs, g0_ws, g0_touchTick, g0_touchHalf, g0_powers, g0_worths])), (h1, .inl (k1, 18, .inl c1)), (h2, .inl (k2, 3, .inl c2)), (h3, .inl (k3, 3, .inl c3)), (h4, .inl (k4, 540, .inl c4))] s.heap.size = A at hD ⊢
  have hA : ∀ q : Nat, s.heap.size ≤ q → A q := fun q h => by rw [← hAe]; exact Or.inr h
  have hS : va_S A s.heap s.heap [] := va_S.rf
  have hinX10 : ∀ w ∈ wsX100, w ∈ wsX10_copy := by decide +kernel
  have hl := lv_entry ([.ref h0, .int a1, .int a2]) (n := 4) (Nat.le_of_ble_eq_true rfl)
  rw [lg_entry_eq]
  generalize (lg_sl ([.ref h0, .int a1, .int a2]) ++ List.replicate (4 - (lg_sl ([.ref h0, .int a1, .int a2])).length) Slot.unset).toArray = ls at hl ⊢
  have hl : lv_has ls 4 [(0, .ref h0), (1, .int a1), (2, .int a2)] := hl
  have hrun := hm
  rw [fX10_copy] at hrun
  obtain ⟨H, hHe⟩ : ∃ H, H = s.heap := ⟨_, rfl⟩
  obtain ⟨locs, hLe⟩ : ∃ locs : List Loc, locs = [] := ⟨_, rfl⟩
  rw [← hHe] at hP
  have hS : va_S A s.heap H locs := by rw [hHe, hLe]; exact hS
  have key : W p l e (headSpec wsX10_copy ({ frames := 0, cells := 0, slots := 0, locals := 0 } : Room)).room s m ([.ref h0, .int a1, .int a2] : List Value).toArray below meth c H locs 0 0 (MQ below (va_Qv (fun (_ : Unit) => True) (fun (_ : Unit) t => va_P (dC, dI) vwCl [(h0, .inr (10, [g0_length, g0_text, g0_itemMany, g0_items, .ref h1, .ref h2, .ref h3, .ref h4, g0_keptMany, g0_cameras, g0_callMany, g0_calls, g0_shares, g0_rights, g0_caseMany, g0_cases, g0_place, g0_numbers, g0_xs, g0_ys, g0_zs, g0_us, g0_vs, g0_ws, g0_touchTick, g0_touchHalf, g0_powers, g0_worths])), (h1, .inl (k1, 18, .inl ru.1)), (h2, .inl (k2, 3, .inl ru.2.1)), (h3, .inl (k3, 3, .inl ru.2.2.1)), (h4, .inl (k4, 540, .inl ru.2.2.2))] t.heap ∧ va_K (dC, dI) vwCl [(k1, .int), (k2, .int), (k3, .int), (k4, .int)] t ∧ va_D A [(h0, .inr (10, [g0_length, g0_text, g0_itemMany, g0_items, .ref h1, .ref h2, .ref h3, .ref h4, g0_keptMany, g0_cameras, g0_callMany, g0_calls, g0_shares, g0_rights, g0_caseMany, g0_cases, g0_place, g0_numbers, g0_xs, g0_ys, g0_zs, g0_us, g0_vs, g0_ws, g0_touchTick, g0_touchHalf, g0_powers, g0_worths])), (h1, .inl (k1, 18, .inl ru.1)), (h2, .inl (k2, 3, .inl ru.2.1)), (h3, .inl (k3, 3, .inl ru.2.2.1)), (h4, .inl (k4, 540, .inl ru.2.2.2))]) A) ([.ref h0, .int a1, .int a2] : List Value).toArray s 0 0 A) (F0 m 0 ls []) := by
    clear hHe hLe
    refine lv_iconst (v := (0 : Int32)) hx hb dX10_copy_0 (by decide) ?_
    refine lv_istore_n (lv' := [(3, .int (0 : Int32)), (0, .ref h0), (1, .int a1), (2, .int a2)]) hx hb dX10_copy_1 rfl hl (by decide) rfl (fun ls hl => ?_)
    obtain ⟨k36, ek36, hrun⟩ := jn_e hrun
    have J36 : ∀ (c1_36 : Nat → Int32) (ls : Array Slot) (H : Heap) (locs : List Loc), k36 c1_36 = some ru → va_P (dC, dI) vwCl [(h0, .inr (10, [g0_length, g0_text, g0_itemMany, g0_items, .ref h1, .ref h2, .ref h3, .ref h4, g0_keptMany, g0_cameras, g0_callMany, g0_calls, g0_shares, g0_rights, g0_caseMany, g0_cases, g0_place, g0_numbers, g0_xs, g0_ys, g0_zs, g0_us, g0_vs, g0_ws, g0_touchTick, g0_touchHalf, g0_powers, g0_worths])), (h1, .inl (k1, 18, .inl c1_36)), (h2, .inl (k2, 3, .inl c2)), (h3, .inl (k3, 3, .inl c3)), (h4, .inl (k4, 540, .inl c4))] H → va_D A [(h0, .inr (10, [g0_length, g0_text, g0_itemMany, g0_items, .ref h1, .ref h2, .ref h3, .ref h4, g0_keptMany, g0_cameras, g0_callMany, g0_calls, g0_shares, g0_rights, g0_caseMany, g0_cases, g0_place, g0_numbers, g0_xs, g0_ys, g0_zs, g0_us, g0_vs, g0_ws, g0_touchTick, g0_touchHalf, g0_powers, g0_worths])), (h1, .inl (k1, 18, .inl c1_36)), (h2, .inl (k2, 3, .inl c2)), (h3, .inl (k3, 3, .inl c3)), (h4, .inl (k4, 540, .inl c4))] → va_S A s.heap H locs → lv_has ls 4 [(0, .ref h0), (1, .int a1), (2, .int a2)] → W p l e (headSpec wsX10_copy ({ frames := 0, cells := 0, slots := 0, locals := 0 } : Room)).room s m ([.ref h0, .int a1, .int a2] : List Value).toArray below meth c H locs 0 0 (MQ below (va_Qv (fun (_ : Unit) => True) (fun (_ : Unit) t => va_P (dC, dI) vwCl [(h0, .inr (10, [g0_length, g0_text, g0_itemMany, g0_items, .ref h1, .ref h2, .ref h3, .ref h4, g0_keptMany, g0_cameras, g0_callMany, g0_calls, g0_shares, g0_rights, g0_caseMany, g0_cases, g0_place, g0_numbers, g0_xs, g0_ys, g0_zs, g0_us, g0_vs, g0_ws, g0_touchTick, g0_touchHalf, g0_powers, g0_worths])), (h1, .inl (k1, 18, .inl ru.1)), (h2, .inl (k2, 3, .inl ru.2.1)), (h3, .inl (k3, 3, .inl ru.2.2.1)), (h4, .inl (k4, 540, .inl ru.2.2.2))] t.heap ∧ va_K (dC, dI) vwCl [(k1, .int), (k2, .int), (k3, .int), (k4, .int)] t ∧ va_D A [(h0, .inr (10, [g0_length, g0_text, g0_itemMany, g0_items, .ref h1, .ref h2, .ref h3, .ref h4, g0_keptMany, g0_cameras, g0_callMany, g0_calls, g0_shares, g0_rights, g0_caseMany, g0_cases, g0_place, g0_numbers, g0_xs, g0_ys, g0_zs, g0_us, g0_vs, g0_ws, g0_touchTick, g0_touchHalf, g0_powers, g0_worths])), (h1, .inl (k1, 18, .inl ru.1)), (h2, .inl (k2, 3, .inl ru.2.1)), (h3, .inl (k3, 3, .inl ru.2.2.1)), (h4, .inl (k4, 540, .inl ru.2.2.2))]) A) ([.ref h0, .int a1, .int a2] : List Value).toArray s 0 0 A) (F0 m 36 ls []) := by
      intro c1_36 ls H locs hrun hP hD hS hl
      rw [ek36] at hrun
      refine lv_aload_n hx hb dX10_copy_36 rfl (lv_at hl 0 rfl) ?_
      refine va_get (D := (dC, dI)) (ci := 10) (v := .ref h2) (C := RX10) (T := TX10) (N := 28) hx hb hts hinX10 hown hK hP 0 rfl rfl 5 (by decide) (hts (.fieldLink RX10 22 "WasItOutModel" "outs" "[I") (by decide +kernel)) (fun _ h9 => h9) rfl dX10_copy_37 ?_
      refine lv_iload_n hx hb dX10_copy_40 rfl (lv_at hl 2 rfl) ?_
      refine lv_aload_n hx hb dX10_copy_41 rfl (lv_at hl 0 rfl) ?_
      refine va_get (D := (dC, dI)) (ci := 10) (v := .ref h2) (C := RX10) (T := TX10) (N := 28) hx hb hts hinX10 hown hK hP 0 rfl rfl 5 (by decide) (hts (.fieldLink RX10 22 "WasItOutModel" "outs" "[I") (by decide +kernel)) (fun _ h9 => h9) rfl dX10_copy_42 ?_
      refine lv_iload_n hx hb dX10_copy_45 rfl (lv_at hl 1 rfl) ?_
      obtain ⟨hi, hrun⟩ := oi_x hrun
      refine va_iald hx hb hK hP 2 1 rfl rfl hi dX10_copy_46 ?_
      obtain ⟨hi, hrun⟩ := oi_x hrun
      refine va_iast hx hb hK hP hD hS 2 1 rfl rfl hi dX10_copy_47 (fun H locs hP hD hS => ?_)
      have hP : va_P (dC, dI) vwCl [(h0, .inr (10, [g0_length, g0_text, g0_itemMany, g0_items, .ref h1, .ref h2, .ref h3, .ref h4, g0_keptMany, g0_cameras, g0_callMany, g0_calls, g0_shares, g0_rights, g0_caseMany, g0_cases, g0_place, g0_numbers, g0_xs, g0_ys, g0_zs, g0_us, g0_vs, g0_ws, g0_touchTick, g0_touchHalf, g0_powers, g0_worths])), (h1, .inl (k1, 18, .inl c1_36)), (h2, .inl (k2, 3, .inl (upd c2 a2.toNatClampNeg (c2 a1.toNatClampNeg)))), (h3, .inl (k3, 3, .inl c3)), (h4, .inl (k4, 540, .inl c4))] H := hP
      have hD : va_D A [(h0, .inr (10, [g0_length, g0_text, g0_itemMany, g0_items, .ref h1, .ref h2, .ref h3, .ref h4, g0_keptMany, g0_cameras, g0_callMany, g0_calls, g0_shares, g0_rights, g0_caseMany, g0_cases, g0_place, g0_numbers, g0_xs, g0_ys, g0_zs, g0_us, g0_vs, g0_ws, g0_touchTick, g0_touchHalf, g0_powers, g0_worths])), (h1, .inl (k1, 18, .inl c1_36)), (h2, .inl (k2, 3, .inl (upd c2 a2.toNatClampNeg (c2 a1.toNatClampNeg)))), (h3, .inl (k3, 3, .inl c3)), (h4, .inl (k4, 540, .inl c4))] := hD
      refine lv_aload_n hx hb dX10_copy_48 rfl (lv_at hl 0 rfl) ?_
      refine va_get (D := (dC, dI)) (ci := 10) (v := .ref h3) (C := RX10) (T := TX10) (N := 28) hx hb hts hinX10 hown hK hP 0 rfl rfl 6 (by decide) (hts (.fieldLink RX10 25 "WasItOutModel" "sightMany" "[I") (by decide +kernel)) (fun _ h9 => h9) rfl dX10_copy_49 ?_
      refine lv_iload_n hx hb dX10_copy_52 rfl (lv_at hl 2 rfl) ?_
      refine lv_aload_n hx hb dX10_copy_53 rfl (lv_at hl 0 rfl) ?_
      refine va_get (D := (dC, dI)) (ci := 10) (v := .ref h3) (C := RX10) (T := TX10) (N := 28) hx hb hts hinX10 hown hK hP 0 rfl rfl 6 (by decide) (hts (.fieldLink RX10 25 "WasItOutModel" "sightMany" "[I") (by decide +kernel)) (fun _ h9 => h9) rfl dX10_copy_54 ?_
      refine lv_iload_n hx hb dX10_copy_57 rfl (lv_at hl 1 rfl) ?_
      obtain ⟨hi, hrun⟩ := oi_x hrun
      refine va_iald hx hb hK hP 3 2 rfl rfl hi dX10_copy_58 ?_
      obtain ⟨hi, hrun⟩ := oi_x hrun
      refine va_iast hx hb hK hP hD hS 3 2 rfl rfl hi dX10_copy_59 (fun H locs hP hD hS => ?_)
      have hP : va_P (dC, dI) vwCl [(h0, .inr (10, [g0_length, g0_text, g0_itemMany, g0_items, .ref h1, .ref h2, .ref h3, .ref h4, g0_keptMany, g0_cameras, g0_callMany, g0_calls, g0_shares, g0_rights, g0_caseMany, g0_cases, g0_place, g0_numbers, g0_xs, g0_ys, g0_zs, g0_us, g0_vs, g0_ws, g0_touchTick, g0_touchHalf, g0_powers, g0_worths])), (h1, .inl (k1, 18, .inl c1_36)), (h2, .inl (k2, 3, .inl (upd c2 a2.toNatClampNeg (c2 a1.toNatClampNeg)))), (h3, .inl (k3, 3, .inl (upd c3 a2.toNatClampNeg (c3 a1.toNatClampNeg)))), (h4, .inl (k4, 540, .inl c4))] H := hP
      have hD : va_D A [(h0, .inr (10, [g0_length, g0_text, g0_itemMany, g0_items, .ref h1, .ref h2, .ref h3, .ref h4, g0_keptMany, g0_cameras, g0_callMany, g0_calls, g0_shares, g0_rights, g0_caseMany, g0_cases, g0_place, g0_numbers, g0_xs, g0_ys, g0_zs, g0_us, g0_vs, g0_ws, g0_touchTick, g0_touchHalf, g0_powers, g0_worths])), (h1, .inl (k1, 18, .inl c1_36)), (h2, .inl (k2, 3, .inl (upd c2 a2.toNatClampNeg (c2 a1.toNatClampNeg)))), (h3, .inl (k3, 3, .inl (upd c3 a2.toNatClampNeg (c3 a1.toNatClampNeg)))), (h4, .inl (k4, 540, .inl c4))] := hD
      refine lv_iconst (v := (0 : Int32)) hx hb dX10_copy_60 (by decide) ?_
      refine lv_istore_n (lv' := [(3, .int (0 : Int32)), (0, .ref h0), (1, .int a1), (2, .int a2)]) hx hb dX10_copy_61 rfl hl (by decide) rfl (fun ls hl => ?_)
      obtain ⟨k99, ek99, hrun⟩ := jn_e hrun
      have J99 : ∀ (c4_99 : Nat → Int32) (ls : Array Slot) (H : Heap) (locs : List Loc), k99 c4_99 = some ru → va_P (dC, dI) vwCl [(h0, .inr (10, [g0_length, g0_text, g0_itemMany, g0_items, .ref h1, .ref h2, .ref h3, .ref h4, g0_keptMany, g0_cameras, g0_callMany, g0_calls, g0_shares, g0_rights, g0_caseMany, g0_cases, g0_place, g0_numbers, g0_xs, g0_ys, g0_zs, g0_us, g0_vs, g0_ws, g0_touchTick, g0_touchHalf, g0_powers, g0_worths])), (h1, .inl (k1, 18, .inl c1_36)), (h2, .inl (k2, 3, .inl (upd c2 a2.toNatClampNeg (c2 a1.toNatClampNeg)))), (h3, .inl (k3, 3, .inl (upd c3 a2.toNatClampNeg (c3 a1.toNatClampNeg)))), (h4, .inl (k4, 540, .inl c4_99))] H → va_D A [(h0, .inr (10, [g0_length, g0_text, g0_itemMany, g0_items, .ref h1, .ref h2, .ref h3, .ref h4, g0_keptMany, g0_cameras, g0_callMany, g0_calls, g0_shares, g0_rights, g0_caseMany, g0_cases, g0_place, g0_numbers, g0_xs, g0_ys, g0_zs, g0_us, g0_vs, g0_ws, g0_touchTick, g0_touchHalf, g0_powers, g0_worths])), (h1, .inl (k1, 18, .inl c1_36)), (h2, .inl (k2, 3, .inl (upd c2 a2.toNatClampNeg (c2 a1.toNatClampNeg)))), (h3, .inl (k3, 3, .inl (upd c3 a2.toNatClampNeg (c3 a1.toNatClampNeg)))), (h4, .inl (k4, 540, .inl c4_99))] → va_S A s.heap H locs → lv_has ls 4 [] → W p l e (headSpec wsX10_copy ({ frames := 0, cells := 0, slots := 0, locals := 0 } : Room)).room s m ([.ref h0, .int a1, .int a2] : List Value).toArray below meth c H locs 0 0 (MQ below (va_Qv (fun (_ : Unit) => True) (fun (_ : Unit) t => va_P (dC, dI) vwCl [(h0, .inr (10, [g0_length, g0_text, g0_itemMany, g0_items, .ref h1, .ref h2, .ref h3, .ref h4, g0_keptMany, g0_cameras, g0_callMany, g0_calls, g0_shares, g0_rights, g0_caseMany, g0_cases, g0_place, g0_numbers, g0_xs, g0_ys, g0_zs, g0_us, g0_vs, g0_ws, g0_touchTick, g0_touchHalf, g0_powers, g0_worths])), (h1, .inl (k1, 18, .inl ru.1)), (h2, .inl (k2, 3, .inl ru.2.1)), (h3, .inl (k3, 3, .inl ru.2.2.1)), (h4, .inl (k4, 540, .inl ru.2.2.2))] t.heap ∧ va_K (dC, dI) vwCl [(k1, .int), (k2, .int), (k3, .int), (k4, .int)] t ∧ va_D A [(h0, .inr (10, [g0_length, g0_text, g0_itemMany, g0_items, .ref h1, .ref h2, .ref h3, .ref h4, g0_keptMany, g0_cameras, g0_callMany, g0_calls, g0_shares, g0_rights, g0_caseMany, g0_cases, g0_place, g0_numbers, g0_xs, g0_ys, g0_zs, g0_us, g0_vs, g0_ws, g0_touchTick, g0_touchHalf, g0_powers, g0_worths])), (h1, .inl (k1, 18, .inl ru.1)), (h2, .inl (k2, 3, .inl ru.2.1)), (h3, .inl (k3, 3, .inl ru.2.2.1)), (h4, .inl (k4, 540, .inl ru.2.2.2))]) A) ([.ref h0, .int a1, .int a2] : List Value).toArray s 0 0 A) (F0 m 99 ls []) := by
        intro c4_99 ls H locs hrun hP hD hS hl
        rw [ek99] at hrun
        cases hrun
        have hP9 : va_P (dC, dI) vwCl [(h0, .inr (10, [g0_length, g0_text, g0_itemMany, g0_items, .ref h1, .ref h2, .ref h3, .ref h4, g0_keptMany, g0_cameras, g0_callMany, g0_calls, g0_shares, g0_rights, g0_caseMany, g0_cases, g0_place, g0_numbers, g0_xs, g0_ys, g0_zs, g0_us, g0_vs, g0_ws, g0_touchTick, g0_touchHalf, g0_powers, g0_worths])), (h1, .inl (k1, 18, .inl c1_36)), (h2, .inl (k2, 3, .inl (upd c2 a2.toNatClampNeg (c2 a1.toNatClampNeg)))), (h3, .inl (k3, 3, .inl (upd c3 a2.toNatClampNeg (c3 a1.toNatClampNeg)))), (h4, .inl (k4, 540, .inl c4_99))] H := hP
        have hD9 : va_D A [(h0, .inr (10, [g0_length, g0_text, g0_itemMany, g0_items, .ref h1, .ref h2, .ref h3, .ref h4, g0_keptMany, g0_cameras, g0_callMany, g0_calls, g0_shares, g0_rights, g0_caseMany, g0_cases, g0_place, g0_numbers, g0_xs, g0_ys, g0_zs, g0_us, g0_vs, g0_ws, g0_touchTick, g0_touchHalf, g0_powers, g0_worths])), (h1, .inl (k1, 18, .inl c1_36)), (h2, .inl (k2, 3, .inl (upd c2 a2.toNatClampNeg (c2 a1.toNatClampNeg)))), (h3, .inl (k3, 3, .inl (upd c3 a2.toNatClampNeg (c3 a1.toNatClampNeg)))), (h4, .inl (k4, 540, .inl c4_99))] := hD
        exact W.vret hx hb hr (fun t ht hW => ⟨⟨(), rfl, trivial, by rw [ht]; exact hP9, va_K.moved hW.alike hK, hD9⟩, hS.F ht⟩) hS.2.2 dX10_copy_99
      have L62 : ∀ (n : Nat) (x3_62 : Int32) (c4_62 : Nat → Int32) (ls : Array Slot) (H : Heap) (locs : List Loc), fX10_copy_p62 N a1 a2 k99 n x3_62 c4_62 = some ru → va_P (dC, dI) vwCl [(h0, .inr (10, [g0_length, g0_text, g0_itemMany, g0_items, .ref h1, .ref h2, .ref h3, .ref h4, g0_keptMany, g0_cameras, g0_callMany, g0_calls, g0_shares, g0_rights, g0_caseMany, g0_cases, g0_place, g0_numbers, g0_xs, g0_ys, g0_zs, g0_us, g0_vs, g0_ws, g0_touchTick, g0_touchHalf, g0_powers, g0_worths])), (h1, .inl (k1, 18, .inl c1_36)), (h2, .inl (k2, 3, .inl (upd c2 a2.toNatClampNeg (c2 a1.toNatClampNeg)))), (h3, .inl (k3, 3, .inl (upd c3 a2.toNatClampNeg (c3 a1.toNatClampNeg)))), (h4, .inl (k4, 540, .inl c4_62))] H → va_D A [(h0, .inr (10, [g0_length, g0_text, g0_itemMany, g0_items, .ref h1, .ref h2, .ref h3, .ref h4, g0_keptMany, g0_cameras, g0_callMany, g0_calls, g0_shares, g0_rights, g0_caseMany, g0_cases, g0_place, g0_numbers, g0_xs, g0_ys, g0_zs, g0_us, g0_vs, g0_ws, g0_touchTick, g0_touchHalf, g0_powers, g0_worths])), (h1, .inl (k1, 18, .inl c1_36)), (h2, .inl (k2, 3, .inl (upd c2 a2.toNatClampNeg (c2 a1.toNatClampNeg)))), (h3, .inl (k3, 3, .inl (upd c3 a2.toNatClampNeg (c3 a1.toNatClampNeg)))), (h4, .inl (k4, 540, .inl c4_62))] → va_S A s.heap H locs → lv_has ls 4 [(0, .ref h0), (1, .int a1), (2, .int a2), (3, .int x3_62)] → W p l e (headSpec wsX10_copy ({ frames := 0, cells := 0, slots := 0, locals := 0 } : Room)).room s m ([.ref h0, .int a1, .int a2] : List Value).toArray below meth c H locs 0 0 (MQ below (va_Qv (fun (_ : Unit) => True) (fun (_ : Unit) t => va_P (dC, dI) vwCl [(h0, .inr (10, [g0_length, g0_text, g0_itemMany, g0_items, .ref h1, .ref h2, .ref h3, .ref h4, g0_keptMany, g0_cameras, g0_callMany, g0_calls, g0_shares, g0_rights, g0_caseMany, g0_cases, g0_place, g0_numbers, g0_xs, g0_ys, g0_zs, g0_us, g0_vs, g0_ws, g0_touchTick, g0_touchHalf, g0_powers, g0_worths])), (h1, .inl (k1, 18, .inl ru.1)), (h2, .inl (k2, 3, .inl ru.2.1)), (h3, .inl (k3, 3, .inl ru.2.2.1)), (h4, .inl (k4, 540, .inl ru.2.2.2))] t.heap ∧ va_K (dC, dI) vwCl [(k1, .int), (k2, .int), (k3, .int), (k4, .int)] t ∧ va_D A [(h0, .inr (10, [g0_length, g0_text, g0_itemMany, g0_items, .ref h1, .ref h2, .ref h3, .ref h4, g0_keptMany, g0_cameras, g0_callMany, g0_calls, g0_shares, g0_rights, g0_caseMany, g0_cases, g0_place, g0_numbers, g0_xs, g0_ys, g0_zs, g0_us, g0_vs, g0_ws, g0_touchTick, g0_touchHalf, g0_powers, g0_worths])), (h1, .inl (k1, 18, .inl ru.1)), (h2, .inl (k2, 3, .inl ru.2.1)), (h3, .inl (k3, 3, .inl ru.2.2.1)), (h4, .inl (k4, 540, .inl ru.2.2.2))]) A) ([.ref h0, .int a1, .int a2] : List Value).toArray s 0 0 A) (F0 m 62 ls []) := by
        intro n
        induction n with
        | zero => intro x3_62 c4_62 ls H locs hrun; rw [fX10_copy_p62] at hrun; exact on_e hrun
        | succ n ih =>
          intro x3_62 c4_62 ls H locs hrun hP hD hS hl
          rw [fX10_copy_p62] at hrun
          refine lv_iload_n hx hb dX10_copy_62 rfl (lv_at hl 3 rfl) ?_
          refine lv_sipush (v := (180 : Int32)) hx hb dX10_copy_63 (by decide) ?_
          refine lv_icmp_ge (tgt := 99) hx hb dX10_copy_66 (by decide) (fun cc => ?_) (fun cc => ?_)
          · have hrun := oi_t hrun cc
            exact J99 c4_62 ls H locs hrun hP hD hS (lv_sub hl [] rfl)
          · have hrun := oi_f hrun cc
            refine lv_aload_n hx hb dX10_copy_69 rfl (lv_at hl 0 rfl) ?_
            refine va_get (D := (dC, dI)) (ci := 10) (v := .ref h4) (C := RX10) (T := TX10) (N := 28) hx hb hts hinX10 hown hK hP 0 rfl rfl 7 (by decide) (hts (.fieldLink RX10 28 "WasItOutModel" "sights" "[I") (by decide +kernel)) (fun _ h9 => h9) rfl dX10_copy_70 ?_
            refine lv_sipush (v := (180 : Int32)) hx hb dX10_copy_73 (by decide) ?_
            refine lv_iload_n hx hb dX10_copy_76 rfl (lv_at hl 2 rfl) ?_
            refine lv_imul hx hb dX10_copy_77 ?_
            refine lv_iload_n hx hb dX10_copy_78 rfl (lv_at hl 3 rfl) ?_
            refine lv_iadd hx hb dX10_copy_79 ?_
            refine lv_aload_n hx hb dX10_copy_80 rfl (lv_at hl 0 rfl) ?_
            refine va_get (D := (dC, dI)) (ci := 10) (v := .ref h4) (C := RX10) (T := TX10) (N := 28) hx hb hts hinX10 hown hK hP 0 rfl rfl 7 (by decide) (hts (.fieldLink RX10 28 "WasItOutModel" "sights" "[I") (by decide +kernel)) (fun _ h9 => h9) rfl dX10_copy_81 ?_
            refine lv_sipush (v := (180 : Int32)) hx hb dX10_copy_84 (by decide) ?_
            refine lv_iload_n hx hb dX10_copy_87 rfl (lv_at hl 1 rfl) ?_
            refine lv_imul hx hb dX10_copy_88 ?_
            refine lv_iload_n hx hb dX10_copy_89 rfl (lv_at hl 3 rfl) ?_
            refine lv_iadd hx hb dX10_copy_90 ?_
            obtain ⟨hi, hrun⟩ := oi_x hrun
            refine va_iald hx hb hK hP 4 3 rfl rfl hi dX10_copy_91 ?_
            obtain ⟨hi, hrun⟩ := oi_x hrun
            refine va_iast hx hb hK hP hD hS 4 3 rfl rfl hi dX10_copy_92 (fun H locs hP hD hS => ?_)
            have hP : va_P (dC, dI) vwCl [(h0, .inr (10, [g0_length, g0_text, g0_itemMany, g0_items, .ref h1, .ref h2, .ref h3, .ref h4, g0_keptMany, g0_cameras, g0_callMany, g0_calls, g0_shares, g0_rights, g0_caseMany, g0_cases, g0_place, g0_numbers, g0_xs, g0_ys, g0_zs, g0_us, g0_vs, g0_ws, g0_touchTick, g0_touchHalf, g0_powers, g0_worths])), (h1, .inl (k1, 18, .inl c1_36)), (h2, .inl (k2, 3, .inl (upd c2 a2.toNatClampNeg (c2 a1.toNatClampNeg)))), (h3, .inl (k3, 3, .inl (upd c3 a2.toNatClampNeg (c3 a1.toNatClampNeg)))), (h4, .inl (k4, 540, .inl (upd c4_62 (((180 : Int32) * a2) + x3_62).toNatClampNeg (c4_62 (((180 : Int32) * a1) + x3_62).toNatClampNeg))))] H := hP
            have hD : va_D A [(h0, .inr (10, [g0_length, g0_text, g0_itemMany, g0_items, .ref h1, .ref h2, .ref h3, .ref h4, g0_keptMany, g0_cameras, g0_callMany, g0_calls, g0_shares, g0_rights, g0_caseMany, g0_cases, g0_place, g0_numbers, g0_xs, g0_ys, g0_zs, g0_us, g0_vs, g0_ws, g0_touchTick, g0_touchHalf, g0_powers, g0_worths])), (h1, .inl (k1, 18, .inl c1_36)), (h2, .inl (k2, 3, .inl (upd c2 a2.toNatClampNeg (c2 a1.toNatClampNeg)))), (h3, .inl (k3, 3, .inl (upd c3 a2.toNatClampNeg (c3 a1.toNatClampNeg)))), (h4, .inl (k4, 540, .inl (upd c4_62 (((180 : Int32) * a2) + x3_62).toNatClampNeg (c4_62 (((180 : Int32) * a1) + x3_62).toNatClampNeg))))] := hD
            refine lv_iinc (v := (x3_62 + (1 : Int32))) (lv' := [(3, .int (x3_62 + (1 : Int32))), (0, .ref h0), (1, .int a1), (2, .int a2)]) hx hb dX10_copy_93 hl (k := 3) rfl rfl (by decide) rfl (fun ls hl => ?_)
            refine lv_goto (tgt := 62) hx hb dX10_copy_96 (by decide) ?_
            exact ih ((x3_62 + (1 : Int32))) ((upd c4_62 (((180 : Int32) * a2) + x3_62).toNatClampNeg (c4_62 (((180 : Int32) * a1) + x3_62).toNatClampNeg))) ls H locs hrun hP hD hS (lv_sub hl [1, 2, 3, 0] rfl)
      exact L62 N ((0 : Int32)) c4 ls H locs hrun hP hD hS (lv_sub hl [1, 2, 3, 0] rfl)
    have L2 : ∀ (n : Nat) (x3_2 : Int32) (c1_2 : Nat → Int32) (ls : Array Slot) (H : Heap) (locs : List Loc), fX10_copy_p2 N a1 a2 k36 n x3_2 c1_2 = some ru → va_P (dC, dI) vwCl [(h0, .inr (10, [g0_length, g0_text, g0_itemMany, g0_items, .ref h1, .ref h2, .ref h3, .ref h4, g0_keptMany, g0_cameras, g0_callMany, g0_calls, g0_shares, g0_rights, g0_caseMany, g0_cases, g0_place, g0_numbers, g0_xs, g0_ys, g0_zs, g0_us, g0_vs, g0_ws, g0_touchTick, g0_touchHalf, g0_powers, g0_worths])), (h1, .inl (k1, 18, .inl c1_2)), (h2, .inl (k2, 3, .inl c2)), (h3, .inl (k3, 3, .inl c3)), (h4, .inl (k4, 540, .inl c4))] H → va_D A [(h0, .inr (10, [g0_length, g0_text, g0_itemMany, g0_items, .ref h1, .ref h2, .ref h3, .ref h4, g0_keptMany, g0_cameras, g0_callMany, g0_calls, g0_shares, g0_rights, g0_caseMany, g0_cases, g0_place, g0_numbers, g0_xs, g0_ys, g0_zs, g0_us, g0_vs, g0_ws, g0_touchTick, g0_touchHalf, g0_powers, g0_worths])), (h1, .inl (k1, 18, .inl c1_2)), (h2, .inl (k2, 3, .inl c2)), (h3, .inl (k3, 3, .inl c3)), (h4, .inl (k4, 540, .inl c4))] → va_S A s.heap H locs → lv_has ls 4 [(0, .ref h0), (1, .int a1), (2, .int a2), (3, .int x3_2)] → W p l e (headSpec wsX10_copy ({ frames := 0, cells := 0, slots := 0, locals := 0 } : Room)).room s m ([.ref h0, .int a1, .int a2] : List Value).toArray below meth c H locs 0 0 (MQ below (va_Qv (fun (_ : Unit) => True) (fun (_ : Unit) t => va_P (dC, dI) vwCl [(h0, .inr (10, [g0_length, g0_text, g0_itemMany, g0_items, .ref h1, .ref h2, .ref h3, .ref h4, g0_keptMany, g0_cameras, g0_callMany, g0_calls, g0_shares, g0_rights, g0_caseMany, g0_cases, g0_place, g0_numbers, g0_xs, g0_ys, g0_zs, g0_us, g0_vs, g0_ws, g0_touchTick, g0_touchHalf, g0_powers, g0_worths])), (h1, .inl (k1, 18, .inl ru.1)), (h2, .inl (k2, 3, .inl ru.2.1)), (h3, .inl (k3, 3, .inl ru.2.2.1)), (h4, .inl (k4, 540, .inl ru.2.2.2))] t.heap ∧ va_K (dC, dI) vwCl [(k1, .int), (k2, .int), (k3, .int), (k4, .int)] t ∧ va_D A [(h0, .inr (10, [g0_length, g0_text, g0_itemMany, g0_items, .ref h1, .ref h2, .ref h3, .ref h4, g0_keptMany, g0_cameras, g0_callMany, g0_calls, g0_shares, g0_rights, g0_caseMany, g0_cases, g0_place, g0_numbers, g0_xs, g0_ys, g0_zs, g0_us, g0_vs, g0_ws, g0_touchTick, g0_touchHalf, g0_powers, g0_worths])), (h1, .inl (k1, 18, .inl ru.1)), (h2, .inl (k2, 3, .inl ru.2.1)), (h3, .inl (k3, 3, .inl ru.2.2.1)), (h4, .inl (k4, 540, .inl ru.2.2.2))]) A) ([.ref h0, .int a1, .int a2] : List Value).toArray s 0 0 A) (F0 m 2 ls []) := by
      intro n
      induction n with
      | zero => intro x3_2 c1_2 ls H locs hrun; rw [fX10_copy_p2] at hrun; exact on_e hrun
      | succ n ih =>
        intro x3_2 c1_2 ls H locs hrun hP hD hS hl
        rw [fX10_copy_p2] at hrun
        refine lv_iload_n hx hb dX10_copy_2 rfl (lv_at hl 3 rfl) ?_
        refine lv_bipush (v := (6 : Int32)) hx hb dX10_copy_3 (by decide) ?_
        refine lv_icmp_ge (tgt := 36) hx hb dX10_copy_5 (by decide) (fun cc => ?_) (fun cc => ?_)
        · have hrun := oi_t hrun cc
          exact J36 c1_2 ls H locs hrun hP hD hS (lv_sub hl [0, 1, 2] rfl)
        · have hrun := oi_f hrun cc
          refine lv_aload_n hx hb dX10_copy_8 rfl (lv_at hl 0 rfl) ?_
          refine va_get (D := (dC, dI)) (ci := 10) (v := .ref h1) (C := RX10) (T := TX10) (N := 28) hx hb hts hinX10 hown hK hP 0 rfl rfl 4 (by decide) (hts (.fieldLink RX10 19 "WasItOutModel" "balls" "[I") (by decide +kernel)) (fun _ h9 => h9) rfl dX10_copy_9 ?_
          refine lv_bipush (v := (6 : Int32)) hx hb dX10_copy_12 (by decide) ?_
          refine lv_iload_n hx hb dX10_copy_14 rfl (lv_at hl 2 rfl) ?_
          refine lv_imul hx hb dX10_copy_15 ?_
          refine lv_iload_n hx hb dX10_copy_16 rfl (lv_at hl 3 rfl) ?_
          refine lv_iadd hx hb dX10_copy_17 ?_
          refine lv_aload_n hx hb dX10_copy_18 rfl (lv_at hl 0 rfl) ?_
          refine va_get (D := (dC, dI)) (ci := 10) (v := .ref h1) (C := RX10) (T := TX10) (N := 28) hx hb hts hinX10 hown hK hP 0 rfl rfl 4 (by decide) (hts (.fieldLink RX10 19 "WasItOutModel" "balls" "[I") (by decide +kernel)) (fun _ h9 => h9) rfl dX10_copy_19 ?_
          refine lv_bipush (v := (6 : Int32)) hx hb dX10_copy_22 (by decide) ?_
          refine lv_iload_n hx hb dX10_copy_24 rfl (lv_at hl 1 rfl) ?_
          refine lv_imul hx hb dX10_copy_25 ?_
          refine lv_iload_n hx hb dX10_copy_26 rfl (lv_at hl 3 rfl) ?_
          refine lv_iadd hx hb dX10_copy_27 ?_
          obtain ⟨hi, hrun⟩ := oi_x hrun
          refine va_iald hx hb hK hP 1 0 rfl rfl hi dX10_copy_28 ?_
          obtain ⟨hi, hrun⟩ := oi_x hrun
          refine va_iast hx hb hK hP hD hS 1 0 rfl rfl hi dX10_copy_29 (fun H locs hP hD hS => ?_)
          have hP : va_P (dC, dI) vwCl [(h0, .inr (10, [g0_length, g0_text, g0_itemMany, g0_items, .ref h1, .ref h2, .ref h3, .ref h4, g0_keptMany, g0_cameras, g0_callMany, g0_calls, g0_shares, g0_rights, g0_caseMany, g0_cases, g0_place, g0_numbers, g0_xs, g0_ys, g0_zs, g0_us, g0_vs, g0_ws, g0_touchTick, g0_touchHalf, g0_powers, g0_worths])), (h1, .inl (k1, 18, .inl (upd c1_2 (((6 : Int32) * a2) + x3_2).toNatClampNeg (c1_2 (((6 : Int32) * a1) + x3_2).toNatClampNeg)))), (h2, .inl (k2, 3, .inl c2)), (h3, .inl (k3, 3, .inl c3)), (h4, .inl (k4, 540, .inl c4))] H := hP
          have hD : va_D A [(h0, .inr (10, [g0_length, g0_text, g0_itemMany, g0_items, .ref h1, .ref h2, .ref h3, .ref h4, g0_keptMany, g0_cameras, g0_callMany, g0_calls, g0_shares, g0_rights, g0_caseMany, g0_cases, g0_place, g0_numbers, g0_xs, g0_ys, g0_zs, g0_us, g0_vs, g0_ws, g0_touchTick, g0_touchHalf, g0_powers, g0_worths])), (h1, .inl (k1, 18, .inl (upd c1_2 (((6 : Int32) * a2) + x3_2).toNatClampNeg (c1_2 (((6 : Int32) * a1) + x3_2).toNatClampNeg)))), (h2, .inl (k2, 3, .inl c2)), (h3, .inl (k3, 3, .inl c3)), (h4, .inl (k4, 540, .inl c4))] := hD
          refine lv_iinc (v := (x3_2 + (1 : Int32))) (lv' := [(3, .int (x3_2 + (1 : Int32))), (0, .ref h0), (1, .int a1), (2, .int a2)]) hx hb dX10_copy_30 hl (k := 3) rfl rfl (by decide) rfl (fun ls hl => ?_)
          refine lv_goto (tgt := 2) hx hb dX10_copy_33 (by decide) ?_
          exact ih ((x3_2 + (1 : Int32))) ((upd c1_2 (((6 : Int32) * a2) + x3_2).toNatClampNeg (c1_2 (((6 : Int32) * a1) + x3_2).toNatClampNeg))) ls H locs hrun hP hD hS (lv_sub hl [1, 2, 3, 0] rfl)
    exact L2 N ((0 : Int32)) c1 ls H locs hrun hP hD hS (lv_sub hl [1, 2, 3, 0] rfl)
  rw [hHe, hLe] at key
  exact key
set_option maxHeartbeats 4000000 in
set_option maxRecDepth 100000 in
theorem tX10_back (l : Launch) (dC : Nat → ClassId) (dI : Nat → Nat → Nat) (sz : Nat) (h0 h1 h2 h3 h4 : Nat) (k1 k2 k3 k4 : ClassId) (g0_length g0_text g0_itemMany g0_items g0_cameras g0_callMany g0_calls g0_shares g0_rights g0_caseMany g0_cases g0_place g0_numbers g0_xs g0_ys g0_zs g0_us g0_vs g0_ws g0_touchTick g0_touchHalf g0_powers g0_worths : Value) (N : Nat)  (v0_keptMany : Int32) (c1 : Nat → Int32) (c2 : Nat → Int32) (c3 : Nat → Int32) (c4 : Nat → Int32) (ru : Int32 × (Int32) × (Nat → Int32) × (Nat → Int32) × (Nat → Int32) × (Nat → Int32)) (hm : fX10_back N v0_keptMany c1 c2 c3 c4 = some ru) : Met l yX10_back wsX10_back ({ frames := 1, cells := 0, slots := 0, locals := 23 } : Room) (va_Pc [.ref h0] (fun U => U.heap.size = sz ∧ va_P (dC, dI) vwCl [(h0, .inr (10, [g0_length, g0_text, g0_itemMany, g0_items, .ref h1, .ref h2, .ref h3, .ref h4, .int v0_keptMany, g0_cameras, g0_callMany, g0_calls, g0_shares, g0_rights, g0_caseMany, g0_cases, g0_place, g0_numbers, g0_xs, g0_ys, g0_zs, g0_us, g0_vs, g0_ws, g0_touchTick, g0_touchHalf, g0_powers, g0_worths])), (h1, .inl (k1, 18, .inl c1)), (h2, .inl (k2, 3, .inl c2)), (h3, .inl (k3, 3, .inl c3)), (h4, .inl (k4, 540, .inl c4))] U.heap ∧ va_K (dC, dI) vwCl [(k1, .int), (k2, .int), (k3, .int), (k4, .int)] U ∧ va_D (fun _ => True) [(h0, .inr (10, [g0_length, g0_text, g0_itemMany, g0_items, .ref h1, .ref h2, .ref h3, .ref h4, .int v0_keptMany, g0_cameras, g0_callMany, g0_calls, g0_shares, g0_rights, g0_caseMany, g0_cases, g0_place, g0_numbers, g0_xs, g0_ys, g0_zs, g0_us, g0_vs, g0_ws, g0_touchTick, g0_touchHalf, g0_powers, g0_worths])), (h1, .inl (k1, 18, .inl c1)), (h2, .inl (k2, 3, .inl c2)), (h3, .inl (k3, 3, .inl c3)), (h4, .inl (k4, 540, .inl c4))])) (va_Qi (fun r (_ : Unit) => r = ru.1) (fun (_ : Unit) t => va_P (dC, dI) vwCl [(h0, .inr (10, [g0_length, g0_text, g0_itemMany, g0_items, .ref h1, .ref h2, .ref h3, .ref h4, .int ru.2.1, g0_cameras, g0_callMany, g0_calls, g0_shares, g0_rights, g0_caseMany, g0_cases, g0_place, g0_numbers, g0_xs, g0_ys, g0_zs, g0_us, g0_vs, g0_ws, g0_touchTick, g0_touchHalf, g0_powers, g0_worths])), (h1, .inl (k1, 18, .inl ru.2.2.1)), (h2, .inl (k2, 3, .inl ru.2.2.2.1)), (h3, .inl (k3, 3, .inl ru.2.2.2.2.1)), (h4, .inl (k4, 540, .inl ru.2.2.2.2.2))] t.heap ∧ va_K (dC, dI) vwCl [(k1, .int), (k2, .int), (k3, .int), (k4, .int)] t ∧ va_D (va_A [(h0, .inr (10, [g0_length, g0_text, g0_itemMany, g0_items, .ref h1, .ref h2, .ref h3, .ref h4, .int v0_keptMany, g0_cameras, g0_callMany, g0_calls, g0_shares, g0_rights, g0_caseMany, g0_cases, g0_place, g0_numbers, g0_xs, g0_ys, g0_zs, g0_us, g0_vs, g0_ws, g0_touchTick, g0_touchHalf, g0_powers, g0_worths])), (h1, .inl (k1, 18, .inl c1)), (h2, .inl (k2, 3, .inl c2)), (h3, .inl (k3, 3, .inl c3)), (h4, .inl (k4, 540, .inl c4))] sz) [(h0, .inr (10, [g0_length, g0_text, g0_itemMany, g0_items, .ref h1, .ref h2, .ref h3, .ref h4, .int ru.2.1, g0_cameras, g0_callMany, g0_calls, g0_shares, g0_rights, g0_caseMany, g0_cases, g0_place, g0_numbers, g0_xs, g0_ys, g0_zs, g0_us, g0_vs, g0_ws, g0_touchTick, g0_touchHalf, g0_powers, g0_worths])), (h1, .inl (k1, 18, .inl ru.2.2.1)), (h2, .inl (k2, 3, .inl ru.2.2.2.1)), (h3, .inl (k3, 3, .inl ru.2.2.2.2.1)), (h4, .inl (k4, 540, .inl ru.2.2.2.2.2))]) (va_A [(h0, .inr (10, [g0_length, g0_text, g0_itemMany, g0_items, .ref h1, .ref h2, .ref h3, .ref h4, .int v0_keptMany, g0_cameras, g0_callMany, g0_calls, g0_shares, g0_rights, g0_caseMany, g0_cases, g0_place, g0_numbers, g0_xs, g0_ys, g0_zs, g0_us, g0_vs, g0_ws, g0_touchTick, g0_touchHalf, g0_powers, g0_worths])), (h1, .inl (k1, 18, .inl c1)), (h2, .inl (k2, 3, .inl c2)), (h3, .inl (k3, 3, .inl c3)), (h4, .inl (k4, 540, .inl c4))] sz)) 0 0 (va_A [(h0, .inr (10, [g0_length, g0_text, g0_itemMany, g0_items, .ref h1, .ref h2, .ref h3, .ref h4, .int v0_keptMany, g0_cameras, g0_callMany, g0_calls, g0_shares, g0_rights, g0_caseMany, g0_cases, g0_place, g0_numbers, g0_xs, g0_ys, g0_zs, g0_us, g0_vs, g0_ws, g0_touchTick, g0_touchHalf, g0_powers, g0_worths])), (h1, .inl (k1, 18, .inl c1)), (h2, .inl (k2, 3, .inl c2)), (h3, .inl (k3, 3, .inl c3)), (h4, .inl (k4, 540, .inl c4))] sz) := by
  refine Met.ofW (cc := cX10_back) (maxL := 1) (ret := (some .int)) (by decide) rfl ?_
  intro p e s m args below meth c s₁ B hml hv
  obtain ⟨rfl, hsz, hP, hK, hD0⟩ := hv
  have hx := B.exec
  have hb := B.bytes
  have hr := B.returns
  have hts := atoms_spec (ws := wsX10_back) B.pre
  have hown : s.vm.findClass RX10 = some m.cls := findClass_of_methodNamed B.named
  have hlocks := B.notSynchronized
  subst hsz
  have hD := hD0.self (sz := s.heap.size)
  generalize hAe : va_A [(h0, .inr (10, [g0_length, g0_text, g0_itemMany, g0_items, .ref h1, .ref h2, .ref h3, .ref h4, .int v0_keptMany, g0_cameras, g0_callMany, g0_calls, g0_shares, g0_rights, g0_caseMany, g0_cases, g0_place, g0_numbers, g0_xs, g0_ys, g0_zs, g0_us, g0_vs, g0_ws, g0_touchTick, g0_touchHalf, g0_powers, g0_worths])), (h1, .inl (k1, 18, .inl c1)), (h2, .inl (k2, 3, .inl c2)), (h3, .inl (k3, 3, .inl c3)), (h4, .inl (k4, 540, .inl c4))] s.heap.size = A at hD ⊢
  have hA : ∀ q : Nat, s.heap.size ≤ q → A q := fun q h => by rw [← hAe]; exact Or.inr h
  have hS : va_S A s.heap s.heap [] := va_S.rf
  have hinX10 : ∀ w ∈ wsX100, w ∈ wsX10_back := by decide +kernel
  have hl := lv_entry ([.ref h0]) (n := 1) (Nat.le_of_ble_eq_true rfl)
  rw [lg_entry_eq]
  generalize (lg_sl ([.ref h0]) ++ List.replicate (1 - (lg_sl ([.ref h0])).length) Slot.unset).toArray = ls at hl ⊢
  have hl : lv_has ls 1 [(0, .ref h0)] := hl
  have hrun := hm
  rw [fX10_back] at hrun
  obtain ⟨H, hHe⟩ : ∃ H, H = s.heap := ⟨_, rfl⟩
  obtain ⟨locs, hLe⟩ : ∃ locs : List Loc, locs = [] := ⟨_, rfl⟩
  rw [← hHe] at hP
  have hS : va_S A s.heap H locs := by rw [hHe, hLe]; exact hS
  have key : W p l e (headSpec wsX10_back ({ frames := 1, cells := 0, slots := 0, locals := 23 } : Room)).room s m ([.ref h0] : List Value).toArray below meth c H locs 0 0 (MQ below (va_Qi (fun r (_ : Unit) => r = ru.1) (fun (_ : Unit) t => va_P (dC, dI) vwCl [(h0, .inr (10, [g0_length, g0_text, g0_itemMany, g0_items, .ref h1, .ref h2, .ref h3, .ref h4, .int ru.2.1, g0_cameras, g0_callMany, g0_calls, g0_shares, g0_rights, g0_caseMany, g0_cases, g0_place, g0_numbers, g0_xs, g0_ys, g0_zs, g0_us, g0_vs, g0_ws, g0_touchTick, g0_touchHalf, g0_powers, g0_worths])), (h1, .inl (k1, 18, .inl ru.2.2.1)), (h2, .inl (k2, 3, .inl ru.2.2.2.1)), (h3, .inl (k3, 3, .inl ru.2.2.2.2.1)), (h4, .inl (k4, 540, .inl ru.2.2.2.2.2))] t.heap ∧ va_K (dC, dI) vwCl [(k1, .int), (k2, .int), (k3, .int), (k4, .int)] t ∧ va_D A [(h0, .inr (10, [g0_length, g0_text, g0_itemMany, g0_items, .ref h1, .ref h2, .ref h3, .ref h4, .int ru.2.1, g0_cameras, g0_callMany, g0_calls, g0_shares, g0_rights, g0_caseMany, g0_cases, g0_place, g0_numbers, g0_xs, g0_ys, g0_zs, g0_us, g0_vs, g0_ws, g0_touchTick, g0_touchHalf, g0_powers, g0_worths])), (h1, .inl (k1, 18, .inl ru.2.2.1)), (h2, .inl (k2, 3, .inl ru.2.2.2.1)), (h3, .inl (k3, 3, .inl ru.2.2.2.2.1)), (h4, .inl (k4, 540, .inl ru.2.2.2.2.2))]) A) ([.ref h0] : List Value).toArray s 0 0 A) (F0 m 0 ls []) := by
    clear hHe hLe
    refine lv_aload_n hx hb dX10_back_0 rfl (lv_at hl 0 rfl) ?_
    refine va_get (D := (dC, dI)) (ci := 10) (v := .int v0_keptMany) (C := RX10) (T := TX10) (N := 28) hx hb hts hinX10 hown hK hP 0 rfl rfl 8 (by decide) (hts (.fieldLink RX10 249 "WasItOutModel" "keptMany" "I") (by decide +kernel)) (fun _ h9 => h9) rfl dX10_back_1 ?_
    refine lv_if_ne (tgt := 10) hx hb dX10_back_4 (by decide) (fun cc => ?_) (fun cc => ?_)
    · have hrun := oi_t hrun cc
      refine lv_aload_n hx hb dX10_back_10 rfl (lv_at hl 0 rfl) ?_
      refine lv_dup hx hb dX10_back_11 rfl ?_
      refine va_get (D := (dC, dI)) (ci := 10) (v := .int v0_keptMany) (C := RX10) (T := TX10) (N := 28) hx hb hts hinX10 hown hK hP 0 rfl rfl 8 (by decide) (hts (.fieldLink RX10 249 "WasItOutModel" "keptMany" "I") (by decide +kernel)) (fun _ h9 => h9) rfl dX10_back_12 ?_
      refine lv_iconst (v := (1 : Int32)) hx hb dX10_back_15 (by decide) ?_
      refine lv_isub hx hb dX10_back_16 ?_
      refine va_put (D := (dC, dI)) (ci := 10) (v := .int (v0_keptMany - (1 : Int32))) (ty := .int) (C := RX10) (T := TX10) (N := 28) hx hb hts hinX10 tyX10 tyX10_ok nmX10 hown hK hP hD hS 0 rfl rfl 8 (by decide) (hts (.fieldLink RX10 249 "WasItOutModel" "keptMany" "I") (by decide +kernel)) (fun _ h9 => h9) rfl (by decide +kernel) rfl rfl (Nat.le_of_ble_eq_true rfl) dX10_back_17 (fun H locs hP hD hS => ?_)
      have hP : va_P (dC, dI) vwCl [(h0, .inr (10, [g0_length, g0_text, g0_itemMany, g0_items, .ref h1, .ref h2, .ref h3, .ref h4, .int (v0_keptMany - (1 : Int32)), g0_cameras, g0_callMany, g0_calls, g0_shares, g0_rights, g0_caseMany, g0_cases, g0_place, g0_numbers, g0_xs, g0_ys, g0_zs, g0_us, g0_vs, g0_ws, g0_touchTick, g0_touchHalf, g0_powers, g0_worths])), (h1, .inl (k1, 18, .inl c1)), (h2, .inl (k2, 3, .inl c2)), (h3, .inl (k3, 3, .inl c3)), (h4, .inl (k4, 540, .inl c4))] H := hP
      have hD : va_D A [(h0, .inr (10, [g0_length, g0_text, g0_itemMany, g0_items, .ref h1, .ref h2, .ref h3, .ref h4, .int (v0_keptMany - (1 : Int32)), g0_cameras, g0_callMany, g0_calls, g0_shares, g0_rights, g0_caseMany, g0_cases, g0_place, g0_numbers, g0_xs, g0_ys, g0_zs, g0_us, g0_vs, g0_ws, g0_touchTick, g0_touchHalf, g0_powers, g0_worths])), (h1, .inl (k1, 18, .inl c1)), (h2, .inl (k2, 3, .inl c2)), (h3, .inl (k3, 3, .inl c3)), (h4, .inl (k4, 540, .inl c4))] := hD
      refine lv_aload_n hx hb dX10_back_20 rfl (lv_at hl 0 rfl) ?_
      refine lv_iconst (v := (1 : Int32)) hx hb dX10_back_21 (by decide) ?_
      refine lv_aload_n hx hb dX10_back_22 rfl (lv_at hl 0 rfl) ?_
      refine va_get (D := (dC, dI)) (ci := 10) (v := .int (v0_keptMany - (1 : Int32))) (C := RX10) (T := TX10) (N := 28) hx hb hts hinX10 hown hK hP 0 rfl rfl 8 (by decide) (hts (.fieldLink RX10 249 "WasItOutModel" "keptMany" "I") (by decide +kernel)) (fun _ h9 => h9) rfl dX10_back_23 ?_
      refine lv_iadd hx hb dX10_back_26 ?_
      refine lv_iconst (v := (0 : Int32)) hx hb dX10_back_27 (by decide) ?_
      obtain ⟨q28, hc28, hrun⟩ := ob_e hrun
      refine wz_cqv (WC := [(h0, .inr (10, [g0_length, g0_text, g0_itemMany, g0_items, .ref h1, .ref h2, .ref h3, .ref h4, .int (v0_keptMany - (1 : Int32)), g0_cameras, g0_callMany, g0_calls, g0_shares, g0_rights, g0_caseMany, g0_cases, g0_place, g0_numbers, g0_xs, g0_ys, g0_zs, g0_us, g0_vs, g0_ws, g0_touchTick, g0_touchHalf, g0_powers, g0_worths])), (h1, .inl (k1, 18, .inl c1)), (h2, .inl (k2, 3, .inl c2)), (h3, .inl (k3, 3, .inl c3)), (h4, .inl (k4, 540, .inl c4))]) (WR := []) (W1 := [(h0, .inr (10, [g0_length, g0_text, g0_itemMany, g0_items, .ref h1, .ref h2, .ref h3, .ref h4, .int (v0_keptMany - (1 : Int32)), g0_cameras, g0_callMany, g0_calls, g0_shares, g0_rights, g0_caseMany, g0_cases, g0_place, g0_numbers, g0_xs, g0_ys, g0_zs, g0_us, g0_vs, g0_ws, g0_touchTick, g0_touchHalf, g0_powers, g0_worths])), (h1, .inl (k1, 18, .inl q28.1)), (h2, .inl (k2, 3, .inl q28.2.1)), (h3, .inl (k3, 3, .inl q28.2.2.1)), (h4, .inl (k4, 540, .inl q28.2.2.2))]) (va_runV (As := [.int ((1 : Int32) + (v0_keptMany - (1 : Int32))), .int (0 : Int32)]) (rest := []) ⟨hx, hb, hml, hown, hts⟩ (tX10_copy l dC dI H.size h0 h1 h2 h3 h4 k1 k2 k3 k4 (g0_length) (g0_text) (g0_itemMany) (g0_items) (.int (v0_keptMany - (1 : Int32))) (g0_cameras) (g0_callMany) (g0_calls) (g0_shares) (g0_rights) (g0_caseMany) (g0_cases) (g0_place) (g0_numbers) (g0_xs) (g0_ys) (g0_zs) (g0_us) (g0_vs) (g0_ws) (g0_touchTick) (g0_touchHalf) (g0_powers) (g0_worths) N (((1 : Int32) + (v0_keptMany - (1 : Int32)))) ((0 : Int32)) c1 c2 c3 c4 q28 hc28) (cwV 2 hts gX10_back_X10_copy rfl rfl rfl (by decide +kernel) ⟨Nat.le_of_ble_eq_true rfl, Nat.le_of_ble_eq_true rfl⟩) (wz_pVw (hP.sub (ws' := [(h0, .inr (10, [g0_length, g0_text, g0_itemMany, g0_items, .ref h1, .ref h2, .ref h3, .ref h4, .int (v0_keptMany - (1 : Int32)), g0_cameras, g0_callMany, g0_calls, g0_shares, g0_rights, g0_caseMany, g0_cases, g0_place, g0_numbers, g0_xs, g0_ys, g0_zs, g0_us, g0_vs, g0_ws, g0_touchTick, g0_touchHalf, g0_powers, g0_worths])), (h1, .inl (k1, 18, .inl c1)), (h2, .inl (k2, 3, .inl c2)), (h3, .inl (k3, 3, .inl c3)), (h4, .inl (k4, 540, .inl c4))]) [0, 1, 2, 3, 4] rfl) (hK.sub (tys' := [(k1, .int), (k2, .int), (k3, .int), (k4, .int)]) [0, 1, 2, 3] rfl) (hD.sub (ws' := [(h0, .inr (10, [g0_length, g0_text, g0_itemMany, g0_items, .ref h1, .ref h2, .ref h3, .ref h4, .int (v0_keptMany - (1 : Int32)), g0_cameras, g0_callMany, g0_calls, g0_shares, g0_rights, g0_caseMany, g0_cases, g0_place, g0_numbers, g0_xs, g0_ys, g0_zs, g0_us, g0_vs, g0_ws, g0_touchTick, g0_touchHalf, g0_powers, g0_worths])), (h1, .inl (k1, 18, .inl c1)), (h2, .inl (k2, 3, .inl c2)), (h3, .inl (k3, 3, .inl c3)), (h4, .inl (k4, 540, .inl c4))]) [0, 1, 2, 3, 4] (by decide) rfl) (va_recv hK hP (ci := 10) (q0 := 0) rfl rfl)) rfl rfl hl.1 rfl (lv_room (Nat.le_of_ble_eq_true rfl)) dX10_back_28 ⟨Nat.zero_le _, Nat.zero_le _⟩) hP hD hS hA [0, 1, 2, 3, 4] [] rfl rfl (by decide) (by decide) (fun H locs hP hD hS => ?_)
      have hP : va_P (dC, dI) vwCl [(h0, .inr (10, [g0_length, g0_text, g0_itemMany, g0_items, .ref h1, .ref h2, .ref h3, .ref h4, .int (v0_keptMany - (1 : Int32)), g0_cameras, g0_callMany, g0_calls, g0_shares, g0_rights, g0_caseMany, g0_cases, g0_place, g0_numbers, g0_xs, g0_ys, g0_zs, g0_us, g0_vs, g0_ws, g0_touchTick, g0_touchHalf, g0_powers, g0_worths])), (h1, .inl (k1, 18, .inl q28.1)), (h2, .inl (k2, 3, .inl q28.2.1)), (h3, .inl (k3, 3, .inl q28.2.2.1)), (h4, .inl (k4, 540, .inl q28.2.2.2))] H := hP
      have hD : va_D A [(h0, .inr (10, [g0_length, g0_text, g0_itemMany, g0_items, .ref h1, .ref h2, .ref h3, .ref h4, .int (v0_keptMany - (1 : Int32)), g0_cameras, g0_callMany, g0_calls, g0_shares, g0_rights, g0_caseMany, g0_cases, g0_place, g0_numbers, g0_xs, g0_ys, g0_zs, g0_us, g0_vs, g0_ws, g0_touchTick, g0_touchHalf, g0_powers, g0_worths])), (h1, .inl (k1, 18, .inl q28.1)), (h2, .inl (k2, 3, .inl q28.2.1)), (h3, .inl (k3, 3, .inl q28.2.2.1)), (h4, .inl (k4, 540, .inl q28.2.2.2))] := hD
      refine lv_aload_n hx hb dX10_back_31 rfl (lv_at hl 0 rfl) ?_
      refine va_get (D := (dC, dI)) (ci := 10) (v := .int (v0_keptMany - (1 : Int32))) (C := RX10) (T := TX10) (N := 28) hx hb hts hinX10 hown hK hP 0 rfl rfl 8 (by decide) (hts (.fieldLink RX10 249 "WasItOutModel" "keptMany" "I") (by decide +kernel)) (fun _ h9 => h9) rfl dX10_back_32 ?_
      cases hrun
      have hP9 : va_P (dC, dI) vwCl [(h0, .inr (10, [g0_length, g0_text, g0_itemMany, g0_items, .ref h1, .ref h2, .ref h3, .ref h4, .int (v0_keptMany - (1 : Int32)), g0_cameras, g0_callMany, g0_calls, g0_shares, g0_rights, g0_caseMany, g0_cases, g0_place, g0_numbers, g0_xs, g0_ys, g0_zs, g0_us, g0_vs, g0_ws, g0_touchTick, g0_touchHalf, g0_powers, g0_worths])), (h1, .inl (k1, 18, .inl q28.1)), (h2, .inl (k2, 3, .inl q28.2.1)), (h3, .inl (k3, 3, .inl q28.2.2.1)), (h4, .inl (k4, 540, .inl q28.2.2.2))] H := hP
      have hD9 : va_D A [(h0, .inr (10, [g0_length, g0_text, g0_itemMany, g0_items, .ref h1, .ref h2, .ref h3, .ref h4, .int (v0_keptMany - (1 : Int32)), g0_cameras, g0_callMany, g0_calls, g0_shares, g0_rights, g0_caseMany, g0_cases, g0_place, g0_numbers, g0_xs, g0_ys, g0_zs, g0_us, g0_vs, g0_ws, g0_touchTick, g0_touchHalf, g0_powers, g0_worths])), (h1, .inl (k1, 18, .inl q28.1)), (h2, .inl (k2, 3, .inl q28.2.1)), (h3, .inl (k3, 3, .inl q28.2.2.1)), (h4, .inl (k4, 540, .inl q28.2.2.2))] := hD
      exact W.iret hx hb hr (fun t ht hW => ⟨⟨_, (), rfl, rfl, by rw [ht]; exact hP9, va_K.moved hW.alike hK, hD9⟩, hS.F ht⟩) hS.2.2 dX10_back_35
    · have hrun := oi_n hrun cc
      refine lv_bipush (v := (-2 : Int32)) hx hb dX10_back_7 (by decide) ?_
      cases hrun
      have hP9 : va_P (dC, dI) vwCl [(h0, .inr (10, [g0_length, g0_text, g0_itemMany, g0_items, .ref h1, .ref h2, .ref h3, .ref h4, .int v0_keptMany, g0_cameras, g0_callMany, g0_calls, g0_shares, g0_rights, g0_caseMany, g0_cases, g0_place, g0_numbers, g0_xs, g0_ys, g0_zs, g0_us, g0_vs, g0_ws, g0_touchTick, g0_touchHalf, g0_powers, g0_worths])), (h1, .inl (k1, 18, .inl c1)), (h2, .inl (k2, 3, .inl c2)), (h3, .inl (k3, 3, .inl c3)), (h4, .inl (k4, 540, .inl c4))] H := hP
      have hD9 : va_D A [(h0, .inr (10, [g0_length, g0_text, g0_itemMany, g0_items, .ref h1, .ref h2, .ref h3, .ref h4, .int v0_keptMany, g0_cameras, g0_callMany, g0_calls, g0_shares, g0_rights, g0_caseMany, g0_cases, g0_place, g0_numbers, g0_xs, g0_ys, g0_zs, g0_us, g0_vs, g0_ws, g0_touchTick, g0_touchHalf, g0_powers, g0_worths])), (h1, .inl (k1, 18, .inl c1)), (h2, .inl (k2, 3, .inl c2)), (h3, .inl (k3, 3, .inl c3)), (h4, .inl (k4, 540, .inl c4))] := hD
      exact W.iret hx hb hr (fun t ht hW => ⟨⟨_, (), rfl, rfl, by rw [ht]; exact hP9, va_K.moved hW.alike hK, hD9⟩, hS.F ht⟩) hS.2.2 dX10_back_9
  rw [hHe, hLe] at key
  exact key
set_option maxHeartbeats 4000000 in
set_option maxRecDepth 100000 in
theorem tX10_weigh (l : Launch) (dC : Nat → ClassId) (dI : Nat → Nat → Nat) (h0 h1 : Nat) (k1 : ClassId) (g0_length g0_text g0_itemMany g0_items g0_balls g0_outs g0_sightMany g0_sights g0_keptMany g0_cameras g0_callMany g0_calls g0_shares g0_rights g0_place g0_numbers g0_xs g0_ys g0_zs g0_us g0_vs g0_ws g0_touchTick g0_touchHalf g0_powers g0_worths : Value) (N : Nat) (a1 : Int32) (v0_caseMany : Int32) (c1 : Nat → Int32) (ru : Int32) (hm : fX10_weigh N a1 v0_caseMany c1 = some ru) : Met l yX10_weigh wsX10_weigh ({ frames := 0, cells := 0, slots := 0, locals := 0 } : Room) (va_Pc [.ref h0, .int a1] (fun U => va_P (dC, dI) vwCl [(h0, .inr (10, [g0_length, g0_text, g0_itemMany, g0_items, g0_balls, g0_outs, g0_sightMany, g0_sights, g0_keptMany, g0_cameras, g0_callMany, g0_calls, g0_shares, g0_rights, .int v0_caseMany, .ref h1, g0_place, g0_numbers, g0_xs, g0_ys, g0_zs, g0_us, g0_vs, g0_ws, g0_touchTick, g0_touchHalf, g0_powers, g0_worths])), (h1, .inl (k1, 60, .inl c1))] U.heap ∧ va_K (dC, dI) vwCl [(k1, .int)] U)) (vp_Si (fun r => r = ru)) 0 0 (fun _ => False) := by
  refine Met.ofW (cc := cX10_weigh) (maxL := 7) (ret := (some .int)) (by decide) rfl ?_
  intro p e s m args below meth c s₁ B hml hv
  obtain ⟨rfl, hP, hK⟩ := hv
  have hx := B.exec
  have hb := B.bytes
  have hr := B.returns
  have hts := atoms_spec (ws := wsX10_weigh) B.pre
  have hown : s.vm.findClass RX10 = some m.cls := findClass_of_methodNamed B.named
  have hlocks := B.notSynchronized
  have hinX10 : ∀ w ∈ wsX100, w ∈ wsX10_weigh := by decide +kernel
  have hl := lv_entry ([.ref h0, .int a1]) (n := 7) (Nat.le_of_ble_eq_true rfl)
  rw [lg_entry_eq]
  generalize (lg_sl ([.ref h0, .int a1]) ++ List.replicate (7 - (lg_sl ([.ref h0, .int a1])).length) Slot.unset).toArray = ls at hl ⊢
  have hl : lv_has ls 7 [(0, .ref h0), (1, .int a1)] := hl
  have hrun := hm
  rw [fX10_weigh] at hrun
  refine lv_iconst (v := (0 : Int32)) hx hb dX10_weigh_0 (by decide) ?_
  refine lv_istore_n (lv' := [(2, .int (0 : Int32)), (0, .ref h0), (1, .int a1)]) hx hb dX10_weigh_1 rfl hl (by decide) rfl (fun ls hl => ?_)
  refine lv_iconst (v := (0 : Int32)) hx hb dX10_weigh_2 (by decide) ?_
  refine lv_istore_n (lv' := [(3, .int (0 : Int32)), (2, .int (0 : Int32)), (0, .ref h0), (1, .int a1)]) hx hb dX10_weigh_3 rfl hl (by decide) rfl (fun ls hl => ?_)
  refine lv_iconst (v := (0 : Int32)) hx hb dX10_weigh_4 (by decide) ?_
  refine lv_istore (lv' := [(4, .int (0 : Int32)), (3, .int (0 : Int32)), (2, .int (0 : Int32)), (0, .ref h0), (1, .int a1)]) hx hb dX10_weigh_5 hl (by decide) rfl (fun ls hl => ?_)
  obtain ⟨k130, ek130, hrun⟩ := jn_e hrun
  have J130 : ∀ (x2_130 : Int32) (x3_130 : Int32) (ls : Array Slot), k130 x2_130 x3_130 = some ru → lv_has ls 7 [(2, .int x2_130), (3, .int x3_130)] → W p l e (headSpec wsX10_weigh ({ frames := 0, cells := 0, slots := 0, locals := 0 } : Room)).room s m ([.ref h0, .int a1] : List Value).toArray below meth c s.heap [] 0 0 (MQ below (vp_Si (fun r => r = ru)) ([.ref h0, .int a1] : List Value).toArray s 0 0 (fun _ => False)) (F0 m 130 ls []) := by
    intro x2_130 x3_130 ls hrun hl
    rw [ek130] at hrun
    refine lv_bipush (v := (100 : Int32)) hx hb dX10_weigh_130 (by decide) ?_
    refine lv_iload_n hx hb dX10_weigh_132 rfl (lv_at hl 0 rfl) ?_
    refine lv_imul hx hb dX10_weigh_133 ?_
    refine lv_iload_n hx hb dX10_weigh_134 rfl (lv_at hl 1 rfl) ?_
    refine lv_iadd hx hb dX10_weigh_135 ?_
    exact W.iret hx hb hr (fun t ht _ => ⟨_, rfl, Option.some.inj hrun, ht⟩) (fun _ h => by cases h) dX10_weigh_136
  have L7 : ∀ (n : Nat) (x2_7 : Int32) (x3_7 : Int32) (x4_7 : Int32) (ls : Array Slot), fX10_weigh_p7 N a1 v0_caseMany c1 k130 n x2_7 x3_7 x4_7 = some ru → lv_has ls 7 [(0, .ref h0), (1, .int a1), (2, .int x2_7), (3, .int x3_7), (4, .int x4_7)] → W p l e (headSpec wsX10_weigh ({ frames := 0, cells := 0, slots := 0, locals := 0 } : Room)).room s m ([.ref h0, .int a1] : List Value).toArray below meth c s.heap [] 0 0 (MQ below (vp_Si (fun r => r = ru)) ([.ref h0, .int a1] : List Value).toArray s 0 0 (fun _ => False)) (F0 m 7 ls []) := by
    intro n
    induction n with
    | zero => intro x2_7 x3_7 x4_7 ls hrun; rw [fX10_weigh_p7] at hrun; exact on_e hrun
    | succ n ih =>
      intro x2_7 x3_7 x4_7 ls hrun hl
      rw [fX10_weigh_p7] at hrun
      refine lv_iload hx hb dX10_weigh_7 (lv_at hl 4 rfl) ?_
      refine lv_aload_n hx hb dX10_weigh_9 rfl (lv_at hl 0 rfl) ?_
      refine va_get (D := (dC, dI)) (ci := 10) (v := .int v0_caseMany) (C := RX10) (T := TX10) (N := 28) hx hb hts hinX10 hown hK hP 0 rfl rfl 14 (by decide) (hts (.fieldLink RX10 243 "WasItOutModel" "caseMany" "I") (by decide +kernel)) (fun _ h9 => h9) rfl dX10_weigh_10 ?_
      refine lv_icmp_ge (tgt := 130) hx hb dX10_weigh_13 (by decide) (fun cc => ?_) (fun cc => ?_)
      · have hrun := oi_t hrun cc
        exact J130 x2_7 x3_7 ls hrun (lv_sub hl [2, 3] rfl)
      · have hrun := oi_f hrun cc
        refine lv_aload_n hx hb dX10_weigh_16 rfl (lv_at hl 0 rfl) ?_
        refine va_get (D := (dC, dI)) (ci := 10) (v := .ref h1) (C := RX10) (T := TX10) (N := 28) hx hb hts hinX10 hown hK hP 0 rfl rfl 15 (by decide) (hts (.fieldLink RX10 43 "WasItOutModel" "cases" "[I") (by decide +kernel)) (fun _ h9 => h9) rfl dX10_weigh_17 ?_
        refine lv_iconst (v := (2 : Int32)) hx hb dX10_weigh_20 (by decide) ?_
        refine lv_iload hx hb dX10_weigh_21 (lv_at hl 4 rfl) ?_
        refine lv_imul hx hb dX10_weigh_23 ?_
        obtain ⟨hi, hrun⟩ := oi_x hrun
        refine va_iald hx hb hK hP 1 0 rfl rfl hi dX10_weigh_24 ?_
        refine lv_iload_n hx hb dX10_weigh_25 rfl (lv_at hl 1 rfl) ?_
        obtain ⟨k34, ek34, hrun⟩ := jn_e hrun
        have J34 : ∀ (z0_34 : Int32) (ls : Array Slot), k34 z0_34 = some ru → lv_has ls 7 [(0, .ref h0), (1, .int a1), (2, .int x2_7), (3, .int x3_7), (4, .int x4_7)] → W p l e (headSpec wsX10_weigh ({ frames := 0, cells := 0, slots := 0, locals := 0 } : Room)).room s m ([.ref h0, .int a1] : List Value).toArray below meth c s.heap [] 0 0 (MQ below (vp_Si (fun r => r = ru)) ([.ref h0, .int a1] : List Value).toArray s 0 0 (fun _ => False)) (F0 m 34 ls [.int z0_34]) := by
          intro z0_34 ls hrun hl
          rw [ek34] at hrun
          refine lv_istore (lv' := [(5, .int z0_34), (0, .ref h0), (1, .int a1), (2, .int x2_7), (3, .int x3_7), (4, .int x4_7)]) hx hb dX10_weigh_34 hl (by decide) rfl (fun ls hl => ?_)
          refine lv_bipush (v := (100 : Int32)) hx hb dX10_weigh_36 (by decide) ?_
          refine lv_aload_n hx hb dX10_weigh_38 rfl (lv_at hl 1 rfl) ?_
          refine va_get (D := (dC, dI)) (ci := 10) (v := .ref h1) (C := RX10) (T := TX10) (N := 28) hx hb hts hinX10 hown hK hP 0 rfl rfl 15 (by decide) (hts (.fieldLink RX10 43 "WasItOutModel" "cases" "[I") (by decide +kernel)) (fun _ h9 => h9) rfl dX10_weigh_39 ?_
          refine lv_iconst (v := (2 : Int32)) hx hb dX10_weigh_42 (by decide) ?_
          refine lv_iload hx hb dX10_weigh_43 (lv_at hl 5 rfl) ?_
          refine lv_imul hx hb dX10_weigh_45 ?_
          obtain ⟨hi, hrun⟩ := oi_x hrun
          refine va_iald hx hb hK hP 1 0 rfl rfl hi dX10_weigh_46 ?_
          refine lv_isub hx hb dX10_weigh_47 ?_
          refine lv_iload_n hx hb dX10_weigh_48 rfl (lv_at hl 2 rfl) ?_
          obtain ⟨k57, ek57, hrun⟩ := jn_e hrun
          have J57 : ∀ (z0_57 : Int32) (ls : Array Slot), k57 z0_57 = some ru → lv_has ls 7 [(0, .ref h0), (1, .int a1), (2, .int x2_7), (3, .int x3_7), (4, .int x4_7), (5, .int z0_34)] → W p l e (headSpec wsX10_weigh ({ frames := 0, cells := 0, slots := 0, locals := 0 } : Room)).room s m ([.ref h0, .int a1] : List Value).toArray below meth c s.heap [] 0 0 (MQ below (vp_Si (fun r => r = ru)) ([.ref h0, .int a1] : List Value).toArray s 0 0 (fun _ => False)) (F0 m 57 ls [.int z0_57]) := by
            intro z0_57 ls hrun hl
            rw [ek57] at hrun
            refine lv_istore (lv' := [(6, .int z0_57), (0, .ref h0), (1, .int a1), (2, .int x2_7), (3, .int x3_7), (4, .int x4_7), (5, .int z0_34)]) hx hb dX10_weigh_57 hl (by decide) rfl (fun ls hl => ?_)
            refine lv_iload_n hx hb dX10_weigh_59 rfl (lv_at hl 3 rfl) ?_
            refine lv_iload hx hb dX10_weigh_60 (lv_at hl 6 rfl) ?_
            obtain ⟨k104, ek104, hrun⟩ := jn_e hrun
            have J104 : ∀ (z0_104 : Int32) (ls : Array Slot), k104 z0_104 = some ru → lv_has ls 7 [(0, .ref h0), (1, .int a1), (3, .int x3_7), (4, .int x4_7), (5, .int z0_34), (6, .int z0_57)] → W p l e (headSpec wsX10_weigh ({ frames := 0, cells := 0, slots := 0, locals := 0 } : Room)).room s m ([.ref h0, .int a1] : List Value).toArray below meth c s.heap [] 0 0 (MQ below (vp_Si (fun r => r = ru)) ([.ref h0, .int a1] : List Value).toArray s 0 0 (fun _ => False)) (F0 m 104 ls [.int z0_104, .int x2_7]) := by
              intro z0_104 ls hrun hl
              rw [ek104] at hrun
              refine lv_iadd hx hb dX10_weigh_104 ?_
              refine lv_istore_n (lv' := [(2, .int (x2_7 + z0_104)), (0, .ref h0), (1, .int a1), (3, .int x3_7), (4, .int x4_7), (5, .int z0_34), (6, .int z0_57)]) hx hb dX10_weigh_105 rfl hl (by decide) rfl (fun ls hl => ?_)
              refine lv_iload_n hx hb dX10_weigh_106 rfl (lv_at hl 3 rfl) ?_
              refine lv_iload hx hb dX10_weigh_107 (lv_at hl 5 rfl) ?_
              obtain ⟨k122, ek122, hrun⟩ := jn_e hrun
              have J122 : ∀ (z0_122 : Int32) (ls : Array Slot), k122 z0_122 = some ru → lv_has ls 7 [(0, .ref h0), (1, .int a1), (2, .int (x2_7 + z0_104)), (4, .int x4_7)] → W p l e (headSpec wsX10_weigh ({ frames := 0, cells := 0, slots := 0, locals := 0 } : Room)).room s m ([.ref h0, .int a1] : List Value).toArray below meth c s.heap [] 0 0 (MQ below (vp_Si (fun r => r = ru)) ([.ref h0, .int a1] : List Value).toArray s 0 0 (fun _ => False)) (F0 m 122 ls [.int z0_122, .int x3_7]) := by
                intro z0_122 ls hrun hl
                rw [ek122] at hrun
                refine lv_iadd hx hb dX10_weigh_122 ?_
                refine lv_istore_n (lv' := [(3, .int (x3_7 + z0_122)), (0, .ref h0), (1, .int a1), (2, .int (x2_7 + z0_104)), (4, .int x4_7)]) hx hb dX10_weigh_123 rfl hl (by decide) rfl (fun ls hl => ?_)
                refine lv_iinc (v := (x4_7 + (1 : Int32))) (lv' := [(4, .int (x4_7 + (1 : Int32))), (3, .int (x3_7 + z0_122)), (0, .ref h0), (1, .int a1), (2, .int (x2_7 + z0_104))]) hx hb dX10_weigh_124 hl (k := 4) rfl rfl (by decide) rfl (fun ls hl => ?_)
                refine lv_goto (tgt := 7) hx hb dX10_weigh_127 (by decide) ?_
                exact ih ((x2_7 + z0_104)) ((x3_7 + z0_122)) ((x4_7 + (1 : Int32))) ls hrun (lv_sub hl [2, 3, 4, 1, 0] rfl)
              obtain ⟨k121, ek121, hrun⟩ := jn_e hrun
              have J121 : ∀ (u_121 : Unit) (ls : Array Slot), k121 u_121 = some ru → lv_has ls 7 [(0, .ref h0), (1, .int a1), (2, .int (x2_7 + z0_104)), (4, .int x4_7)] → W p l e (headSpec wsX10_weigh ({ frames := 0, cells := 0, slots := 0, locals := 0 } : Room)).room s m ([.ref h0, .int a1] : List Value).toArray below meth c s.heap [] 0 0 (MQ below (vp_Si (fun r => r = ru)) ([.ref h0, .int a1] : List Value).toArray s 0 0 (fun _ => False)) (F0 m 121 ls [.int x3_7]) := by
                intro u_121 ls hrun hl
                rw [ek121] at hrun
                refine lv_iconst (v := (0 : Int32)) hx hb dX10_weigh_121 (by decide) ?_
                exact J122 ((0 : Int32)) ls hrun hl
              refine lv_if_ne (tgt := 121) hx hb dX10_weigh_109 (by decide) (fun cc => ?_) (fun cc => ?_)
              · have hrun := oi_t hrun cc
                exact J121 (()) ls hrun (lv_sub hl [1, 2, 0, 4] rfl)
              · have hrun := oi_n hrun cc
                refine lv_iload hx hb dX10_weigh_112 (lv_at hl 6 rfl) ?_
                refine lv_if_ne (tgt := 121) hx hb dX10_weigh_114 (by decide) (fun cc => ?_) (fun cc => ?_)
                · have hrun := oi_t hrun cc
                  exact J121 (()) ls hrun (lv_sub hl [1, 2, 0, 4] rfl)
                · have hrun := oi_n hrun cc
                  refine lv_iconst (v := (1 : Int32)) hx hb dX10_weigh_117 (by decide) ?_
                  refine lv_goto (tgt := 122) hx hb dX10_weigh_118 (by decide) ?_
                  exact J122 ((1 : Int32)) ls hrun (lv_sub hl [1, 2, 0, 4] rfl)
            obtain ⟨k99, ek99, hrun⟩ := jn_e hrun
            have J99 : ∀ (u_99 : Unit) (ls : Array Slot), k99 u_99 = some ru → lv_has ls 7 [(0, .ref h0), (1, .int a1), (3, .int x3_7), (4, .int x4_7), (5, .int z0_34), (6, .int z0_57)] → W p l e (headSpec wsX10_weigh ({ frames := 0, cells := 0, slots := 0, locals := 0 } : Room)).room s m ([.ref h0, .int a1] : List Value).toArray below meth c s.heap [] 0 0 (MQ below (vp_Si (fun r => r = ru)) ([.ref h0, .int a1] : List Value).toArray s 0 0 (fun _ => False)) (F0 m 99 ls [.int x2_7]) := by
              intro u_99 ls hrun hl
              rw [ek99] at hrun
              refine lv_iconst (v := (1 : Int32)) hx hb dX10_weigh_99 (by decide) ?_
              refine lv_goto (tgt := 104) hx hb dX10_weigh_100 (by decide) ?_
              exact J104 ((1 : Int32)) ls hrun hl
            obtain ⟨k79, ek79, hrun⟩ := jn_e hrun
            have J79 : ∀ (u_79 : Unit) (ls : Array Slot), k79 u_79 = some ru → lv_has ls 7 [(0, .ref h0), (1, .int a1), (3, .int x3_7), (4, .int x4_7), (5, .int z0_34), (6, .int z0_57)] → W p l e (headSpec wsX10_weigh ({ frames := 0, cells := 0, slots := 0, locals := 0 } : Room)).room s m ([.ref h0, .int a1] : List Value).toArray below meth c s.heap [] 0 0 (MQ below (vp_Si (fun r => r = ru)) ([.ref h0, .int a1] : List Value).toArray s 0 0 (fun _ => False)) (F0 m 79 ls [.int x2_7]) := by
              intro u_79 ls hrun hl
              rw [ek79] at hrun
              refine lv_iload hx hb dX10_weigh_79 (lv_at hl 5 rfl) ?_
              obtain ⟨k103, ek103, hrun⟩ := jn_e hrun
              have J103 : ∀ (u_103 : Unit) (ls : Array Slot), k103 u_103 = some ru → lv_has ls 7 [(0, .ref h0), (1, .int a1), (3, .int x3_7), (4, .int x4_7), (5, .int z0_34), (6, .int z0_57)] → W p l e (headSpec wsX10_weigh ({ frames := 0, cells := 0, slots := 0, locals := 0 } : Room)).room s m ([.ref h0, .int a1] : List Value).toArray below meth c s.heap [] 0 0 (MQ below (vp_Si (fun r => r = ru)) ([.ref h0, .int a1] : List Value).toArray s 0 0 (fun _ => False)) (F0 m 103 ls [.int x2_7]) := by
                intro u_103 ls hrun hl
                rw [ek103] at hrun
                refine lv_iconst (v := (0 : Int32)) hx hb dX10_weigh_103 (by decide) ?_
                exact J104 ((0 : Int32)) ls hrun hl
              refine lv_if_eq (tgt := 103) hx hb dX10_weigh_81 (by decide) (fun cc => ?_) (fun cc => ?_)
              · have hrun := oi_t hrun cc
                exact J103 (()) ls hrun hl
              · have hrun := oi_f hrun cc
                refine lv_aload_n hx hb dX10_weigh_84 rfl (lv_at hl 0 rfl) ?_
                refine va_get (D := (dC, dI)) (ci := 10) (v := .ref h1) (C := RX10) (T := TX10) (N := 28) hx hb hts hinX10 hown hK hP 0 rfl rfl 15 (by decide) (hts (.fieldLink RX10 43 "WasItOutModel" "cases" "[I") (by decide +kernel)) (fun _ h9 => h9) rfl dX10_weigh_85 ?_
                refine lv_iconst (v := (2 : Int32)) hx hb dX10_weigh_88 (by decide) ?_
                refine lv_iload hx hb dX10_weigh_89 (lv_at hl 3 rfl) ?_
                refine lv_imul hx hb dX10_weigh_91 ?_
                refine lv_iconst (v := (1 : Int32)) hx hb dX10_weigh_92 (by decide) ?_
                refine lv_iadd hx hb dX10_weigh_93 ?_
                obtain ⟨hi, hrun⟩ := oi_x hrun
                refine va_iald hx hb hK hP 1 0 rfl rfl hi dX10_weigh_94 ?_
                refine lv_iconst (v := (1 : Int32)) hx hb dX10_weigh_95 (by decide) ?_
                refine lv_icmp_ne (tgt := 103) hx hb dX10_weigh_96 (by decide) (fun cc => ?_) (fun cc => ?_)
                · have hrun := oi_t hrun cc
                  exact J103 (()) ls hrun hl
                · have hrun := oi_n hrun cc
                  exact J99 (()) ls hrun hl
            refine lv_if_eq (tgt := 79) hx hb dX10_weigh_62 (by decide) (fun cc => ?_) (fun cc => ?_)
            · have hrun := oi_t hrun cc
              exact J79 (()) ls hrun (lv_sub hl [1, 2, 4, 5, 6, 0] rfl)
            · have hrun := oi_f hrun cc
              refine lv_aload_n hx hb dX10_weigh_65 rfl (lv_at hl 1 rfl) ?_
              refine va_get (D := (dC, dI)) (ci := 10) (v := .ref h1) (C := RX10) (T := TX10) (N := 28) hx hb hts hinX10 hown hK hP 0 rfl rfl 15 (by decide) (hts (.fieldLink RX10 43 "WasItOutModel" "cases" "[I") (by decide +kernel)) (fun _ h9 => h9) rfl dX10_weigh_66 ?_
              refine lv_iconst (v := (2 : Int32)) hx hb dX10_weigh_69 (by decide) ?_
              refine lv_iload hx hb dX10_weigh_70 (lv_at hl 5 rfl) ?_
              refine lv_imul hx hb dX10_weigh_72 ?_
              refine lv_iconst (v := (1 : Int32)) hx hb dX10_weigh_73 (by decide) ?_
              refine lv_iadd hx hb dX10_weigh_74 ?_
              obtain ⟨hi, hrun⟩ := oi_x hrun
              refine va_iald hx hb hK hP 1 0 rfl rfl hi dX10_weigh_75 ?_
              refine lv_if_eq (tgt := 99) hx hb dX10_weigh_76 (by decide) (fun cc => ?_) (fun cc => ?_)
              · have hrun := oi_t hrun cc
                exact J99 (()) ls hrun (lv_sub hl [1, 2, 4, 5, 6, 0] rfl)
              · have hrun := oi_f hrun cc
                exact J79 (()) ls hrun (lv_sub hl [1, 2, 4, 5, 6, 0] rfl)
          refine lv_icmp_lt (tgt := 56) hx hb dX10_weigh_49 (by decide) (fun cc => ?_) (fun cc => ?_)
          · have hrun := oi_t hrun cc
            refine lv_iconst (v := (0 : Int32)) hx hb dX10_weigh_56 (by decide) ?_
            exact J57 ((0 : Int32)) ls hrun (lv_sub hl [1, 2, 3, 4, 5, 0] rfl)
          · have hrun := oi_f hrun cc
            refine lv_iconst (v := (1 : Int32)) hx hb dX10_weigh_52 (by decide) ?_
            refine lv_goto (tgt := 57) hx hb dX10_weigh_53 (by decide) ?_
            exact J57 ((1 : Int32)) ls hrun (lv_sub hl [1, 2, 3, 4, 5, 0] rfl)
        refine lv_icmp_lt (tgt := 33) hx hb dX10_weigh_26 (by decide) (fun cc => ?_) (fun cc => ?_)
        · have hrun := oi_t hrun cc
          refine lv_iconst (v := (0 : Int32)) hx hb dX10_weigh_33 (by decide) ?_
          exact J34 ((0 : Int32)) ls hrun hl
        · have hrun := oi_f hrun cc
          refine lv_iconst (v := (1 : Int32)) hx hb dX10_weigh_29 (by decide) ?_
          refine lv_goto (tgt := 34) hx hb dX10_weigh_30 (by decide) ?_
          exact J34 ((1 : Int32)) ls hrun hl
  exact L7 N ((0 : Int32)) ((0 : Int32)) ((0 : Int32)) ls hrun (lv_sub hl [3, 4, 2, 1, 0] rfl)
set_option maxHeartbeats 4000000 in
set_option maxRecDepth 100000 in
theorem tX10_bestSure (l : Launch) (dC : Nat → ClassId) (dI : Nat → Nat → Nat) (h0 h1 : Nat) (k1 : ClassId) (g0_length g0_text g0_itemMany g0_items g0_balls g0_outs g0_sightMany g0_sights g0_keptMany g0_cameras g0_callMany g0_calls g0_shares g0_rights g0_place g0_numbers g0_xs g0_ys g0_zs g0_us g0_vs g0_ws g0_touchTick g0_touchHalf g0_powers g0_worths : Value) (N : Nat) (a1 : Int32) (v0_caseMany : Int32) (c1 : Nat → Int32) (ru : Int32) (hm : fX10_bestSure N a1 v0_caseMany c1 = some ru) : Met l yX10_bestSure wsX10_bestSure ({ frames := 1, cells := 0, slots := 0, locals := 26 } : Room) (va_Pc [.ref h0, .int a1] (fun U => va_P (dC, dI) vwCl [(h0, .inr (10, [g0_length, g0_text, g0_itemMany, g0_items, g0_balls, g0_outs, g0_sightMany, g0_sights, g0_keptMany, g0_cameras, g0_callMany, g0_calls, g0_shares, g0_rights, .int v0_caseMany, .ref h1, g0_place, g0_numbers, g0_xs, g0_ys, g0_zs, g0_us, g0_vs, g0_ws, g0_touchTick, g0_touchHalf, g0_powers, g0_worths])), (h1, .inl (k1, 60, .inl c1))] U.heap ∧ va_K (dC, dI) vwCl [(k1, .int)] U)) (vp_Si (fun r => r = ru)) 0 0 (fun _ => False) := by
  refine Met.ofW (cc := cX10_bestSure) (maxL := 4) (ret := (some .int)) (by decide) rfl ?_
  intro p e s m args below meth c s₁ B hml hv
  obtain ⟨rfl, hP, hK⟩ := hv
  have hx := B.exec
  have hb := B.bytes
  have hr := B.returns
  have hts := atoms_spec (ws := wsX10_bestSure) B.pre
  have hown : s.vm.findClass RX10 = some m.cls := findClass_of_methodNamed B.named
  have hlocks := B.notSynchronized
  have hl := lv_entry ([.ref h0, .int a1]) (n := 4) (Nat.le_of_ble_eq_true rfl)
  rw [lg_entry_eq]
  generalize (lg_sl ([.ref h0, .int a1]) ++ List.replicate (4 - (lg_sl ([.ref h0, .int a1])).length) Slot.unset).toArray = ls at hl ⊢
  have hl : lv_has ls 4 [(0, .ref h0), (1, .int a1)] := hl
  have hrun := hm
  rw [fX10_bestSure] at hrun
  refine lv_iload_n hx hb dX10_bestSure_0 rfl (lv_at hl 1 rfl) ?_
  refine lv_i2l (v := a1.toInt64) hx hb dX10_bestSure_1 rfl ?_
  refine lv_lconst (v := (0 : Int64)) hx hb dX10_bestSure_2 (by decide) ?_
  refine lv_ldc2 (v := (2 : Int64)) hx hb hown (hts (.constantLong RX10 164 (2 : Int64)) (by decide +kernel)) dX10_bestSure_3 ?_
  obtain ⟨q6, hc6, hrun⟩ := ob_e hrun
  refine wz_csz (va_runS (As := [.long a1.toInt64, .long (0 : Int64), .long (2 : Int64)]) (rest := []) ⟨hx, hb, hml, hown, hts⟩ (tX10_in l dC dI N a1.toInt64 ((0 : Int64)) ((2 : Int64)) q6 hc6) (va_cwS 3 hts gX10_bestSure_X10_in rfl rfl rfl (by decide +kernel) ⟨Nat.le_of_ble_eq_true rfl, Nat.le_of_ble_eq_true rfl⟩) (wz_pSr (hP.sub (ws' := []) [] rfl) (hK.sub (tys' := []) [] rfl)) rfl rfl hl.1 rfl (lv_room (Nat.le_of_ble_eq_true rfl)) dX10_bestSure_6 ⟨Nat.zero_le _, Nat.zero_le _⟩) (fun hz6 => ?_)
  refine lv_if_ne (tgt := 14) hx hb dX10_bestSure_9 (by decide) (fun cc => ?_) (fun cc => ?_)
  · have hrun := oi_t hrun cc
    refine lv_bipush (v := (51 : Int32)) hx hb dX10_bestSure_14 (by decide) ?_
    refine lv_istore_n (lv' := [(2, .int (51 : Int32)), (0, .ref h0), (1, .int a1)]) hx hb dX10_bestSure_16 rfl hl (by decide) rfl (fun ls hl => ?_)
    refine lv_bipush (v := (52 : Int32)) hx hb dX10_bestSure_17 (by decide) ?_
    refine lv_istore_n (lv' := [(3, .int (52 : Int32)), (2, .int (51 : Int32)), (0, .ref h0), (1, .int a1)]) hx hb dX10_bestSure_19 rfl hl (by decide) rfl (fun ls hl => ?_)
    obtain ⟨k51, ek51, hrun⟩ := jn_e hrun
    have J51 : ∀ (x2_51 : Int32) (ls : Array Slot), k51 x2_51 = some ru → lv_has ls 4 [(0, .ref h0), (1, .int a1), (2, .int x2_51)] → W p l e (headSpec wsX10_bestSure ({ frames := 1, cells := 0, slots := 0, locals := 26 } : Room)).room s m ([.ref h0, .int a1] : List Value).toArray below meth c s.heap [] 0 0 (MQ below (vp_Si (fun r => r = ru)) ([.ref h0, .int a1] : List Value).toArray s 0 0 (fun _ => False)) (F0 m 51 ls []) := by
      intro x2_51 ls hrun hl
      rw [ek51] at hrun
      refine lv_iload_n hx hb dX10_bestSure_51 rfl (lv_at hl 1 rfl) ?_
      refine lv_if_ne (tgt := 59) hx hb dX10_bestSure_52 (by decide) (fun cc => ?_) (fun cc => ?_)
      · have hrun := oi_t hrun cc
        refine lv_iload_n hx hb dX10_bestSure_59 rfl (lv_at hl 1 rfl) ?_
        refine lv_iconst (v := (1 : Int32)) hx hb dX10_bestSure_60 (by decide) ?_
        refine lv_icmp_ne (tgt := 75) hx hb dX10_bestSure_61 (by decide) (fun cc => ?_) (fun cc => ?_)
        · have hrun := oi_t hrun cc
          refine lv_aload_n hx hb dX10_bestSure_75 rfl (lv_at hl 0 rfl) ?_
          refine lv_iload_n hx hb dX10_bestSure_76 rfl (lv_at hl 2 rfl) ?_
          obtain ⟨q77, hc77, hrun⟩ := ob_e hrun
          refine wz_csi (va_runV (As := [.int x2_51]) (rest := []) ⟨hx, hb, hml, hown, hts⟩ (tX10_weigh l dC dI h0 h1 k1 (g0_length) (g0_text) (g0_itemMany) (g0_items) (g0_balls) (g0_outs) (g0_sightMany) (g0_sights) (g0_keptMany) (g0_cameras) (g0_callMany) (g0_calls) (g0_shares) (g0_rights) (g0_place) (g0_numbers) (g0_xs) (g0_ys) (g0_zs) (g0_us) (g0_vs) (g0_ws) (g0_touchTick) (g0_touchHalf) (g0_powers) (g0_worths) N x2_51 v0_caseMany c1 q77 hc77) (cwV 1 hts gX10_bestSure_X10_weigh rfl rfl rfl (by decide +kernel) ⟨Nat.le_of_ble_eq_true rfl, Nat.le_of_ble_eq_true rfl⟩) (wz_pVr (hP.sub (ws' := [(h0, .inr (10, [g0_length, g0_text, g0_itemMany, g0_items, g0_balls, g0_outs, g0_sightMany, g0_sights, g0_keptMany, g0_cameras, g0_callMany, g0_calls, g0_shares, g0_rights, .int v0_caseMany, .ref h1, g0_place, g0_numbers, g0_xs, g0_ys, g0_zs, g0_us, g0_vs, g0_ws, g0_touchTick, g0_touchHalf, g0_powers, g0_worths])), (h1, .inl (k1, 60, .inl c1))]) [0, 1] rfl) (hK.sub (tys' := [(k1, .int)]) [0] rfl) (va_recv hK hP (ci := 10) (q0 := 0) rfl rfl)) rfl rfl hl.1 rfl (lv_room (Nat.le_of_ble_eq_true rfl)) dX10_bestSure_77 ⟨Nat.zero_le _, Nat.zero_le _⟩) ?_
          refine lv_bipush (v := (100 : Int32)) hx hb dX10_bestSure_80 (by decide) ?_
          refine lv_irem hx hb dX10_bestSure_82 (by decide) ?_
          exact W.iret hx hb hr (fun t ht _ => ⟨_, rfl, Option.some.inj hrun, ht⟩) (fun _ h => by cases h) dX10_bestSure_83
        · have hrun := oi_n hrun cc
          refine lv_aload_n hx hb dX10_bestSure_64 rfl (lv_at hl 0 rfl) ?_
          refine lv_iload_n hx hb dX10_bestSure_65 rfl (lv_at hl 2 rfl) ?_
          obtain ⟨q66, hc66, hrun⟩ := ob_e hrun
          refine wz_csi (va_runV (As := [.int x2_51]) (rest := []) ⟨hx, hb, hml, hown, hts⟩ (tX10_weigh l dC dI h0 h1 k1 (g0_length) (g0_text) (g0_itemMany) (g0_items) (g0_balls) (g0_outs) (g0_sightMany) (g0_sights) (g0_keptMany) (g0_cameras) (g0_callMany) (g0_calls) (g0_shares) (g0_rights) (g0_place) (g0_numbers) (g0_xs) (g0_ys) (g0_zs) (g0_us) (g0_vs) (g0_ws) (g0_touchTick) (g0_touchHalf) (g0_powers) (g0_worths) N x2_51 v0_caseMany c1 q66 hc66) (cwV 1 hts gX10_bestSure_X10_weigh rfl rfl rfl (by decide +kernel) ⟨Nat.le_of_ble_eq_true rfl, Nat.le_of_ble_eq_true rfl⟩) (wz_pVr (hP.sub (ws' := [(h0, .inr (10, [g0_length, g0_text, g0_itemMany, g0_items, g0_balls, g0_outs, g0_sightMany, g0_sights, g0_keptMany, g0_cameras, g0_callMany, g0_calls, g0_shares, g0_rights, .int v0_caseMany, .ref h1, g0_place, g0_numbers, g0_xs, g0_ys, g0_zs, g0_us, g0_vs, g0_ws, g0_touchTick, g0_touchHalf, g0_powers, g0_worths])), (h1, .inl (k1, 60, .inl c1))]) [0, 1] rfl) (hK.sub (tys' := [(k1, .int)]) [0] rfl) (va_recv hK hP (ci := 10) (q0 := 0) rfl rfl)) rfl rfl hl.1 rfl (lv_room (Nat.le_of_ble_eq_true rfl)) dX10_bestSure_66 ⟨Nat.zero_le _, Nat.zero_le _⟩) ?_
          refine lv_bipush (v := (100 : Int32)) hx hb dX10_bestSure_69 (by decide) ?_
          refine lv_idiv hx hb dX10_bestSure_71 (by decide) ?_
          refine lv_goto (tgt := 83) hx hb dX10_bestSure_72 (by decide) ?_
          exact W.iret hx hb hr (fun t ht _ => ⟨_, rfl, Option.some.inj hrun, ht⟩) (fun _ h => by cases h) dX10_bestSure_83
      · have hrun := oi_n hrun cc
        refine lv_iload_n hx hb dX10_bestSure_55 rfl (lv_at hl 2 rfl) ?_
        refine lv_goto (tgt := 83) hx hb dX10_bestSure_56 (by decide) ?_
        exact W.iret hx hb hr (fun t ht _ => ⟨_, rfl, Option.some.inj hrun, ht⟩) (fun _ h => by cases h) dX10_bestSure_83
    have L20 : ∀ (n : Nat) (x2_20 : Int32) (x3_20 : Int32) (ls : Array Slot), fX10_bestSure_p20 N a1 v0_caseMany c1 k51 n x2_20 x3_20 = some ru → lv_has ls 4 [(0, .ref h0), (1, .int a1), (2, .int x2_20), (3, .int x3_20)] → W p l e (headSpec wsX10_bestSure ({ frames := 1, cells := 0, slots := 0, locals := 26 } : Room)).room s m ([.ref h0, .int a1] : List Value).toArray below meth c s.heap [] 0 0 (MQ below (vp_Si (fun r => r = ru)) ([.ref h0, .int a1] : List Value).toArray s 0 0 (fun _ => False)) (F0 m 20 ls []) := by
      intro n
      induction n with
      | zero => intro x2_20 x3_20 ls hrun; rw [fX10_bestSure_p20] at hrun; exact on_e hrun
      | succ n ih =>
        intro x2_20 x3_20 ls hrun hl
        rw [fX10_bestSure_p20] at hrun
        refine lv_iload_n hx hb dX10_bestSure_20 rfl (lv_at hl 3 rfl) ?_
        refine lv_bipush (v := (100 : Int32)) hx hb dX10_bestSure_21 (by decide) ?_
        refine lv_icmp_gt (tgt := 51) hx hb dX10_bestSure_23 (by decide) (fun cc => ?_) (fun cc => ?_)
        · have hrun := oi_t hrun cc
          exact J51 x2_20 ls hrun (lv_sub hl [0, 1, 2] rfl)
        · have hrun := oi_f hrun cc
          refine lv_aload_n hx hb dX10_bestSure_26 rfl (lv_at hl 0 rfl) ?_
          refine lv_iload_n hx hb dX10_bestSure_27 rfl (lv_at hl 3 rfl) ?_
          obtain ⟨q28, hc28, hrun⟩ := ob_e hrun
          refine wz_csi (va_runV (As := [.int x3_20]) (rest := []) ⟨hx, hb, hml, hown, hts⟩ (tX10_weigh l dC dI h0 h1 k1 (g0_length) (g0_text) (g0_itemMany) (g0_items) (g0_balls) (g0_outs) (g0_sightMany) (g0_sights) (g0_keptMany) (g0_cameras) (g0_callMany) (g0_calls) (g0_shares) (g0_rights) (g0_place) (g0_numbers) (g0_xs) (g0_ys) (g0_zs) (g0_us) (g0_vs) (g0_ws) (g0_touchTick) (g0_touchHalf) (g0_powers) (g0_worths) N x3_20 v0_caseMany c1 q28 hc28) (cwV 1 hts gX10_bestSure_X10_weigh rfl rfl rfl (by decide +kernel) ⟨Nat.le_of_ble_eq_true rfl, Nat.le_of_ble_eq_true rfl⟩) (wz_pVr (hP.sub (ws' := [(h0, .inr (10, [g0_length, g0_text, g0_itemMany, g0_items, g0_balls, g0_outs, g0_sightMany, g0_sights, g0_keptMany, g0_cameras, g0_callMany, g0_calls, g0_shares, g0_rights, .int v0_caseMany, .ref h1, g0_place, g0_numbers, g0_xs, g0_ys, g0_zs, g0_us, g0_vs, g0_ws, g0_touchTick, g0_touchHalf, g0_powers, g0_worths])), (h1, .inl (k1, 60, .inl c1))]) [0, 1] rfl) (hK.sub (tys' := [(k1, .int)]) [0] rfl) (va_recv hK hP (ci := 10) (q0 := 0) rfl rfl)) rfl rfl hl.1 rfl (lv_room (Nat.le_of_ble_eq_true rfl)) dX10_bestSure_28 ⟨Nat.zero_le _, Nat.zero_le _⟩) ?_
          refine lv_aload_n hx hb dX10_bestSure_31 rfl (lv_at hl 0 rfl) ?_
          refine lv_iload_n hx hb dX10_bestSure_32 rfl (lv_at hl 2 rfl) ?_
          obtain ⟨q33, hc33, hrun⟩ := ob_e hrun
          refine wz_csi (va_runV (As := [.int x2_20]) (rest := [.int q28]) ⟨hx, hb, hml, hown, hts⟩ (tX10_weigh l dC dI h0 h1 k1 (g0_length) (g0_text) (g0_itemMany) (g0_items) (g0_balls) (g0_outs) (g0_sightMany) (g0_sights) (g0_keptMany) (g0_cameras) (g0_callMany) (g0_calls) (g0_shares) (g0_rights) (g0_place) (g0_numbers) (g0_xs) (g0_ys) (g0_zs) (g0_us) (g0_vs) (g0_ws) (g0_touchTick) (g0_touchHalf) (g0_powers) (g0_worths) N x2_20 v0_caseMany c1 q33 hc33) (cwV 1 hts gX10_bestSure_X10_weigh rfl rfl rfl (by decide +kernel) ⟨Nat.le_of_ble_eq_true rfl, Nat.le_of_ble_eq_true rfl⟩) (wz_pVr (hP.sub (ws' := [(h0, .inr (10, [g0_length, g0_text, g0_itemMany, g0_items, g0_balls, g0_outs, g0_sightMany, g0_sights, g0_keptMany, g0_cameras, g0_callMany, g0_calls, g0_shares, g0_rights, .int v0_caseMany, .ref h1, g0_place, g0_numbers, g0_xs, g0_ys, g0_zs, g0_us, g0_vs, g0_ws, g0_touchTick, g0_touchHalf, g0_powers, g0_worths])), (h1, .inl (k1, 60, .inl c1))]) [0, 1] rfl) (hK.sub (tys' := [(k1, .int)]) [0] rfl) (va_recv hK hP (ci := 10) (q0 := 0) rfl rfl)) rfl rfl hl.1 rfl (lv_room (Nat.le_of_ble_eq_true rfl)) dX10_bestSure_33 ⟨Nat.zero_le _, Nat.zero_le _⟩) ?_
          obtain ⟨k44, ek44, hrun⟩ := jn_e hrun
          have J44 : ∀ (z0_44 : Int32) (ls : Array Slot), k44 z0_44 = some ru → lv_has ls 4 [(0, .ref h0), (1, .int a1), (3, .int x3_20)] → W p l e (headSpec wsX10_bestSure ({ frames := 1, cells := 0, slots := 0, locals := 26 } : Room)).room s m ([.ref h0, .int a1] : List Value).toArray below meth c s.heap [] 0 0 (MQ below (vp_Si (fun r => r = ru)) ([.ref h0, .int a1] : List Value).toArray s 0 0 (fun _ => False)) (F0 m 44 ls [.int z0_44]) := by
            intro z0_44 ls hrun hl
            rw [ek44] at hrun
            refine lv_istore_n (lv' := [(2, .int z0_44), (0, .ref h0), (1, .int a1), (3, .int x3_20)]) hx hb dX10_bestSure_44 rfl hl (by decide) rfl (fun ls hl => ?_)
            refine lv_iinc (v := (x3_20 + (1 : Int32))) (lv' := [(3, .int (x3_20 + (1 : Int32))), (2, .int z0_44), (0, .ref h0), (1, .int a1)]) hx hb dX10_bestSure_45 hl (k := 3) rfl rfl (by decide) rfl (fun ls hl => ?_)
            refine lv_goto (tgt := 20) hx hb dX10_bestSure_48 (by decide) ?_
            exact ih z0_44 ((x3_20 + (1 : Int32))) ls hrun (lv_sub hl [2, 3, 1, 0] rfl)
          refine lv_icmp_ge (tgt := 43) hx hb dX10_bestSure_36 (by decide) (fun cc => ?_) (fun cc => ?_)
          · have hrun := oi_t hrun cc
            refine lv_iload_n hx hb dX10_bestSure_43 rfl (lv_at hl 2 rfl) ?_
            exact J44 x2_20 ls hrun (lv_sub hl [0, 1, 3] rfl)
          · have hrun := oi_f hrun cc
            refine lv_iload_n hx hb dX10_bestSure_39 rfl (lv_at hl 3 rfl) ?_
            refine lv_goto (tgt := 44) hx hb dX10_bestSure_40 (by decide) ?_
            exact J44 x3_20 ls hrun (lv_sub hl [0, 1, 3] rfl)
    exact L20 N ((51 : Int32)) ((52 : Int32)) ls hrun (lv_sub hl [2, 3, 1, 0] rfl)
  · have hrun := oi_n hrun cc
    refine lv_iconst (v := (-1 : Int32)) hx hb dX10_bestSure_12 (by decide) ?_
    exact W.iret hx hb hr (fun t ht _ => ⟨_, rfl, Option.some.inj hrun, ht⟩) (fun _ h => by cases h) dX10_bestSure_13
set_option maxHeartbeats 4000000 in
set_option maxRecDepth 100000 in
theorem tX10_call (l : Launch) (dC : Nat → ClassId) (dI : Nat → Nat → Nat) (sz : Nat) (h0 h1 : Nat) (k1 : ClassId) (g0_length g0_text g0_itemMany g0_items g0_balls g0_outs g0_sightMany g0_sights g0_keptMany g0_cameras g0_shares g0_rights g0_caseMany g0_cases g0_place g0_numbers g0_xs g0_ys g0_zs g0_us g0_vs g0_ws g0_touchTick g0_touchHalf g0_powers g0_worths : Value) (N : Nat) (a1 : Int32) (a2 : Int32) (a3 : Int32) (v0_callMany : Int32) (c1 : Nat → Int32) (ru : Int32 × (Int32) × (Nat → Int32)) (hm : fX10_call N a1 a2 a3 v0_callMany c1 = some ru) : Met l yX10_call wsX10_call ({ frames := 1, cells := 0, slots := 0, locals := 25 } : Room) (va_Pc [.ref h0, .int a1, .int a2, .int a3] (fun U => U.heap.size = sz ∧ va_P (dC, dI) vwCl [(h0, .inr (10, [g0_length, g0_text, g0_itemMany, g0_items, g0_balls, g0_outs, g0_sightMany, g0_sights, g0_keptMany, g0_cameras, .int v0_callMany, .ref h1, g0_shares, g0_rights, g0_caseMany, g0_cases, g0_place, g0_numbers, g0_xs, g0_ys, g0_zs, g0_us, g0_vs, g0_ws, g0_touchTick, g0_touchHalf, g0_powers, g0_worths])), (h1, .inl (k1, 180, .inl c1))] U.heap ∧ va_K (dC, dI) vwCl [(k1, .int)] U ∧ va_D (fun _ => True) [(h0, .inr (10, [g0_length, g0_text, g0_itemMany, g0_items, g0_balls, g0_outs, g0_sightMany, g0_sights, g0_keptMany, g0_cameras, .int v0_callMany, .ref h1, g0_shares, g0_rights, g0_caseMany, g0_cases, g0_place, g0_numbers, g0_xs, g0_ys, g0_zs, g0_us, g0_vs, g0_ws, g0_touchTick, g0_touchHalf, g0_powers, g0_worths])), (h1, .inl (k1, 180, .inl c1))])) (va_Qi (fun r (_ : Unit) => r = ru.1) (fun (_ : Unit) t => va_P (dC, dI) vwCl [(h0, .inr (10, [g0_length, g0_text, g0_itemMany, g0_items, g0_balls, g0_outs, g0_sightMany, g0_sights, g0_keptMany, g0_cameras, .int ru.2.1, .ref h1, g0_shares, g0_rights, g0_caseMany, g0_cases, g0_place, g0_numbers, g0_xs, g0_ys, g0_zs, g0_us, g0_vs, g0_ws, g0_touchTick, g0_touchHalf, g0_powers, g0_worths])), (h1, .inl (k1, 180, .inl ru.2.2))] t.heap ∧ va_K (dC, dI) vwCl [(k1, .int)] t ∧ va_D (va_A [(h0, .inr (10, [g0_length, g0_text, g0_itemMany, g0_items, g0_balls, g0_outs, g0_sightMany, g0_sights, g0_keptMany, g0_cameras, .int v0_callMany, .ref h1, g0_shares, g0_rights, g0_caseMany, g0_cases, g0_place, g0_numbers, g0_xs, g0_ys, g0_zs, g0_us, g0_vs, g0_ws, g0_touchTick, g0_touchHalf, g0_powers, g0_worths])), (h1, .inl (k1, 180, .inl c1))] sz) [(h0, .inr (10, [g0_length, g0_text, g0_itemMany, g0_items, g0_balls, g0_outs, g0_sightMany, g0_sights, g0_keptMany, g0_cameras, .int ru.2.1, .ref h1, g0_shares, g0_rights, g0_caseMany, g0_cases, g0_place, g0_numbers, g0_xs, g0_ys, g0_zs, g0_us, g0_vs, g0_ws, g0_touchTick, g0_touchHalf, g0_powers, g0_worths])), (h1, .inl (k1, 180, .inl ru.2.2))]) (va_A [(h0, .inr (10, [g0_length, g0_text, g0_itemMany, g0_items, g0_balls, g0_outs, g0_sightMany, g0_sights, g0_keptMany, g0_cameras, .int v0_callMany, .ref h1, g0_shares, g0_rights, g0_caseMany, g0_cases, g0_place, g0_numbers, g0_xs, g0_ys, g0_zs, g0_us, g0_vs, g0_ws, g0_touchTick, g0_touchHalf, g0_powers, g0_worths])), (h1, .inl (k1, 180, .inl c1))] sz)) 0 0 (va_A [(h0, .inr (10, [g0_length, g0_text, g0_itemMany, g0_items, g0_balls, g0_outs, g0_sightMany, g0_sights, g0_keptMany, g0_cameras, .int v0_callMany, .ref h1, g0_shares, g0_rights, g0_caseMany, g0_cases, g0_place, g0_numbers, g0_xs, g0_ys, g0_zs, g0_us, g0_vs, g0_ws, g0_touchTick, g0_touchHalf, g0_powers, g0_worths])), (h1, .inl (k1, 180, .inl c1))] sz) := by
  refine Met.ofW (cc := cX10_call) (maxL := 4) (ret := (some .int)) (by decide) rfl ?_
  intro p e s m args below meth c s₁ B hml hv
  obtain ⟨rfl, hsz, hP, hK, hD0⟩ := hv
  have hx := B.exec
  have hb := B.bytes
  have hr := B.returns
  have hts := atoms_spec (ws := wsX10_call) B.pre
  have hown : s.vm.findClass RX10 = some m.cls := findClass_of_methodNamed B.named
  have hlocks := B.notSynchronized
  subst hsz
  have hD := hD0.self (sz := s.heap.size)
  generalize hAe : va_A [(h0, .inr (10, [g0_length, g0_text, g0_itemMany, g0_items, g0_balls, g0_outs, g0_sightMany, g0_sights, g0_keptMany, g0_cameras, .int v0_callMany, .ref h1, g0_shares, g0_rights, g0_caseMany, g0_cases, g0_place, g0_numbers, g0_xs, g0_ys, g0_zs, g0_us, g0_vs, g0_ws, g0_touchTick, g0_touchHalf, g0_powers, g0_worths])), (h1, .inl (k1, 180, .inl c1))] s.heap.size = A at hD ⊢
  have hA : ∀ q : Nat, s.heap.size ≤ q → A q := fun q h => by rw [← hAe]; exact Or.inr h
  have hS : va_S A s.heap s.heap [] := va_S.rf
  have hinX10 : ∀ w ∈ wsX100, w ∈ wsX10_call := by decide +kernel
  have hl := lv_entry ([.ref h0, .int a1, .int a2, .int a3]) (n := 4) (Nat.le_of_ble_eq_true rfl)
  rw [lg_entry_eq]
  generalize (lg_sl ([.ref h0, .int a1, .int a2, .int a3]) ++ List.replicate (4 - (lg_sl ([.ref h0, .int a1, .int a2, .int a3])).length) Slot.unset).toArray = ls at hl ⊢
  have hl : lv_has ls 4 [(0, .ref h0), (1, .int a1), (2, .int a2), (3, .int a3)] := hl
  have hrun := hm
  rw [fX10_call] at hrun
  obtain ⟨H, hHe⟩ : ∃ H, H = s.heap := ⟨_, rfl⟩
  obtain ⟨locs, hLe⟩ : ∃ locs : List Loc, locs = [] := ⟨_, rfl⟩
  rw [← hHe] at hP
  have hS : va_S A s.heap H locs := by rw [hHe, hLe]; exact hS
  have key : W p l e (headSpec wsX10_call ({ frames := 1, cells := 0, slots := 0, locals := 25 } : Room)).room s m ([.ref h0, .int a1, .int a2, .int a3] : List Value).toArray below meth c H locs 0 0 (MQ below (va_Qi (fun r (_ : Unit) => r = ru.1) (fun (_ : Unit) t => va_P (dC, dI) vwCl [(h0, .inr (10, [g0_length, g0_text, g0_itemMany, g0_items, g0_balls, g0_outs, g0_sightMany, g0_sights, g0_keptMany, g0_cameras, .int ru.2.1, .ref h1, g0_shares, g0_rights, g0_caseMany, g0_cases, g0_place, g0_numbers, g0_xs, g0_ys, g0_zs, g0_us, g0_vs, g0_ws, g0_touchTick, g0_touchHalf, g0_powers, g0_worths])), (h1, .inl (k1, 180, .inl ru.2.2))] t.heap ∧ va_K (dC, dI) vwCl [(k1, .int)] t ∧ va_D A [(h0, .inr (10, [g0_length, g0_text, g0_itemMany, g0_items, g0_balls, g0_outs, g0_sightMany, g0_sights, g0_keptMany, g0_cameras, .int ru.2.1, .ref h1, g0_shares, g0_rights, g0_caseMany, g0_cases, g0_place, g0_numbers, g0_xs, g0_ys, g0_zs, g0_us, g0_vs, g0_ws, g0_touchTick, g0_touchHalf, g0_powers, g0_worths])), (h1, .inl (k1, 180, .inl ru.2.2))]) A) ([.ref h0, .int a1, .int a2, .int a3] : List Value).toArray s 0 0 A) (F0 m 0 ls []) := by
    clear hHe hLe
    refine lv_iload_n hx hb dX10_call_0 rfl (lv_at hl 1 rfl) ?_
    refine lv_i2l (v := a1.toInt64) hx hb dX10_call_1 rfl ?_
    refine lv_ldc2 (v := (-20 : Int64)) hx hb hown (hts (.constantLong RX10 214 (-20 : Int64)) (by decide +kernel)) dX10_call_2 ?_
    refine lv_ldc2 (v := (20 : Int64)) hx hb hown (hts (.constantLong RX10 216 (20 : Int64)) (by decide +kernel)) dX10_call_5 ?_
    obtain ⟨q8, hc8, hrun⟩ := ob_e hrun
    refine wz_csz (va_runS (As := [.long a1.toInt64, .long (-20 : Int64), .long (20 : Int64)]) (rest := []) ⟨hx, hb, hml, hown, hts⟩ (tX10_in l dC dI N a1.toInt64 ((-20 : Int64)) ((20 : Int64)) q8 hc8) (va_cwS 3 hts gX10_call_X10_in rfl rfl rfl (by decide +kernel) ⟨Nat.le_of_ble_eq_true rfl, Nat.le_of_ble_eq_true rfl⟩) (wz_pSr (hP.sub (ws' := []) [] rfl) (hK.sub (tys' := []) [] rfl)) rfl rfl hl.1 rfl (lv_room (Nat.le_of_ble_eq_true rfl)) dX10_call_8 ⟨Nat.zero_le _, Nat.zero_le _⟩) (fun hz8 => ?_)
    refine lv_if_eq (tgt := 24) hx hb dX10_call_11 (by decide) (fun cc => ?_) (fun cc => ?_)
    · have hrun := oi_t hrun cc
      refine lv_iconst (v := (-1 : Int32)) hx hb dX10_call_24 (by decide) ?_
      cases hrun
      have hP9 : va_P (dC, dI) vwCl [(h0, .inr (10, [g0_length, g0_text, g0_itemMany, g0_items, g0_balls, g0_outs, g0_sightMany, g0_sights, g0_keptMany, g0_cameras, .int v0_callMany, .ref h1, g0_shares, g0_rights, g0_caseMany, g0_cases, g0_place, g0_numbers, g0_xs, g0_ys, g0_zs, g0_us, g0_vs, g0_ws, g0_touchTick, g0_touchHalf, g0_powers, g0_worths])), (h1, .inl (k1, 180, .inl c1))] H := hP
      have hD9 : va_D A [(h0, .inr (10, [g0_length, g0_text, g0_itemMany, g0_items, g0_balls, g0_outs, g0_sightMany, g0_sights, g0_keptMany, g0_cameras, .int v0_callMany, .ref h1, g0_shares, g0_rights, g0_caseMany, g0_cases, g0_place, g0_numbers, g0_xs, g0_ys, g0_zs, g0_us, g0_vs, g0_ws, g0_touchTick, g0_touchHalf, g0_powers, g0_worths])), (h1, .inl (k1, 180, .inl c1))] := hD
      exact W.iret hx hb hr (fun t ht hW => ⟨⟨_, (), rfl, rfl, by rw [ht]; exact hP9, va_K.moved hW.alike hK, hD9⟩, hS.F ht⟩) hS.2.2 dX10_call_25
    · have hrun := oi_f hrun cc
      refine lv_iload_n hx hb dX10_call_14 rfl (lv_at hl 2 rfl) ?_
      refine lv_i2l (v := a2.toInt64) hx hb dX10_call_15 rfl ?_
      refine lv_lconst (v := (0 : Int64)) hx hb dX10_call_16 (by decide) ?_
      refine lv_lconst (v := (1 : Int64)) hx hb dX10_call_17 (by decide) ?_
      obtain ⟨q18, hc18, hrun⟩ := ob_e hrun
      refine wz_csz (va_runS (As := [.long a2.toInt64, .long (0 : Int64), .long (1 : Int64)]) (rest := []) ⟨hx, hb, hml, hown, hts⟩ (tX10_in l dC dI N a2.toInt64 ((0 : Int64)) ((1 : Int64)) q18 hc18) (va_cwS 3 hts gX10_call_X10_in rfl rfl rfl (by decide +kernel) ⟨Nat.le_of_ble_eq_true rfl, Nat.le_of_ble_eq_true rfl⟩) (wz_pSr (hP.sub (ws' := []) [] rfl) (hK.sub (tys' := []) [] rfl)) rfl rfl hl.1 rfl (lv_room (Nat.le_of_ble_eq_true rfl)) dX10_call_18 ⟨Nat.zero_le _, Nat.zero_le _⟩) (fun hz18 => ?_)
      refine lv_if_ne (tgt := 26) hx hb dX10_call_21 (by decide) (fun cc => ?_) (fun cc => ?_)
      · have hrun := oi_t hrun cc
        refine lv_aload_n hx hb dX10_call_26 rfl (lv_at hl 0 rfl) ?_
        refine va_get (D := (dC, dI)) (ci := 10) (v := .int v0_callMany) (C := RX10) (T := TX10) (N := 28) hx hb hts hinX10 hown hK hP 0 rfl rfl 10 (by decide) (hts (.fieldLink RX10 218 "WasItOutModel" "callMany" "I") (by decide +kernel)) (fun _ h9 => h9) rfl dX10_call_27 ?_
        refine lv_bipush (v := (60 : Int32)) hx hb dX10_call_30 (by decide) ?_
        refine lv_icmp_ne (tgt := 38) hx hb dX10_call_32 (by decide) (fun cc => ?_) (fun cc => ?_)
        · have hrun := oi_t hrun cc
          refine lv_aload_n hx hb dX10_call_38 rfl (lv_at hl 0 rfl) ?_
          refine va_get (D := (dC, dI)) (ci := 10) (v := .ref h1) (C := RX10) (T := TX10) (N := 28) hx hb hts hinX10 hown hK hP 0 rfl rfl 11 (by decide) (hts (.fieldLink RX10 34 "WasItOutModel" "calls" "[I") (by decide +kernel)) (fun _ h9 => h9) rfl dX10_call_39 ?_
          refine lv_iconst (v := (3 : Int32)) hx hb dX10_call_42 (by decide) ?_
          refine lv_aload_n hx hb dX10_call_43 rfl (lv_at hl 0 rfl) ?_
          refine va_get (D := (dC, dI)) (ci := 10) (v := .int v0_callMany) (C := RX10) (T := TX10) (N := 28) hx hb hts hinX10 hown hK hP 0 rfl rfl 10 (by decide) (hts (.fieldLink RX10 218 "WasItOutModel" "callMany" "I") (by decide +kernel)) (fun _ h9 => h9) rfl dX10_call_44 ?_
          refine lv_imul hx hb dX10_call_47 ?_
          refine lv_iload_n hx hb dX10_call_48 rfl (lv_at hl 1 rfl) ?_
          obtain ⟨hi, hrun⟩ := oi_x hrun
          refine va_iast hx hb hK hP hD hS 1 0 rfl rfl hi dX10_call_49 (fun H locs hP hD hS => ?_)
          have hP : va_P (dC, dI) vwCl [(h0, .inr (10, [g0_length, g0_text, g0_itemMany, g0_items, g0_balls, g0_outs, g0_sightMany, g0_sights, g0_keptMany, g0_cameras, .int v0_callMany, .ref h1, g0_shares, g0_rights, g0_caseMany, g0_cases, g0_place, g0_numbers, g0_xs, g0_ys, g0_zs, g0_us, g0_vs, g0_ws, g0_touchTick, g0_touchHalf, g0_powers, g0_worths])), (h1, .inl (k1, 180, .inl (upd c1 ((3 : Int32) * v0_callMany).toNatClampNeg a1)))] H := hP
          have hD : va_D A [(h0, .inr (10, [g0_length, g0_text, g0_itemMany, g0_items, g0_balls, g0_outs, g0_sightMany, g0_sights, g0_keptMany, g0_cameras, .int v0_callMany, .ref h1, g0_shares, g0_rights, g0_caseMany, g0_cases, g0_place, g0_numbers, g0_xs, g0_ys, g0_zs, g0_us, g0_vs, g0_ws, g0_touchTick, g0_touchHalf, g0_powers, g0_worths])), (h1, .inl (k1, 180, .inl (upd c1 ((3 : Int32) * v0_callMany).toNatClampNeg a1)))] := hD
          refine lv_aload_n hx hb dX10_call_50 rfl (lv_at hl 0 rfl) ?_
          refine va_get (D := (dC, dI)) (ci := 10) (v := .ref h1) (C := RX10) (T := TX10) (N := 28) hx hb hts hinX10 hown hK hP 0 rfl rfl 11 (by decide) (hts (.fieldLink RX10 34 "WasItOutModel" "calls" "[I") (by decide +kernel)) (fun _ h9 => h9) rfl dX10_call_51 ?_
          refine lv_iconst (v := (3 : Int32)) hx hb dX10_call_54 (by decide) ?_
          refine lv_aload_n hx hb dX10_call_55 rfl (lv_at hl 0 rfl) ?_
          refine va_get (D := (dC, dI)) (ci := 10) (v := .int v0_callMany) (C := RX10) (T := TX10) (N := 28) hx hb hts hinX10 hown hK hP 0 rfl rfl 10 (by decide) (hts (.fieldLink RX10 218 "WasItOutModel" "callMany" "I") (by decide +kernel)) (fun _ h9 => h9) rfl dX10_call_56 ?_
          refine lv_imul hx hb dX10_call_59 ?_
          refine lv_iconst (v := (1 : Int32)) hx hb dX10_call_60 (by decide) ?_
          refine lv_iadd hx hb dX10_call_61 ?_
          refine lv_iload_n hx hb dX10_call_62 rfl (lv_at hl 2 rfl) ?_
          obtain ⟨hi, hrun⟩ := oi_x hrun
          refine va_iast hx hb hK hP hD hS 1 0 rfl rfl hi dX10_call_63 (fun H locs hP hD hS => ?_)
          have hP : va_P (dC, dI) vwCl [(h0, .inr (10, [g0_length, g0_text, g0_itemMany, g0_items, g0_balls, g0_outs, g0_sightMany, g0_sights, g0_keptMany, g0_cameras, .int v0_callMany, .ref h1, g0_shares, g0_rights, g0_caseMany, g0_cases, g0_place, g0_numbers, g0_xs, g0_ys, g0_zs, g0_us, g0_vs, g0_ws, g0_touchTick, g0_touchHalf, g0_powers, g0_worths])), (h1, .inl (k1, 180, .inl (upd (upd c1 ((3 : Int32) * v0_callMany).toNatClampNeg a1) (((3 : Int32) * v0_callMany) + (1 : Int32)).toNatClampNeg a2)))] H := hP
          have hD : va_D A [(h0, .inr (10, [g0_length, g0_text, g0_itemMany, g0_items, g0_balls, g0_outs, g0_sightMany, g0_sights, g0_keptMany, g0_cameras, .int v0_callMany, .ref h1, g0_shares, g0_rights, g0_caseMany, g0_cases, g0_place, g0_numbers, g0_xs, g0_ys, g0_zs, g0_us, g0_vs, g0_ws, g0_touchTick, g0_touchHalf, g0_powers, g0_worths])), (h1, .inl (k1, 180, .inl (upd (upd c1 ((3 : Int32) * v0_callMany).toNatClampNeg a1) (((3 : Int32) * v0_callMany) + (1 : Int32)).toNatClampNeg a2)))] := hD
          refine lv_aload_n hx hb dX10_call_64 rfl (lv_at hl 0 rfl) ?_
          refine va_get (D := (dC, dI)) (ci := 10) (v := .ref h1) (C := RX10) (T := TX10) (N := 28) hx hb hts hinX10 hown hK hP 0 rfl rfl 11 (by decide) (hts (.fieldLink RX10 34 "WasItOutModel" "calls" "[I") (by decide +kernel)) (fun _ h9 => h9) rfl dX10_call_65 ?_
          refine lv_iconst (v := (3 : Int32)) hx hb dX10_call_68 (by decide) ?_
          refine lv_aload_n hx hb dX10_call_69 rfl (lv_at hl 0 rfl) ?_
          refine va_get (D := (dC, dI)) (ci := 10) (v := .int v0_callMany) (C := RX10) (T := TX10) (N := 28) hx hb hts hinX10 hown hK hP 0 rfl rfl 10 (by decide) (hts (.fieldLink RX10 218 "WasItOutModel" "callMany" "I") (by decide +kernel)) (fun _ h9 => h9) rfl dX10_call_70 ?_
          refine lv_imul hx hb dX10_call_73 ?_
          refine lv_iconst (v := (2 : Int32)) hx hb dX10_call_74 (by decide) ?_
          refine lv_iadd hx hb dX10_call_75 ?_
          refine lv_iload_n hx hb dX10_call_76 rfl (lv_at hl 3 rfl) ?_
          obtain ⟨k85, ek85, hrun⟩ := jn_e hrun
          have J85 : ∀ (z0_85 : Int32) (ls : Array Slot) (H : Heap) (locs : List Loc), k85 z0_85 = some ru → va_P (dC, dI) vwCl [(h0, .inr (10, [g0_length, g0_text, g0_itemMany, g0_items, g0_balls, g0_outs, g0_sightMany, g0_sights, g0_keptMany, g0_cameras, .int v0_callMany, .ref h1, g0_shares, g0_rights, g0_caseMany, g0_cases, g0_place, g0_numbers, g0_xs, g0_ys, g0_zs, g0_us, g0_vs, g0_ws, g0_touchTick, g0_touchHalf, g0_powers, g0_worths])), (h1, .inl (k1, 180, .inl (upd (upd c1 ((3 : Int32) * v0_callMany).toNatClampNeg a1) (((3 : Int32) * v0_callMany) + (1 : Int32)).toNatClampNeg a2)))] H → va_D A [(h0, .inr (10, [g0_length, g0_text, g0_itemMany, g0_items, g0_balls, g0_outs, g0_sightMany, g0_sights, g0_keptMany, g0_cameras, .int v0_callMany, .ref h1, g0_shares, g0_rights, g0_caseMany, g0_cases, g0_place, g0_numbers, g0_xs, g0_ys, g0_zs, g0_us, g0_vs, g0_ws, g0_touchTick, g0_touchHalf, g0_powers, g0_worths])), (h1, .inl (k1, 180, .inl (upd (upd c1 ((3 : Int32) * v0_callMany).toNatClampNeg a1) (((3 : Int32) * v0_callMany) + (1 : Int32)).toNatClampNeg a2)))] → va_S A s.heap H locs → lv_has ls 4 [(0, .ref h0)] → W p l e (headSpec wsX10_call ({ frames := 1, cells := 0, slots := 0, locals := 25 } : Room)).room s m ([.ref h0, .int a1, .int a2, .int a3] : List Value).toArray below meth c H locs 0 0 (MQ below (va_Qi (fun r (_ : Unit) => r = ru.1) (fun (_ : Unit) t => va_P (dC, dI) vwCl [(h0, .inr (10, [g0_length, g0_text, g0_itemMany, g0_items, g0_balls, g0_outs, g0_sightMany, g0_sights, g0_keptMany, g0_cameras, .int ru.2.1, .ref h1, g0_shares, g0_rights, g0_caseMany, g0_cases, g0_place, g0_numbers, g0_xs, g0_ys, g0_zs, g0_us, g0_vs, g0_ws, g0_touchTick, g0_touchHalf, g0_powers, g0_worths])), (h1, .inl (k1, 180, .inl ru.2.2))] t.heap ∧ va_K (dC, dI) vwCl [(k1, .int)] t ∧ va_D A [(h0, .inr (10, [g0_length, g0_text, g0_itemMany, g0_items, g0_balls, g0_outs, g0_sightMany, g0_sights, g0_keptMany, g0_cameras, .int ru.2.1, .ref h1, g0_shares, g0_rights, g0_caseMany, g0_cases, g0_place, g0_numbers, g0_xs, g0_ys, g0_zs, g0_us, g0_vs, g0_ws, g0_touchTick, g0_touchHalf, g0_powers, g0_worths])), (h1, .inl (k1, 180, .inl ru.2.2))]) A) ([.ref h0, .int a1, .int a2, .int a3] : List Value).toArray s 0 0 A) (F0 m 85 ls [.int z0_85, .int (((3 : Int32) * v0_callMany) + (2 : Int32)), .ref h1]) := by
            intro z0_85 ls H locs hrun hP hD hS hl
            rw [ek85] at hrun
            obtain ⟨hi, hrun⟩ := oi_x hrun
            refine va_iast hx hb hK hP hD hS 1 0 rfl rfl hi dX10_call_85 (fun H locs hP hD hS => ?_)
            have hP : va_P (dC, dI) vwCl [(h0, .inr (10, [g0_length, g0_text, g0_itemMany, g0_items, g0_balls, g0_outs, g0_sightMany, g0_sights, g0_keptMany, g0_cameras, .int v0_callMany, .ref h1, g0_shares, g0_rights, g0_caseMany, g0_cases, g0_place, g0_numbers, g0_xs, g0_ys, g0_zs, g0_us, g0_vs, g0_ws, g0_touchTick, g0_touchHalf, g0_powers, g0_worths])), (h1, .inl (k1, 180, .inl (upd (upd (upd c1 ((3 : Int32) * v0_callMany).toNatClampNeg a1) (((3 : Int32) * v0_callMany) + (1 : Int32)).toNatClampNeg a2) (((3 : Int32) * v0_callMany) + (2 : Int32)).toNatClampNeg z0_85)))] H := hP
            have hD : va_D A [(h0, .inr (10, [g0_length, g0_text, g0_itemMany, g0_items, g0_balls, g0_outs, g0_sightMany, g0_sights, g0_keptMany, g0_cameras, .int v0_callMany, .ref h1, g0_shares, g0_rights, g0_caseMany, g0_cases, g0_place, g0_numbers, g0_xs, g0_ys, g0_zs, g0_us, g0_vs, g0_ws, g0_touchTick, g0_touchHalf, g0_powers, g0_worths])), (h1, .inl (k1, 180, .inl (upd (upd (upd c1 ((3 : Int32) * v0_callMany).toNatClampNeg a1) (((3 : Int32) * v0_callMany) + (1 : Int32)).toNatClampNeg a2) (((3 : Int32) * v0_callMany) + (2 : Int32)).toNatClampNeg z0_85)))] := hD
            refine lv_aload_n hx hb dX10_call_86 rfl (lv_at hl 0 rfl) ?_
            refine lv_dup hx hb dX10_call_87 rfl ?_
            refine va_get (D := (dC, dI)) (ci := 10) (v := .int v0_callMany) (C := RX10) (T := TX10) (N := 28) hx hb hts hinX10 hown hK hP 0 rfl rfl 10 (by decide) (hts (.fieldLink RX10 218 "WasItOutModel" "callMany" "I") (by decide +kernel)) (fun _ h9 => h9) rfl dX10_call_88 ?_
            refine lv_iconst (v := (1 : Int32)) hx hb dX10_call_91 (by decide) ?_
            refine lv_iadd hx hb dX10_call_92 ?_
            refine va_put (D := (dC, dI)) (ci := 10) (v := .int (v0_callMany + (1 : Int32))) (ty := .int) (C := RX10) (T := TX10) (N := 28) hx hb hts hinX10 tyX10 tyX10_ok nmX10 hown hK hP hD hS 0 rfl rfl 10 (by decide) (hts (.fieldLink RX10 218 "WasItOutModel" "callMany" "I") (by decide +kernel)) (fun _ h9 => h9) rfl (by decide +kernel) rfl rfl (Nat.le_of_ble_eq_true rfl) dX10_call_93 (fun H locs hP hD hS => ?_)
            have hP : va_P (dC, dI) vwCl [(h0, .inr (10, [g0_length, g0_text, g0_itemMany, g0_items, g0_balls, g0_outs, g0_sightMany, g0_sights, g0_keptMany, g0_cameras, .int (v0_callMany + (1 : Int32)), .ref h1, g0_shares, g0_rights, g0_caseMany, g0_cases, g0_place, g0_numbers, g0_xs, g0_ys, g0_zs, g0_us, g0_vs, g0_ws, g0_touchTick, g0_touchHalf, g0_powers, g0_worths])), (h1, .inl (k1, 180, .inl (upd (upd (upd c1 ((3 : Int32) * v0_callMany).toNatClampNeg a1) (((3 : Int32) * v0_callMany) + (1 : Int32)).toNatClampNeg a2) (((3 : Int32) * v0_callMany) + (2 : Int32)).toNatClampNeg z0_85)))] H := hP
            have hD : va_D A [(h0, .inr (10, [g0_length, g0_text, g0_itemMany, g0_items, g0_balls, g0_outs, g0_sightMany, g0_sights, g0_keptMany, g0_cameras, .int (v0_callMany + (1 : Int32)), .ref h1, g0_shares, g0_rights, g0_caseMany, g0_cases, g0_place, g0_numbers, g0_xs, g0_ys, g0_zs, g0_us, g0_vs, g0_ws, g0_touchTick, g0_touchHalf, g0_powers, g0_worths])), (h1, .inl (k1, 180, .inl (upd (upd (upd c1 ((3 : Int32) * v0_callMany).toNatClampNeg a1) (((3 : Int32) * v0_callMany) + (1 : Int32)).toNatClampNeg a2) (((3 : Int32) * v0_callMany) + (2 : Int32)).toNatClampNeg z0_85)))] := hD
            refine lv_aload_n hx hb dX10_call_96 rfl (lv_at hl 0 rfl) ?_
            refine va_get (D := (dC, dI)) (ci := 10) (v := .int (v0_callMany + (1 : Int32))) (C := RX10) (T := TX10) (N := 28) hx hb hts hinX10 hown hK hP 0 rfl rfl 10 (by decide) (hts (.fieldLink RX10 218 "WasItOutModel" "callMany" "I") (by decide +kernel)) (fun _ h9 => h9) rfl dX10_call_97 ?_
            cases hrun
            have hP9 : va_P (dC, dI) vwCl [(h0, .inr (10, [g0_length, g0_text, g0_itemMany, g0_items, g0_balls, g0_outs, g0_sightMany, g0_sights, g0_keptMany, g0_cameras, .int (v0_callMany + (1 : Int32)), .ref h1, g0_shares, g0_rights, g0_caseMany, g0_cases, g0_place, g0_numbers, g0_xs, g0_ys, g0_zs, g0_us, g0_vs, g0_ws, g0_touchTick, g0_touchHalf, g0_powers, g0_worths])), (h1, .inl (k1, 180, .inl (upd (upd (upd c1 ((3 : Int32) * v0_callMany).toNatClampNeg a1) (((3 : Int32) * v0_callMany) + (1 : Int32)).toNatClampNeg a2) (((3 : Int32) * v0_callMany) + (2 : Int32)).toNatClampNeg z0_85)))] H := hP
            have hD9 : va_D A [(h0, .inr (10, [g0_length, g0_text, g0_itemMany, g0_items, g0_balls, g0_outs, g0_sightMany, g0_sights, g0_keptMany, g0_cameras, .int (v0_callMany + (1 : Int32)), .ref h1, g0_shares, g0_rights, g0_caseMany, g0_cases, g0_place, g0_numbers, g0_xs, g0_ys, g0_zs, g0_us, g0_vs, g0_ws, g0_touchTick, g0_touchHalf, g0_powers, g0_worths])), (h1, .inl (k1, 180, .inl (upd (upd (upd c1 ((3 : Int32) * v0_callMany).toNatClampNeg a1) (((3 : Int32) * v0_callMany) + (1 : Int32)).toNatClampNeg a2) (((3 : Int32) * v0_callMany) + (2 : Int32)).toNatClampNeg z0_85)))] := hD
            exact W.iret hx hb hr (fun t ht hW => ⟨⟨_, (), rfl, rfl, by rw [ht]; exact hP9, va_K.moved hW.alike hK, hD9⟩, hS.F ht⟩) hS.2.2 dX10_call_100
          refine lv_if_eq (tgt := 84) hx hb dX10_call_77 (by decide) (fun cc => ?_) (fun cc => ?_)
          · have hrun := oi_t hrun cc
            refine lv_iconst (v := (0 : Int32)) hx hb dX10_call_84 (by decide) ?_
            exact J85 ((0 : Int32)) ls H locs hrun hP hD hS (lv_sub hl [0] rfl)
          · have hrun := oi_f hrun cc
            refine lv_iconst (v := (1 : Int32)) hx hb dX10_call_80 (by decide) ?_
            refine lv_goto (tgt := 85) hx hb dX10_call_81 (by decide) ?_
            exact J85 ((1 : Int32)) ls H locs hrun hP hD hS (lv_sub hl [0] rfl)
        · have hrun := oi_n hrun cc
          refine lv_bipush (v := (-3 : Int32)) hx hb dX10_call_35 (by decide) ?_
          cases hrun
          have hP9 : va_P (dC, dI) vwCl [(h0, .inr (10, [g0_length, g0_text, g0_itemMany, g0_items, g0_balls, g0_outs, g0_sightMany, g0_sights, g0_keptMany, g0_cameras, .int v0_callMany, .ref h1, g0_shares, g0_rights, g0_caseMany, g0_cases, g0_place, g0_numbers, g0_xs, g0_ys, g0_zs, g0_us, g0_vs, g0_ws, g0_touchTick, g0_touchHalf, g0_powers, g0_worths])), (h1, .inl (k1, 180, .inl c1))] H := hP
          have hD9 : va_D A [(h0, .inr (10, [g0_length, g0_text, g0_itemMany, g0_items, g0_balls, g0_outs, g0_sightMany, g0_sights, g0_keptMany, g0_cameras, .int v0_callMany, .ref h1, g0_shares, g0_rights, g0_caseMany, g0_cases, g0_place, g0_numbers, g0_xs, g0_ys, g0_zs, g0_us, g0_vs, g0_ws, g0_touchTick, g0_touchHalf, g0_powers, g0_worths])), (h1, .inl (k1, 180, .inl c1))] := hD
          exact W.iret hx hb hr (fun t ht hW => ⟨⟨_, (), rfl, rfl, by rw [ht]; exact hP9, va_K.moved hW.alike hK, hD9⟩, hS.F ht⟩) hS.2.2 dX10_call_37
      · have hrun := oi_n hrun cc
        refine lv_iconst (v := (-1 : Int32)) hx hb dX10_call_24 (by decide) ?_
        cases hrun
        have hP9 : va_P (dC, dI) vwCl [(h0, .inr (10, [g0_length, g0_text, g0_itemMany, g0_items, g0_balls, g0_outs, g0_sightMany, g0_sights, g0_keptMany, g0_cameras, .int v0_callMany, .ref h1, g0_shares, g0_rights, g0_caseMany, g0_cases, g0_place, g0_numbers, g0_xs, g0_ys, g0_zs, g0_us, g0_vs, g0_ws, g0_touchTick, g0_touchHalf, g0_powers, g0_worths])), (h1, .inl (k1, 180, .inl c1))] H := hP
        have hD9 : va_D A [(h0, .inr (10, [g0_length, g0_text, g0_itemMany, g0_items, g0_balls, g0_outs, g0_sightMany, g0_sights, g0_keptMany, g0_cameras, .int v0_callMany, .ref h1, g0_shares, g0_rights, g0_caseMany, g0_cases, g0_place, g0_numbers, g0_xs, g0_ys, g0_zs, g0_us, g0_vs, g0_ws, g0_touchTick, g0_touchHalf, g0_powers, g0_worths])), (h1, .inl (k1, 180, .inl c1))] := hD
        exact W.iret hx hb hr (fun t ht hW => ⟨⟨_, (), rfl, rfl, by rw [ht]; exact hP9, va_K.moved hW.alike hK, hD9⟩, hS.F ht⟩) hS.2.2 dX10_call_25
  rw [hHe, hLe] at key
  exact key
set_option maxHeartbeats 4000000 in
set_option maxRecDepth 100000 in
theorem tX10_common (l : Launch) (dC : Nat → ClassId) (dI : Nat → Nat → Nat) (N : Nat) (a0 : Int64) (a2 : Int64)  (ru : Int64) (hm : fX10_common N a0 a2 = some ru) : Met l yX10_common wsX10_common ({ frames := 0, cells := 0, slots := 0, locals := 0 } : Room) (va_Pc [.long a0, .long a2] (fun U => va_P (dC, dI) vwCl [] U.heap ∧ va_K (dC, dI) vwCl [] U)) (vp_Sl (fun r => r = ru)) 0 0 (fun _ => False) := by
  refine Met.ofW (cc := cX10_common) (maxL := 10) (ret := (some .long)) (by decide) rfl ?_
  intro p e s m args below meth c s₁ B hml hv
  obtain ⟨rfl, hP, hK⟩ := hv
  have hx := B.exec
  have hb := B.bytes
  have hr := B.returns
  have hts := atoms_spec (ws := wsX10_common) B.pre
  have hown : s.vm.findClass RX10 = some m.cls := findClass_of_methodNamed B.named
  have hlocks := B.notSynchronized
  have hl := lv_entry ([.long a0, .long a2]) (n := 10) (Nat.le_of_ble_eq_true rfl)
  rw [lg_entry_eq]
  generalize (lg_sl ([.long a0, .long a2]) ++ List.replicate (10 - (lg_sl ([.long a0, .long a2])).length) Slot.unset).toArray = ls at hl ⊢
  have hl : lv_has ls 10 [(0, .long a0), (2, .long a2)] := hl
  have hrun := hm
  rw [fX10_common] at hrun
  refine lv_lload_n hx hb dX10_common_0 rfl (lv_at hl 0 rfl) ?_
  refine lv_lstore (lv' := [(4, .long a0), (0, .long a0), (2, .long a2)]) hx hb dX10_common_1 hl (by decide) rfl (fun ls hl => ?_)
  refine lv_lload_n hx hb dX10_common_3 rfl (lv_at hl 2 rfl) ?_
  refine lv_lstore (lv' := [(6, .long a2), (4, .long a0), (0, .long a0), (2, .long a2)]) hx hb dX10_common_4 hl (by decide) rfl (fun ls hl => ?_)
  obtain ⟨k31, ek31, hrun⟩ := jn_e hrun
  have J31 : ∀ (x4_31 : Int64) (ls : Array Slot), k31 x4_31 = some ru → lv_has ls 10 [(4, .long x4_31)] → W p l e (headSpec wsX10_common ({ frames := 0, cells := 0, slots := 0, locals := 0 } : Room)).room s m ([.long a0, .long a2] : List Value).toArray below meth c s.heap [] 0 0 (MQ below (vp_Sl (fun r => r = ru)) ([.long a0, .long a2] : List Value).toArray s 0 0 (fun _ => False)) (F0 m 31 ls []) := by
    intro x4_31 ls hrun hl
    rw [ek31] at hrun
    refine lv_lload hx hb dX10_common_31 (lv_at hl 0 rfl) ?_
    exact W.lret hx hb hr (fun t ht _ => ⟨_, rfl, Option.some.inj hrun, ht⟩) (fun _ h => by cases h) dX10_common_33
  have L6 : ∀ (n : Nat) (x4_6 : Int64) (x6_6 : Int64) (ls : Array Slot), fX10_common_p6 N  k31 n x4_6 x6_6 = some ru → lv_has ls 10 [(4, .long x4_6), (6, .long x6_6)] → W p l e (headSpec wsX10_common ({ frames := 0, cells := 0, slots := 0, locals := 0 } : Room)).room s m ([.long a0, .long a2] : List Value).toArray below meth c s.heap [] 0 0 (MQ below (vp_Sl (fun r => r = ru)) ([.long a0, .long a2] : List Value).toArray s 0 0 (fun _ => False)) (F0 m 6 ls []) := by
    intro n
    induction n with
    | zero => intro x4_6 x6_6 ls hrun; rw [fX10_common_p6] at hrun; exact on_e hrun
    | succ n ih =>
      intro x4_6 x6_6 ls hrun hl
      rw [fX10_common_p6] at hrun
      refine lv_lload hx hb dX10_common_6 (lv_at hl 1 rfl) ?_
      refine lv_lconst (v := (0 : Int64)) hx hb dX10_common_8 (by decide) ?_
      refine W.lcmp hx hb dX10_common_9 ?_
      refine lv_if_eq (tgt := 31) hx hb dX10_common_10 (by decide) (fun cc => ?_) (fun cc => ?_)
      · have hrun := oi_t hrun cc
        exact J31 x4_6 ls hrun (lv_sub hl [0] rfl)
      · have hrun := oi_f hrun cc
        refine lv_lload hx hb dX10_common_13 (lv_at hl 0 rfl) ?_
        refine lv_lload hx hb dX10_common_15 (lv_at hl 1 rfl) ?_
        obtain ⟨hne, hrun⟩ := oi_g hrun
        refine lv_lrem hx hb dX10_common_17 hne ?_
        refine lv_lstore (lv' := [(8, .long (x4_6 - x4_6 / x6_6 * x6_6)), (4, .long x4_6), (6, .long x6_6)]) hx hb dX10_common_18 hl (by decide) rfl (fun ls hl => ?_)
        refine lv_lload hx hb dX10_common_20 (lv_at hl 2 rfl) ?_
        refine lv_lstore (lv' := [(4, .long x6_6), (8, .long (x4_6 - x4_6 / x6_6 * x6_6)), (6, .long x6_6)]) hx hb dX10_common_22 hl (by decide) rfl (fun ls hl => ?_)
        refine lv_lload hx hb dX10_common_24 (lv_at hl 1 rfl) ?_
        refine lv_lstore (lv' := [(6, .long (x4_6 - x4_6 / x6_6 * x6_6)), (4, .long x6_6), (8, .long (x4_6 - x4_6 / x6_6 * x6_6))]) hx hb dX10_common_26 hl (by decide) rfl (fun ls hl => ?_)
        refine lv_goto (tgt := 6) hx hb dX10_common_28 (by decide) ?_
        exact ih x6_6 ((x4_6 - x4_6 / x6_6 * x6_6)) ls hrun (lv_sub hl [1, 0] rfl)
  exact L6 N a0 a2 ls hrun (lv_sub hl [1, 0] rfl)
set_option maxHeartbeats 4000000 in
set_option maxRecDepth 100000 in
theorem tX10_count (l : Launch) (dC : Nat → ClassId) (dI : Nat → Nat → Nat) (h0 h1 h2 : Nat) (k1 k2 : ClassId) (g0_text g0_items g0_balls g0_outs g0_sights g0_cameras g0_calls g0_shares g0_rights g0_cases g0_place g0_numbers g0_xs g0_ys g0_zs g0_us g0_vs g0_ws g0_touchTick g0_touchHalf g0_powers g0_worths : Value) (N : Nat) (a1 : Int32) (v0_length : Int32) (v0_keptMany : Int32) (v0_callMany : Int32) (v0_caseMany : Int32) (c1 : Nat → Int32) (c2 : Nat → Int32) (ru : Int32) (hm : fX10_count N a1 v0_length v0_keptMany v0_callMany v0_caseMany c1 c2 = some ru) : Met l yX10_count wsX10_count ({ frames := 0, cells := 0, slots := 0, locals := 0 } : Room) (va_Pc [.ref h0, .int a1] (fun U => va_P (dC, dI) vwCl [(h0, .inr (10, [.int v0_length, g0_text, .ref h1, g0_items, g0_balls, g0_outs, .ref h2, g0_sights, .int v0_keptMany, g0_cameras, .int v0_callMany, g0_calls, g0_shares, g0_rights, .int v0_caseMany, g0_cases, g0_place, g0_numbers, g0_xs, g0_ys, g0_zs, g0_us, g0_vs, g0_ws, g0_touchTick, g0_touchHalf, g0_powers, g0_worths])), (h1, .inl (k1, 2, .inl c1)), (h2, .inl (k2, 3, .inl c2))] U.heap ∧ va_K (dC, dI) vwCl [(k1, .int), (k2, .int)] U)) (vp_Si (fun r => r = ru)) 0 0 (fun _ => False) := by
  refine Met.ofW (cc := cX10_count) (maxL := 2) (ret := (some .int)) (by decide) rfl ?_
  intro p e s m args below meth c s₁ B hml hv
  obtain ⟨rfl, hP, hK⟩ := hv
  have hx := B.exec
  have hb := B.bytes
  have hr := B.returns
  have hts := atoms_spec (ws := wsX10_count) B.pre
  have hown : s.vm.findClass RX10 = some m.cls := findClass_of_methodNamed B.named
  have hlocks := B.notSynchronized
  have hinX10 : ∀ w ∈ wsX100, w ∈ wsX10_count := by decide +kernel
  have hl := lv_entry ([.ref h0, .int a1]) (n := 2) (Nat.le_of_ble_eq_true rfl)
  rw [lg_entry_eq]
  generalize (lg_sl ([.ref h0, .int a1]) ++ List.replicate (2 - (lg_sl ([.ref h0, .int a1])).length) Slot.unset).toArray = ls at hl ⊢
  have hl : lv_has ls 2 [(0, .ref h0), (1, .int a1)] := hl
  have hrun := hm
  rw [fX10_count] at hrun
  refine lv_iload_n hx hb dX10_count_0 rfl (lv_at hl 1 rfl) ?_
  by_cases cs0 : a1 = (0 : Int32)
  · have hrun := oi_t hrun cs0
    refine lv_tableIn (tgt := 40) hx hb dX10_count_1 (by rw [cs0]; decide) (by rw [cs0]; decide) (by rw [cs0]; rfl) (by decide) ?_
    refine lv_aload_n hx hb dX10_count_40 rfl (lv_at hl 0 rfl) ?_
    refine va_get (D := (dC, dI)) (ci := 10) (v := .int v0_length) (C := RX10) (T := TX10) (N := 28) hx hb hts hinX10 hown hK hP 0 rfl rfl 0 (by decide) (hts (.fieldLink RX10 80 "WasItOutModel" "length" "I") (by decide +kernel)) (fun _ h9 => h9) rfl dX10_count_41 ?_
    exact W.iret hx hb hr (fun t ht _ => ⟨_, rfl, Option.some.inj hrun, ht⟩) (fun _ h => by cases h) dX10_count_44
  · have hrun := oi_f hrun cs0
    by_cases cs1 : a1 = (1 : Int32)
    · have hrun := oi_t hrun cs1
      refine lv_tableIn (tgt := 45) hx hb dX10_count_1 (by rw [cs1]; decide) (by rw [cs1]; decide) (by rw [cs1]; rfl) (by decide) ?_
      refine lv_aload_n hx hb dX10_count_45 rfl (lv_at hl 0 rfl) ?_
      refine va_get (D := (dC, dI)) (ci := 10) (v := .ref h1) (C := RX10) (T := TX10) (N := 28) hx hb hts hinX10 hown hK hP 0 rfl rfl 2 (by decide) (hts (.fieldLink RX10 13 "WasItOutModel" "itemMany" "[I") (by decide +kernel)) (fun _ h9 => h9) rfl dX10_count_46 ?_
      refine lv_iconst (v := (0 : Int32)) hx hb dX10_count_49 (by decide) ?_
      have hi : vp_in (0 : Int32) 2 := ixk (by decide)
      refine va_iald hx hb hK hP 1 0 rfl rfl hi dX10_count_50 ?_
      exact W.iret hx hb hr (fun t ht _ => ⟨_, rfl, Option.some.inj hrun, ht⟩) (fun _ h => by cases h) dX10_count_51
    · have hrun := oi_f hrun cs1
      by_cases cs2 : a1 = (2 : Int32)
      · have hrun := oi_t hrun cs2
        refine lv_tableIn (tgt := 52) hx hb dX10_count_1 (by rw [cs2]; decide) (by rw [cs2]; decide) (by rw [cs2]; rfl) (by decide) ?_
        refine lv_aload_n hx hb dX10_count_52 rfl (lv_at hl 0 rfl) ?_
        refine va_get (D := (dC, dI)) (ci := 10) (v := .ref h2) (C := RX10) (T := TX10) (N := 28) hx hb hts hinX10 hown hK hP 0 rfl rfl 6 (by decide) (hts (.fieldLink RX10 25 "WasItOutModel" "sightMany" "[I") (by decide +kernel)) (fun _ h9 => h9) rfl dX10_count_53 ?_
        refine lv_iconst (v := (0 : Int32)) hx hb dX10_count_56 (by decide) ?_
        have hi : vp_in (0 : Int32) 3 := ixk (by decide)
        refine va_iald hx hb hK hP 2 1 rfl rfl hi dX10_count_57 ?_
        exact W.iret hx hb hr (fun t ht _ => ⟨_, rfl, Option.some.inj hrun, ht⟩) (fun _ h => by cases h) dX10_count_58
      · have hrun := oi_f hrun cs2
        by_cases cs3 : a1 = (3 : Int32)
        · have hrun := oi_t hrun cs3
          refine lv_tableIn (tgt := 59) hx hb dX10_count_1 (by rw [cs3]; decide) (by rw [cs3]; decide) (by rw [cs3]; rfl) (by decide) ?_
          refine lv_aload_n hx hb dX10_count_59 rfl (lv_at hl 0 rfl) ?_
          refine va_get (D := (dC, dI)) (ci := 10) (v := .int v0_callMany) (C := RX10) (T := TX10) (N := 28) hx hb hts hinX10 hown hK hP 0 rfl rfl 10 (by decide) (hts (.fieldLink RX10 218 "WasItOutModel" "callMany" "I") (by decide +kernel)) (fun _ h9 => h9) rfl dX10_count_60 ?_
          exact W.iret hx hb hr (fun t ht _ => ⟨_, rfl, Option.some.inj hrun, ht⟩) (fun _ h => by cases h) dX10_count_63
        · have hrun := oi_f hrun cs3
          by_cases cs4 : a1 = (4 : Int32)
          · have hrun := oi_t hrun cs4
            refine lv_tableIn (tgt := 64) hx hb dX10_count_1 (by rw [cs4]; decide) (by rw [cs4]; decide) (by rw [cs4]; rfl) (by decide) ?_
            refine lv_aload_n hx hb dX10_count_64 rfl (lv_at hl 0 rfl) ?_
            refine va_get (D := (dC, dI)) (ci := 10) (v := .int v0_caseMany) (C := RX10) (T := TX10) (N := 28) hx hb hts hinX10 hown hK hP 0 rfl rfl 14 (by decide) (hts (.fieldLink RX10 243 "WasItOutModel" "caseMany" "I") (by decide +kernel)) (fun _ h9 => h9) rfl dX10_count_65 ?_
            exact W.iret hx hb hr (fun t ht _ => ⟨_, rfl, Option.some.inj hrun, ht⟩) (fun _ h => by cases h) dX10_count_68
          · have hrun := oi_f hrun cs4
            by_cases cs5 : a1 = (5 : Int32)
            · have hrun := oi_t hrun cs5
              refine lv_tableIn (tgt := 69) hx hb dX10_count_1 (by rw [cs5]; decide) (by rw [cs5]; decide) (by rw [cs5]; rfl) (by decide) ?_
              refine lv_aload_n hx hb dX10_count_69 rfl (lv_at hl 0 rfl) ?_
              refine va_get (D := (dC, dI)) (ci := 10) (v := .int v0_keptMany) (C := RX10) (T := TX10) (N := 28) hx hb hts hinX10 hown hK hP 0 rfl rfl 8 (by decide) (hts (.fieldLink RX10 249 "WasItOutModel" "keptMany" "I") (by decide +kernel)) (fun _ h9 => h9) rfl dX10_count_70 ?_
              exact W.iret hx hb hr (fun t ht _ => ⟨_, rfl, Option.some.inj hrun, ht⟩) (fun _ h => by cases h) dX10_count_73
            · have hrun := oi_f hrun cs5
              refine lv_tableOut (tgt := 74) hx hb dX10_count_1 (sw_0_6 cs0 cs1 cs2 cs3 cs4 cs5) (by decide) ?_
              refine lv_iconst (v := (-1 : Int32)) hx hb dX10_count_74 (by decide) ?_
              exact W.iret hx hb hr (fun t ht _ => ⟨_, rfl, Option.some.inj hrun, ht⟩) (fun _ h => by cases h) dX10_count_75
set_option maxHeartbeats 4000000 in
set_option maxRecDepth 100000 in
theorem tX10_keep (l : Launch) (dC : Nat → ClassId) (dI : Nat → Nat → Nat) (sz : Nat) (h0 h1 h2 h3 h4 : Nat) (k1 k2 k3 k4 : ClassId) (g0_length g0_text g0_itemMany g0_items g0_cameras g0_callMany g0_calls g0_shares g0_rights g0_caseMany g0_cases g0_place g0_numbers g0_xs g0_ys g0_zs g0_us g0_vs g0_ws g0_touchTick g0_touchHalf g0_powers g0_worths : Value) (N : Nat)  (v0_keptMany : Int32) (c1 : Nat → Int32) (c2 : Nat → Int32) (c3 : Nat → Int32) (c4 : Nat → Int32) (ru : Int32 × (Int32) × (Nat → Int32) × (Nat → Int32) × (Nat → Int32) × (Nat → Int32)) (hm : fX10_keep N v0_keptMany c1 c2 c3 c4 = some ru) : Met l yX10_keep wsX10_keep ({ frames := 1, cells := 0, slots := 0, locals := 23 } : Room) (va_Pc [.ref h0] (fun U => U.heap.size = sz ∧ va_P (dC, dI) vwCl [(h0, .inr (10, [g0_length, g0_text, g0_itemMany, g0_items, .ref h1, .ref h2, .ref h3, .ref h4, .int v0_keptMany, g0_cameras, g0_callMany, g0_calls, g0_shares, g0_rights, g0_caseMany, g0_cases, g0_place, g0_numbers, g0_xs, g0_ys, g0_zs, g0_us, g0_vs, g0_ws, g0_touchTick, g0_touchHalf, g0_powers, g0_worths])), (h1, .inl (k1, 18, .inl c1)), (h2, .inl (k2, 3, .inl c2)), (h3, .inl (k3, 3, .inl c3)), (h4, .inl (k4, 540, .inl c4))] U.heap ∧ va_K (dC, dI) vwCl [(k1, .int), (k2, .int), (k3, .int), (k4, .int)] U ∧ va_D (fun _ => True) [(h0, .inr (10, [g0_length, g0_text, g0_itemMany, g0_items, .ref h1, .ref h2, .ref h3, .ref h4, .int v0_keptMany, g0_cameras, g0_callMany, g0_calls, g0_shares, g0_rights, g0_caseMany, g0_cases, g0_place, g0_numbers, g0_xs, g0_ys, g0_zs, g0_us, g0_vs, g0_ws, g0_touchTick, g0_touchHalf, g0_powers, g0_worths])), (h1, .inl (k1, 18, .inl c1)), (h2, .inl (k2, 3, .inl c2)), (h3, .inl (k3, 3, .inl c3)), (h4, .inl (k4, 540, .inl c4))])) (va_Qi (fun r (_ : Unit) => r = ru.1) (fun (_ : Unit) t => va_P (dC, dI) vwCl [(h0, .inr (10, [g0_length, g0_text, g0_itemMany, g0_items, .ref h1, .ref h2, .ref h3, .ref h4, .int ru.2.1, g0_cameras, g0_callMany, g0_calls, g0_shares, g0_rights, g0_caseMany, g0_cases, g0_place, g0_numbers, g0_xs, g0_ys, g0_zs, g0_us, g0_vs, g0_ws, g0_touchTick, g0_touchHalf, g0_powers, g0_worths])), (h1, .inl (k1, 18, .inl ru.2.2.1)), (h2, .inl (k2, 3, .inl ru.2.2.2.1)), (h3, .inl (k3, 3, .inl ru.2.2.2.2.1)), (h4, .inl (k4, 540, .inl ru.2.2.2.2.2))] t.heap ∧ va_K (dC, dI) vwCl [(k1, .int), (k2, .int), (k3, .int), (k4, .int)] t ∧ va_D (va_A [(h0, .inr (10, [g0_length, g0_text, g0_itemMany, g0_items, .ref h1, .ref h2, .ref h3, .ref h4, .int v0_keptMany, g0_cameras, g0_callMany, g0_calls, g0_shares, g0_rights, g0_caseMany, g0_cases, g0_place, g0_numbers, g0_xs, g0_ys, g0_zs, g0_us, g0_vs, g0_ws, g0_touchTick, g0_touchHalf, g0_powers, g0_worths])), (h1, .inl (k1, 18, .inl c1)), (h2, .inl (k2, 3, .inl c2)), (h3, .inl (k3, 3, .inl c3)), (h4, .inl (k4, 540, .inl c4))] sz) [(h0, .inr (10, [g0_length, g0_text, g0_itemMany, g0_items, .ref h1, .ref h2, .ref h3, .ref h4, .int ru.2.1, g0_cameras, g0_callMany, g0_calls, g0_shares, g0_rights, g0_caseMany, g0_cases, g0_place, g0_numbers, g0_xs, g0_ys, g0_zs, g0_us, g0_vs, g0_ws, g0_touchTick, g0_touchHalf, g0_powers, g0_worths])), (h1, .inl (k1, 18, .inl ru.2.2.1)), (h2, .inl (k2, 3, .inl ru.2.2.2.1)), (h3, .inl (k3, 3, .inl ru.2.2.2.2.1)), (h4, .inl (k4, 540, .inl ru.2.2.2.2.2))]) (va_A [(h0, .inr (10, [g0_length, g0_text, g0_itemMany, g0_items, .ref h1, .ref h2, .ref h3, .ref h4, .int v0_keptMany, g0_cameras, g0_callMany, g0_calls, g0_shares, g0_rights, g0_caseMany, g0_cases, g0_place, g0_numbers, g0_xs, g0_ys, g0_zs, g0_us, g0_vs, g0_ws, g0_touchTick, g0_touchHalf, g0_powers, g0_worths])), (h1, .inl (k1, 18, .inl c1)), (h2, .inl (k2, 3, .inl c2)), (h3, .inl (k3, 3, .inl c3)), (h4, .inl (k4, 540, .inl c4))] sz)) 0 0 (va_A [(h0, .inr (10, [g0_length, g0_text, g0_itemMany, g0_items, .ref h1, .ref h2, .ref h3, .ref h4, .int v0_keptMany, g0_cameras, g0_callMany, g0_calls, g0_shares, g0_rights, g0_caseMany, g0_cases, g0_place, g0_numbers, g0_xs, g0_ys, g0_zs, g0_us, g0_vs, g0_ws, g0_touchTick, g0_touchHalf, g0_powers, g0_worths])), (h1, .inl (k1, 18, .inl c1)), (h2, .inl (k2, 3, .inl c2)), (h3, .inl (k3, 3, .inl c3)), (h4, .inl (k4, 540, .inl c4))] sz) := by
  refine Met.ofW (cc := cX10_keep) (maxL := 1) (ret := (some .int)) (by decide) rfl ?_
  intro p e s m args below meth c s₁ B hml hv
  obtain ⟨rfl, hsz, hP, hK, hD0⟩ := hv
  have hx := B.exec
  have hb := B.bytes
  have hr := B.returns
  have hts := atoms_spec (ws := wsX10_keep) B.pre
  have hown : s.vm.findClass RX10 = some m.cls := findClass_of_methodNamed B.named
  have hlocks := B.notSynchronized
  subst hsz
  have hD := hD0.self (sz := s.heap.size)
  generalize hAe : va_A [(h0, .inr (10, [g0_length, g0_text, g0_itemMany, g0_items, .ref h1, .ref h2, .ref h3, .ref h4, .int v0_keptMany, g0_cameras, g0_callMany, g0_calls, g0_shares, g0_rights, g0_caseMany, g0_cases, g0_place, g0_numbers, g0_xs, g0_ys, g0_zs, g0_us, g0_vs, g0_ws, g0_touchTick, g0_touchHalf, g0_powers, g0_worths])), (h1, .inl (k1, 18, .inl c1)), (h2, .inl (k2, 3, .inl c2)), (h3, .inl (k3, 3, .inl c3)), (h4, .inl (k4, 540, .inl c4))] s.heap.size = A at hD ⊢
  have hA : ∀ q : Nat, s.heap.size ≤ q → A q := fun q h => by rw [← hAe]; exact Or.inr h
  have hS : va_S A s.heap s.heap [] := va_S.rf
  have hinX10 : ∀ w ∈ wsX100, w ∈ wsX10_keep := by decide +kernel
  have hl := lv_entry ([.ref h0]) (n := 1) (Nat.le_of_ble_eq_true rfl)
  rw [lg_entry_eq]
  generalize (lg_sl ([.ref h0]) ++ List.replicate (1 - (lg_sl ([.ref h0])).length) Slot.unset).toArray = ls at hl ⊢
  have hl : lv_has ls 1 [(0, .ref h0)] := hl
  have hrun := hm
  rw [fX10_keep] at hrun
  obtain ⟨H, hHe⟩ : ∃ H, H = s.heap := ⟨_, rfl⟩
  obtain ⟨locs, hLe⟩ : ∃ locs : List Loc, locs = [] := ⟨_, rfl⟩
  rw [← hHe] at hP
  have hS : va_S A s.heap H locs := by rw [hHe, hLe]; exact hS
  have key : W p l e (headSpec wsX10_keep ({ frames := 1, cells := 0, slots := 0, locals := 23 } : Room)).room s m ([.ref h0] : List Value).toArray below meth c H locs 0 0 (MQ below (va_Qi (fun r (_ : Unit) => r = ru.1) (fun (_ : Unit) t => va_P (dC, dI) vwCl [(h0, .inr (10, [g0_length, g0_text, g0_itemMany, g0_items, .ref h1, .ref h2, .ref h3, .ref h4, .int ru.2.1, g0_cameras, g0_callMany, g0_calls, g0_shares, g0_rights, g0_caseMany, g0_cases, g0_place, g0_numbers, g0_xs, g0_ys, g0_zs, g0_us, g0_vs, g0_ws, g0_touchTick, g0_touchHalf, g0_powers, g0_worths])), (h1, .inl (k1, 18, .inl ru.2.2.1)), (h2, .inl (k2, 3, .inl ru.2.2.2.1)), (h3, .inl (k3, 3, .inl ru.2.2.2.2.1)), (h4, .inl (k4, 540, .inl ru.2.2.2.2.2))] t.heap ∧ va_K (dC, dI) vwCl [(k1, .int), (k2, .int), (k3, .int), (k4, .int)] t ∧ va_D A [(h0, .inr (10, [g0_length, g0_text, g0_itemMany, g0_items, .ref h1, .ref h2, .ref h3, .ref h4, .int ru.2.1, g0_cameras, g0_callMany, g0_calls, g0_shares, g0_rights, g0_caseMany, g0_cases, g0_place, g0_numbers, g0_xs, g0_ys, g0_zs, g0_us, g0_vs, g0_ws, g0_touchTick, g0_touchHalf, g0_powers, g0_worths])), (h1, .inl (k1, 18, .inl ru.2.2.1)), (h2, .inl (k2, 3, .inl ru.2.2.2.1)), (h3, .inl (k3, 3, .inl ru.2.2.2.2.1)), (h4, .inl (k4, 540, .inl ru.2.2.2.2.2))]) A) ([.ref h0] : List Value).toArray s 0 0 A) (F0 m 0 ls []) := by
    clear hHe hLe
    refine lv_aload_n hx hb dX10_keep_0 rfl (lv_at hl 0 rfl) ?_
    refine va_get (D := (dC, dI)) (ci := 10) (v := .int v0_keptMany) (C := RX10) (T := TX10) (N := 28) hx hb hts hinX10 hown hK hP 0 rfl rfl 8 (by decide) (hts (.fieldLink RX10 249 "WasItOutModel" "keptMany" "I") (by decide +kernel)) (fun _ h9 => h9) rfl dX10_keep_1 ?_
    refine lv_iconst (v := (2 : Int32)) hx hb dX10_keep_4 (by decide) ?_
    refine lv_icmp_ne (tgt := 11) hx hb dX10_keep_5 (by decide) (fun cc => ?_) (fun cc => ?_)
    · have hrun := oi_t hrun cc
      refine lv_aload_n hx hb dX10_keep_11 rfl (lv_at hl 0 rfl) ?_
      refine lv_iconst (v := (0 : Int32)) hx hb dX10_keep_12 (by decide) ?_
      refine lv_iconst (v := (1 : Int32)) hx hb dX10_keep_13 (by decide) ?_
      refine lv_aload_n hx hb dX10_keep_14 rfl (lv_at hl 0 rfl) ?_
      refine va_get (D := (dC, dI)) (ci := 10) (v := .int v0_keptMany) (C := RX10) (T := TX10) (N := 28) hx hb hts hinX10 hown hK hP 0 rfl rfl 8 (by decide) (hts (.fieldLink RX10 249 "WasItOutModel" "keptMany" "I") (by decide +kernel)) (fun _ h9 => h9) rfl dX10_keep_15 ?_
      refine lv_iadd hx hb dX10_keep_18 ?_
      obtain ⟨q19, hc19, hrun⟩ := ob_e hrun
      refine wz_cqv (WC := [(h0, .inr (10, [g0_length, g0_text, g0_itemMany, g0_items, .ref h1, .ref h2, .ref h3, .ref h4, .int v0_keptMany, g0_cameras, g0_callMany, g0_calls, g0_shares, g0_rights, g0_caseMany, g0_cases, g0_place, g0_numbers, g0_xs, g0_ys, g0_zs, g0_us, g0_vs, g0_ws, g0_touchTick, g0_touchHalf, g0_powers, g0_worths])), (h1, .inl (k1, 18, .inl c1)), (h2, .inl (k2, 3, .inl c2)), (h3, .inl (k3, 3, .inl c3)), (h4, .inl (k4, 540, .inl c4))]) (WR := []) (W1 := [(h0, .inr (10, [g0_length, g0_text, g0_itemMany, g0_items, .ref h1, .ref h2, .ref h3, .ref h4, .int v0_keptMany, g0_cameras, g0_callMany, g0_calls, g0_shares, g0_rights, g0_caseMany, g0_cases, g0_place, g0_numbers, g0_xs, g0_ys, g0_zs, g0_us, g0_vs, g0_ws, g0_touchTick, g0_touchHalf, g0_powers, g0_worths])), (h1, .inl (k1, 18, .inl q19.1)), (h2, .inl (k2, 3, .inl q19.2.1)), (h3, .inl (k3, 3, .inl q19.2.2.1)), (h4, .inl (k4, 540, .inl q19.2.2.2))]) (va_runV (As := [.int (0 : Int32), .int ((1 : Int32) + v0_keptMany)]) (rest := []) ⟨hx, hb, hml, hown, hts⟩ (tX10_copy l dC dI H.size h0 h1 h2 h3 h4 k1 k2 k3 k4 (g0_length) (g0_text) (g0_itemMany) (g0_items) (.int v0_keptMany) (g0_cameras) (g0_callMany) (g0_calls) (g0_shares) (g0_rights) (g0_caseMany) (g0_cases) (g0_place) (g0_numbers) (g0_xs) (g0_ys) (g0_zs) (g0_us) (g0_vs) (g0_ws) (g0_touchTick) (g0_touchHalf) (g0_powers) (g0_worths) N ((0 : Int32)) (((1 : Int32) + v0_keptMany)) c1 c2 c3 c4 q19 hc19) (cwV 2 hts gX10_keep_X10_copy rfl rfl rfl (by decide +kernel) ⟨Nat.le_of_ble_eq_true rfl, Nat.le_of_ble_eq_true rfl⟩) (wz_pVw (hP.sub (ws' := [(h0, .inr (10, [g0_length, g0_text, g0_itemMany, g0_items, .ref h1, .ref h2, .ref h3, .ref h4, .int v0_keptMany, g0_cameras, g0_callMany, g0_calls, g0_shares, g0_rights, g0_caseMany, g0_cases, g0_place, g0_numbers, g0_xs, g0_ys, g0_zs, g0_us, g0_vs, g0_ws, g0_touchTick, g0_touchHalf, g0_powers, g0_worths])), (h1, .inl (k1, 18, .inl c1)), (h2, .inl (k2, 3, .inl c2)), (h3, .inl (k3, 3, .inl c3)), (h4, .inl (k4, 540, .inl c4))]) [0, 1, 2, 3, 4] rfl) (hK.sub (tys' := [(k1, .int), (k2, .int), (k3, .int), (k4, .int)]) [0, 1, 2, 3] rfl) (hD.sub (ws' := [(h0, .inr (10, [g0_length, g0_text, g0_itemMany, g0_items, .ref h1, .ref h2, .ref h3, .ref h4, .int v0_keptMany, g0_cameras, g0_callMany, g0_calls, g0_shares, g0_rights, g0_caseMany, g0_cases, g0_place, g0_numbers, g0_xs, g0_ys, g0_zs, g0_us, g0_vs, g0_ws, g0_touchTick, g0_touchHalf, g0_powers, g0_worths])), (h1, .inl (k1, 18, .inl c1)), (h2, .inl (k2, 3, .inl c2)), (h3, .inl (k3, 3, .inl c3)), (h4, .inl (k4, 540, .inl c4))]) [0, 1, 2, 3, 4] (by decide) rfl) (va_recv hK hP (ci := 10) (q0 := 0) rfl rfl)) rfl rfl hl.1 rfl (lv_room (Nat.le_of_ble_eq_true rfl)) dX10_keep_19 ⟨Nat.zero_le _, Nat.zero_le _⟩) hP hD hS hA [0, 1, 2, 3, 4] [] rfl rfl (by decide) (by decide) (fun H locs hP hD hS => ?_)
      have hP : va_P (dC, dI) vwCl [(h0, .inr (10, [g0_length, g0_text, g0_itemMany, g0_items, .ref h1, .ref h2, .ref h3, .ref h4, .int v0_keptMany, g0_cameras, g0_callMany, g0_calls, g0_shares, g0_rights, g0_caseMany, g0_cases, g0_place, g0_numbers, g0_xs, g0_ys, g0_zs, g0_us, g0_vs, g0_ws, g0_touchTick, g0_touchHalf, g0_powers, g0_worths])), (h1, .inl (k1, 18, .inl q19.1)), (h2, .inl (k2, 3, .inl q19.2.1)), (h3, .inl (k3, 3, .inl q19.2.2.1)), (h4, .inl (k4, 540, .inl q19.2.2.2))] H := hP
      have hD : va_D A [(h0, .inr (10, [g0_length, g0_text, g0_itemMany, g0_items, .ref h1, .ref h2, .ref h3, .ref h4, .int v0_keptMany, g0_cameras, g0_callMany, g0_calls, g0_shares, g0_rights, g0_caseMany, g0_cases, g0_place, g0_numbers, g0_xs, g0_ys, g0_zs, g0_us, g0_vs, g0_ws, g0_touchTick, g0_touchHalf, g0_powers, g0_worths])), (h1, .inl (k1, 18, .inl q19.1)), (h2, .inl (k2, 3, .inl q19.2.1)), (h3, .inl (k3, 3, .inl q19.2.2.1)), (h4, .inl (k4, 540, .inl q19.2.2.2))] := hD
      refine lv_aload_n hx hb dX10_keep_22 rfl (lv_at hl 0 rfl) ?_
      refine lv_dup hx hb dX10_keep_23 rfl ?_
      refine va_get (D := (dC, dI)) (ci := 10) (v := .int v0_keptMany) (C := RX10) (T := TX10) (N := 28) hx hb hts hinX10 hown hK hP 0 rfl rfl 8 (by decide) (hts (.fieldLink RX10 249 "WasItOutModel" "keptMany" "I") (by decide +kernel)) (fun _ h9 => h9) rfl dX10_keep_24 ?_
      refine lv_iconst (v := (1 : Int32)) hx hb dX10_keep_27 (by decide) ?_
      refine lv_iadd hx hb dX10_keep_28 ?_
      refine va_put (D := (dC, dI)) (ci := 10) (v := .int (v0_keptMany + (1 : Int32))) (ty := .int) (C := RX10) (T := TX10) (N := 28) hx hb hts hinX10 tyX10 tyX10_ok nmX10 hown hK hP hD hS 0 rfl rfl 8 (by decide) (hts (.fieldLink RX10 249 "WasItOutModel" "keptMany" "I") (by decide +kernel)) (fun _ h9 => h9) rfl (by decide +kernel) rfl rfl (Nat.le_of_ble_eq_true rfl) dX10_keep_29 (fun H locs hP hD hS => ?_)
      have hP : va_P (dC, dI) vwCl [(h0, .inr (10, [g0_length, g0_text, g0_itemMany, g0_items, .ref h1, .ref h2, .ref h3, .ref h4, .int (v0_keptMany + (1 : Int32)), g0_cameras, g0_callMany, g0_calls, g0_shares, g0_rights, g0_caseMany, g0_cases, g0_place, g0_numbers, g0_xs, g0_ys, g0_zs, g0_us, g0_vs, g0_ws, g0_touchTick, g0_touchHalf, g0_powers, g0_worths])), (h1, .inl (k1, 18, .inl q19.1)), (h2, .inl (k2, 3, .inl q19.2.1)), (h3, .inl (k3, 3, .inl q19.2.2.1)), (h4, .inl (k4, 540, .inl q19.2.2.2))] H := hP
      have hD : va_D A [(h0, .inr (10, [g0_length, g0_text, g0_itemMany, g0_items, .ref h1, .ref h2, .ref h3, .ref h4, .int (v0_keptMany + (1 : Int32)), g0_cameras, g0_callMany, g0_calls, g0_shares, g0_rights, g0_caseMany, g0_cases, g0_place, g0_numbers, g0_xs, g0_ys, g0_zs, g0_us, g0_vs, g0_ws, g0_touchTick, g0_touchHalf, g0_powers, g0_worths])), (h1, .inl (k1, 18, .inl q19.1)), (h2, .inl (k2, 3, .inl q19.2.1)), (h3, .inl (k3, 3, .inl q19.2.2.1)), (h4, .inl (k4, 540, .inl q19.2.2.2))] := hD
      refine lv_aload_n hx hb dX10_keep_32 rfl (lv_at hl 0 rfl) ?_
      refine va_get (D := (dC, dI)) (ci := 10) (v := .int (v0_keptMany + (1 : Int32))) (C := RX10) (T := TX10) (N := 28) hx hb hts hinX10 hown hK hP 0 rfl rfl 8 (by decide) (hts (.fieldLink RX10 249 "WasItOutModel" "keptMany" "I") (by decide +kernel)) (fun _ h9 => h9) rfl dX10_keep_33 ?_
      cases hrun
      have hP9 : va_P (dC, dI) vwCl [(h0, .inr (10, [g0_length, g0_text, g0_itemMany, g0_items, .ref h1, .ref h2, .ref h3, .ref h4, .int (v0_keptMany + (1 : Int32)), g0_cameras, g0_callMany, g0_calls, g0_shares, g0_rights, g0_caseMany, g0_cases, g0_place, g0_numbers, g0_xs, g0_ys, g0_zs, g0_us, g0_vs, g0_ws, g0_touchTick, g0_touchHalf, g0_powers, g0_worths])), (h1, .inl (k1, 18, .inl q19.1)), (h2, .inl (k2, 3, .inl q19.2.1)), (h3, .inl (k3, 3, .inl q19.2.2.1)), (h4, .inl (k4, 540, .inl q19.2.2.2))] H := hP
      have hD9 : va_D A [(h0, .inr (10, [g0_length, g0_text, g0_itemMany, g0_items, .ref h1, .ref h2, .ref h3, .ref h4, .int (v0_keptMany + (1 : Int32)), g0_cameras, g0_callMany, g0_calls, g0_shares, g0_rights, g0_caseMany, g0_cases, g0_place, g0_numbers, g0_xs, g0_ys, g0_zs, g0_us, g0_vs, g0_ws, g0_touchTick, g0_touchHalf, g0_powers, g0_worths])), (h1, .inl (k1, 18, .inl q19.1)), (h2, .inl (k2, 3, .inl q19.2.1)), (h3, .inl (k3, 3, .inl q19.2.2.1)), (h4, .inl (k4, 540, .inl q19.2.2.2))] := hD
      exact W.iret hx hb hr (fun t ht hW => ⟨⟨_, (), rfl, rfl, by rw [ht]; exact hP9, va_K.moved hW.alike hK, hD9⟩, hS.F ht⟩) hS.2.2 dX10_keep_36
    · have hrun := oi_n hrun cc
      refine lv_bipush (v := (-3 : Int32)) hx hb dX10_keep_8 (by decide) ?_
      cases hrun
      have hP9 : va_P (dC, dI) vwCl [(h0, .inr (10, [g0_length, g0_text, g0_itemMany, g0_items, .ref h1, .ref h2, .ref h3, .ref h4, .int v0_keptMany, g0_cameras, g0_callMany, g0_calls, g0_shares, g0_rights, g0_caseMany, g0_cases, g0_place, g0_numbers, g0_xs, g0_ys, g0_zs, g0_us, g0_vs, g0_ws, g0_touchTick, g0_touchHalf, g0_powers, g0_worths])), (h1, .inl (k1, 18, .inl c1)), (h2, .inl (k2, 3, .inl c2)), (h3, .inl (k3, 3, .inl c3)), (h4, .inl (k4, 540, .inl c4))] H := hP
      have hD9 : va_D A [(h0, .inr (10, [g0_length, g0_text, g0_itemMany, g0_items, .ref h1, .ref h2, .ref h3, .ref h4, .int v0_keptMany, g0_cameras, g0_callMany, g0_calls, g0_shares, g0_rights, g0_caseMany, g0_cases, g0_place, g0_numbers, g0_xs, g0_ys, g0_zs, g0_us, g0_vs, g0_ws, g0_touchTick, g0_touchHalf, g0_powers, g0_worths])), (h1, .inl (k1, 18, .inl c1)), (h2, .inl (k2, 3, .inl c2)), (h3, .inl (k3, 3, .inl c3)), (h4, .inl (k4, 540, .inl c4))] := hD
      exact W.iret hx hb hr (fun t ht hW => ⟨⟨_, (), rfl, rfl, by rw [ht]; exact hP9, va_K.moved hW.alike hK, hD9⟩, hS.F ht⟩) hS.2.2 dX10_keep_10
  rw [hHe, hLe] at key
  exact key
set_option maxHeartbeats 4000000 in
set_option maxRecDepth 100000 in
theorem tX10_layWorths (l : Launch) (dC : Nat → ClassId) (dI : Nat → Nat → Nat) (sz : Nat) (h0 h1 h2 h3 h4 : Nat) (k1 k2 k3 k4 : ClassId) (g0_length g0_text g0_itemMany g0_items g0_balls g0_outs g0_sightMany g0_sights g0_keptMany g0_cameras g0_callMany g0_calls g0_caseMany g0_cases g0_place g0_numbers g0_xs g0_ys g0_zs g0_us g0_vs g0_ws g0_touchTick g0_touchHalf : Value) (N : Nat)  (c1 : Nat → Int64) (c2 : Nat → Int32) (c3 : Nat → Int32) (c4 : Nat → Int64) (ru : (Nat → Int64) × (Nat → Int64)) (hm : fX10_layWorths N c1 c2 c3 c4 = some ru) : Met l yX10_layWorths wsX10_layWorths ({ frames := 1, cells := 0, slots := 0, locals := 23 } : Room) (va_Pc [.ref h0] (fun U => U.heap.size = sz ∧ va_P (dC, dI) vwCl [(h0, .inr (10, [g0_length, g0_text, g0_itemMany, g0_items, g0_balls, g0_outs, g0_sightMany, g0_sights, g0_keptMany, g0_cameras, g0_callMany, g0_calls, .ref h3, .ref h2, g0_caseMany, g0_cases, g0_place, g0_numbers, g0_xs, g0_ys, g0_zs, g0_us, g0_vs, g0_ws, g0_touchTick, g0_touchHalf, .ref h1, .ref h4])), (h1, .inl (k1, 9, .inr (.inl c1))), (h2, .inl (k2, 4, .inl c2)), (h3, .inl (k3, 4, .inl c3)), (h4, .inl (k4, 81, .inr (.inl c4)))] U.heap ∧ va_K (dC, dI) vwCl [(k1, .long), (k2, .int), (k3, .int), (k4, .long)] U ∧ va_D (fun _ => True) [(h0, .inr (10, [g0_length, g0_text, g0_itemMany, g0_items, g0_balls, g0_outs, g0_sightMany, g0_sights, g0_keptMany, g0_cameras, g0_callMany, g0_calls, .ref h3, .ref h2, g0_caseMany, g0_cases, g0_place, g0_numbers, g0_xs, g0_ys, g0_zs, g0_us, g0_vs, g0_ws, g0_touchTick, g0_touchHalf, .ref h1, .ref h4])), (h1, .inl (k1, 9, .inr (.inl c1))), (h2, .inl (k2, 4, .inl c2)), (h3, .inl (k3, 4, .inl c3)), (h4, .inl (k4, 81, .inr (.inl c4)))])) (va_Qv (fun (_ : Unit) => True) (fun (_ : Unit) t => va_P (dC, dI) vwCl [(h0, .inr (10, [g0_length, g0_text, g0_itemMany, g0_items, g0_balls, g0_outs, g0_sightMany, g0_sights, g0_keptMany, g0_cameras, g0_callMany, g0_calls, .ref h3, .ref h2, g0_caseMany, g0_cases, g0_place, g0_numbers, g0_xs, g0_ys, g0_zs, g0_us, g0_vs, g0_ws, g0_touchTick, g0_touchHalf, .ref h1, .ref h4])), (h1, .inl (k1, 9, .inr (.inl ru.1))), (h2, .inl (k2, 4, .inl c2)), (h3, .inl (k3, 4, .inl c3)), (h4, .inl (k4, 81, .inr (.inl ru.2)))] t.heap ∧ va_K (dC, dI) vwCl [(k1, .long), (k2, .int), (k3, .int), (k4, .long)] t ∧ va_D (va_A [(h0, .inr (10, [g0_length, g0_text, g0_itemMany, g0_items, g0_balls, g0_outs, g0_sightMany, g0_sights, g0_keptMany, g0_cameras, g0_callMany, g0_calls, .ref h3, .ref h2, g0_caseMany, g0_cases, g0_place, g0_numbers, g0_xs, g0_ys, g0_zs, g0_us, g0_vs, g0_ws, g0_touchTick, g0_touchHalf, .ref h1, .ref h4])), (h1, .inl (k1, 9, .inr (.inl c1))), (h2, .inl (k2, 4, .inl c2)), (h3, .inl (k3, 4, .inl c3)), (h4, .inl (k4, 81, .inr (.inl c4)))] sz) [(h0, .inr (10, [g0_length, g0_text, g0_itemMany, g0_items, g0_balls, g0_outs, g0_sightMany, g0_sights, g0_keptMany, g0_cameras, g0_callMany, g0_calls, .ref h3, .ref h2, g0_caseMany, g0_cases, g0_place, g0_numbers, g0_xs, g0_ys, g0_zs, g0_us, g0_vs, g0_ws, g0_touchTick, g0_touchHalf, .ref h1, .ref h4])), (h1, .inl (k1, 9, .inr (.inl ru.1))), (h2, .inl (k2, 4, .inl c2)), (h3, .inl (k3, 4, .inl c3)), (h4, .inl (k4, 81, .inr (.inl ru.2)))]) (va_A [(h0, .inr (10, [g0_length, g0_text, g0_itemMany, g0_items, g0_balls, g0_outs, g0_sightMany, g0_sights, g0_keptMany, g0_cameras, g0_callMany, g0_calls, .ref h3, .ref h2, g0_caseMany, g0_cases, g0_place, g0_numbers, g0_xs, g0_ys, g0_zs, g0_us, g0_vs, g0_ws, g0_touchTick, g0_touchHalf, .ref h1, .ref h4])), (h1, .inl (k1, 9, .inr (.inl c1))), (h2, .inl (k2, 4, .inl c2)), (h3, .inl (k3, 4, .inl c3)), (h4, .inl (k4, 81, .inr (.inl c4)))] sz)) 0 0 (va_A [(h0, .inr (10, [g0_length, g0_text, g0_itemMany, g0_items, g0_balls, g0_outs, g0_sightMany, g0_sights, g0_keptMany, g0_cameras, g0_callMany, g0_calls, .ref h3, .ref h2, g0_caseMany, g0_cases, g0_place, g0_numbers, g0_xs, g0_ys, g0_zs, g0_us, g0_vs, g0_ws, g0_touchTick, g0_touchHalf, .ref h1, .ref h4])), (h1, .inl (k1, 9, .inr (.inl c1))), (h2, .inl (k2, 4, .inl c2)), (h3, .inl (k3, 4, .inl c3)), (h4, .inl (k4, 81, .inr (.inl c4)))] sz) := by
  refine Met.ofW (cc := cX10_layWorths) (maxL := 10) (ret := none) (by decide) rfl ?_
  intro p e s m args below meth c s₁ B hml hv
  obtain ⟨rfl, hsz, hP, hK, hD0⟩ := hv
  have hx := B.exec
  have hb := B.bytes
  have hr := B.returns
  have hts := atoms_spec (ws := wsX10_layWorths) B.pre
  have hown : s.vm.findClass RX10 = some m.cls := findClass_of_methodNamed B.named
  have hlocks := B.notSynchronized
  subst hsz
  have hD := hD0.self (sz := s.heap.size)
  generalize hAe : va_A [(h0, .inr (10, [g0_length, g0_text, g0_itemMany, g0_items, g0_balls, g0_outs, g0_sightMany, g0_sights, g0_keptMany, g0_cameras, g0_callMany, g0_calls, .ref h3, .ref h2, g0_caseMany, g0_cases, g0_place, g0_numbers, g0_xs, g0_ys, g0_zs, g0_us, g0_vs, g0_ws, g0_touchTick, g0_touchHalf, .ref h1, .ref h4])), (h1, .inl (k1, 9, .inr (.inl c1))), (h2, .inl (k2, 4, .inl c2)), (h3, .inl (k3, 4, .inl c3)), (h4, .inl (k4, 81, .inr (.inl c4)))] s.heap.size = A at hD ⊢
  have hA : ∀ q : Nat, s.heap.size ≤ q → A q := fun q h => by rw [← hAe]; exact Or.inr h
  have hS : va_S A s.heap s.heap [] := va_S.rf
  have hinX10 : ∀ w ∈ wsX100, w ∈ wsX10_layWorths := by decide +kernel
  have hl := lv_entry ([.ref h0]) (n := 10) (Nat.le_of_ble_eq_true rfl)
  rw [lg_entry_eq]
  generalize (lg_sl ([.ref h0]) ++ List.replicate (10 - (lg_sl ([.ref h0])).length) Slot.unset).toArray = ls at hl ⊢
  have hl : lv_has ls 10 [(0, .ref h0)] := hl
  have hrun := hm
  rw [fX10_layWorths] at hrun
  obtain ⟨H, hHe⟩ : ∃ H, H = s.heap := ⟨_, rfl⟩
  obtain ⟨locs, hLe⟩ : ∃ locs : List Loc, locs = [] := ⟨_, rfl⟩
  rw [← hHe] at hP
  have hS : va_S A s.heap H locs := by rw [hHe, hLe]; exact hS
  have key : W p l e (headSpec wsX10_layWorths ({ frames := 1, cells := 0, slots := 0, locals := 23 } : Room)).room s m ([.ref h0] : List Value).toArray below meth c H locs 0 0 (MQ below (va_Qv (fun (_ : Unit) => True) (fun (_ : Unit) t => va_P (dC, dI) vwCl [(h0, .inr (10, [g0_length, g0_text, g0_itemMany, g0_items, g0_balls, g0_outs, g0_sightMany, g0_sights, g0_keptMany, g0_cameras, g0_callMany, g0_calls, .ref h3, .ref h2, g0_caseMany, g0_cases, g0_place, g0_numbers, g0_xs, g0_ys, g0_zs, g0_us, g0_vs, g0_ws, g0_touchTick, g0_touchHalf, .ref h1, .ref h4])), (h1, .inl (k1, 9, .inr (.inl ru.1))), (h2, .inl (k2, 4, .inl c2)), (h3, .inl (k3, 4, .inl c3)), (h4, .inl (k4, 81, .inr (.inl ru.2)))] t.heap ∧ va_K (dC, dI) vwCl [(k1, .long), (k2, .int), (k3, .int), (k4, .long)] t ∧ va_D A [(h0, .inr (10, [g0_length, g0_text, g0_itemMany, g0_items, g0_balls, g0_outs, g0_sightMany, g0_sights, g0_keptMany, g0_cameras, g0_callMany, g0_calls, .ref h3, .ref h2, g0_caseMany, g0_cases, g0_place, g0_numbers, g0_xs, g0_ys, g0_zs, g0_us, g0_vs, g0_ws, g0_touchTick, g0_touchHalf, .ref h1, .ref h4])), (h1, .inl (k1, 9, .inr (.inl ru.1))), (h2, .inl (k2, 4, .inl c2)), (h3, .inl (k3, 4, .inl c3)), (h4, .inl (k4, 81, .inr (.inl ru.2)))]) A) ([.ref h0] : List Value).toArray s 0 0 A) (F0 m 0 ls []) := by
    clear hHe hLe
    refine lv_aload_n hx hb dX10_layWorths_0 rfl (lv_at hl 0 rfl) ?_
    refine va_get (D := (dC, dI)) (ci := 10) (v := .ref h1) (C := RX10) (T := TX10) (N := 28) hx hb hts hinX10 hown hK hP 0 rfl rfl 26 (by decide) (hts (.fieldLink RX10 67 "WasItOutModel" "powers" "[J") (by decide +kernel)) (fun _ h9 => h9) rfl dX10_layWorths_1 ?_
    refine lv_iconst (v := (0 : Int32)) hx hb dX10_layWorths_4 (by decide) ?_
    refine lv_lconst (v := (1 : Int64)) hx hb dX10_layWorths_5 (by decide) ?_
    have hi : vp_in (0 : Int32) 9 := ixk (by decide)
    refine va_last hx hb hK hP hD hS 1 0 rfl rfl hi dX10_layWorths_6 (fun H locs hP hD hS => ?_)
    have hP : va_P (dC, dI) vwCl [(h0, .inr (10, [g0_length, g0_text, g0_itemMany, g0_items, g0_balls, g0_outs, g0_sightMany, g0_sights, g0_keptMany, g0_cameras, g0_callMany, g0_calls, .ref h3, .ref h2, g0_caseMany, g0_cases, g0_place, g0_numbers, g0_xs, g0_ys, g0_zs, g0_us, g0_vs, g0_ws, g0_touchTick, g0_touchHalf, .ref h1, .ref h4])), (h1, .inl (k1, 9, .inr (.inl (vp_updL c1 (0 : Int32).toNatClampNeg (1 : Int64))))), (h2, .inl (k2, 4, .inl c2)), (h3, .inl (k3, 4, .inl c3)), (h4, .inl (k4, 81, .inr (.inl c4)))] H := hP
    have hD : va_D A [(h0, .inr (10, [g0_length, g0_text, g0_itemMany, g0_items, g0_balls, g0_outs, g0_sightMany, g0_sights, g0_keptMany, g0_cameras, g0_callMany, g0_calls, .ref h3, .ref h2, g0_caseMany, g0_cases, g0_place, g0_numbers, g0_xs, g0_ys, g0_zs, g0_us, g0_vs, g0_ws, g0_touchTick, g0_touchHalf, .ref h1, .ref h4])), (h1, .inl (k1, 9, .inr (.inl (vp_updL c1 (0 : Int32).toNatClampNeg (1 : Int64))))), (h2, .inl (k2, 4, .inl c2)), (h3, .inl (k3, 4, .inl c3)), (h4, .inl (k4, 81, .inr (.inl c4)))] := hD
    refine lv_iconst (v := (0 : Int32)) hx hb dX10_layWorths_7 (by decide) ?_
    refine lv_istore_n (lv' := [(1, .int (0 : Int32)), (0, .ref h0)]) hx hb dX10_layWorths_8 rfl hl (by decide) rfl (fun ls hl => ?_)
    obtain ⟨k28, ek28, hrun⟩ := jn_e hrun
    have J28 : ∀ (c4_28 : Nat → Int64) (ls : Array Slot) (H : Heap) (locs : List Loc), k28 c4_28 = some ru → va_P (dC, dI) vwCl [(h0, .inr (10, [g0_length, g0_text, g0_itemMany, g0_items, g0_balls, g0_outs, g0_sightMany, g0_sights, g0_keptMany, g0_cameras, g0_callMany, g0_calls, .ref h3, .ref h2, g0_caseMany, g0_cases, g0_place, g0_numbers, g0_xs, g0_ys, g0_zs, g0_us, g0_vs, g0_ws, g0_touchTick, g0_touchHalf, .ref h1, .ref h4])), (h1, .inl (k1, 9, .inr (.inl (vp_updL c1 (0 : Int32).toNatClampNeg (1 : Int64))))), (h2, .inl (k2, 4, .inl c2)), (h3, .inl (k3, 4, .inl c3)), (h4, .inl (k4, 81, .inr (.inl c4_28)))] H → va_D A [(h0, .inr (10, [g0_length, g0_text, g0_itemMany, g0_items, g0_balls, g0_outs, g0_sightMany, g0_sights, g0_keptMany, g0_cameras, g0_callMany, g0_calls, .ref h3, .ref h2, g0_caseMany, g0_cases, g0_place, g0_numbers, g0_xs, g0_ys, g0_zs, g0_us, g0_vs, g0_ws, g0_touchTick, g0_touchHalf, .ref h1, .ref h4])), (h1, .inl (k1, 9, .inr (.inl (vp_updL c1 (0 : Int32).toNatClampNeg (1 : Int64))))), (h2, .inl (k2, 4, .inl c2)), (h3, .inl (k3, 4, .inl c3)), (h4, .inl (k4, 81, .inr (.inl c4_28)))] → va_S A s.heap H locs → lv_has ls 10 [(0, .ref h0)] → W p l e (headSpec wsX10_layWorths ({ frames := 1, cells := 0, slots := 0, locals := 23 } : Room)).room s m ([.ref h0] : List Value).toArray below meth c H locs 0 0 (MQ below (va_Qv (fun (_ : Unit) => True) (fun (_ : Unit) t => va_P (dC, dI) vwCl [(h0, .inr (10, [g0_length, g0_text, g0_itemMany, g0_items, g0_balls, g0_outs, g0_sightMany, g0_sights, g0_keptMany, g0_cameras, g0_callMany, g0_calls, .ref h3, .ref h2, g0_caseMany, g0_cases, g0_place, g0_numbers, g0_xs, g0_ys, g0_zs, g0_us, g0_vs, g0_ws, g0_touchTick, g0_touchHalf, .ref h1, .ref h4])), (h1, .inl (k1, 9, .inr (.inl ru.1))), (h2, .inl (k2, 4, .inl c2)), (h3, .inl (k3, 4, .inl c3)), (h4, .inl (k4, 81, .inr (.inl ru.2)))] t.heap ∧ va_K (dC, dI) vwCl [(k1, .long), (k2, .int), (k3, .int), (k4, .long)] t ∧ va_D A [(h0, .inr (10, [g0_length, g0_text, g0_itemMany, g0_items, g0_balls, g0_outs, g0_sightMany, g0_sights, g0_keptMany, g0_cameras, g0_callMany, g0_calls, .ref h3, .ref h2, g0_caseMany, g0_cases, g0_place, g0_numbers, g0_xs, g0_ys, g0_zs, g0_us, g0_vs, g0_ws, g0_touchTick, g0_touchHalf, .ref h1, .ref h4])), (h1, .inl (k1, 9, .inr (.inl ru.1))), (h2, .inl (k2, 4, .inl c2)), (h3, .inl (k3, 4, .inl c3)), (h4, .inl (k4, 81, .inr (.inl ru.2)))]) A) ([.ref h0] : List Value).toArray s 0 0 A) (F0 m 28 ls []) := by
      intro c4_28 ls H locs hrun hP hD hS hl
      rw [ek28] at hrun
      refine lv_iconst (v := (1 : Int32)) hx hb dX10_layWorths_28 (by decide) ?_
      refine lv_istore_n (lv' := [(1, .int (1 : Int32)), (0, .ref h0)]) hx hb dX10_layWorths_29 rfl hl (by decide) rfl (fun ls hl => ?_)
      obtain ⟨k169, ek169, hrun⟩ := jn_e hrun
      have J169 : ∀ (c1_169 : Nat → Int64) (c4_169 : Nat → Int64) (ls : Array Slot) (H : Heap) (locs : List Loc), k169 c1_169 c4_169 = some ru → va_P (dC, dI) vwCl [(h0, .inr (10, [g0_length, g0_text, g0_itemMany, g0_items, g0_balls, g0_outs, g0_sightMany, g0_sights, g0_keptMany, g0_cameras, g0_callMany, g0_calls, .ref h3, .ref h2, g0_caseMany, g0_cases, g0_place, g0_numbers, g0_xs, g0_ys, g0_zs, g0_us, g0_vs, g0_ws, g0_touchTick, g0_touchHalf, .ref h1, .ref h4])), (h1, .inl (k1, 9, .inr (.inl c1_169))), (h2, .inl (k2, 4, .inl c2)), (h3, .inl (k3, 4, .inl c3)), (h4, .inl (k4, 81, .inr (.inl c4_169)))] H → va_D A [(h0, .inr (10, [g0_length, g0_text, g0_itemMany, g0_items, g0_balls, g0_outs, g0_sightMany, g0_sights, g0_keptMany, g0_cameras, g0_callMany, g0_calls, .ref h3, .ref h2, g0_caseMany, g0_cases, g0_place, g0_numbers, g0_xs, g0_ys, g0_zs, g0_us, g0_vs, g0_ws, g0_touchTick, g0_touchHalf, .ref h1, .ref h4])), (h1, .inl (k1, 9, .inr (.inl c1_169))), (h2, .inl (k2, 4, .inl c2)), (h3, .inl (k3, 4, .inl c3)), (h4, .inl (k4, 81, .inr (.inl c4_169)))] → va_S A s.heap H locs → lv_has ls 10 [] → W p l e (headSpec wsX10_layWorths ({ frames := 1, cells := 0, slots := 0, locals := 23 } : Room)).room s m ([.ref h0] : List Value).toArray below meth c H locs 0 0 (MQ below (va_Qv (fun (_ : Unit) => True) (fun (_ : Unit) t => va_P (dC, dI) vwCl [(h0, .inr (10, [g0_length, g0_text, g0_itemMany, g0_items, g0_balls, g0_outs, g0_sightMany, g0_sights, g0_keptMany, g0_cameras, g0_callMany, g0_calls, .ref h3, .ref h2, g0_caseMany, g0_cases, g0_place, g0_numbers, g0_xs, g0_ys, g0_zs, g0_us, g0_vs, g0_ws, g0_touchTick, g0_touchHalf, .ref h1, .ref h4])), (h1, .inl (k1, 9, .inr (.inl ru.1))), (h2, .inl (k2, 4, .inl c2)), (h3, .inl (k3, 4, .inl c3)), (h4, .inl (k4, 81, .inr (.inl ru.2)))] t.heap ∧ va_K (dC, dI) vwCl [(k1, .long), (k2, .int), (k3, .int), (k4, .long)] t ∧ va_D A [(h0, .inr (10, [g0_length, g0_text, g0_itemMany, g0_items, g0_balls, g0_outs, g0_sightMany, g0_sights, g0_keptMany, g0_cameras, g0_callMany, g0_calls, .ref h3, .ref h2, g0_caseMany, g0_cases, g0_place, g0_numbers, g0_xs, g0_ys, g0_zs, g0_us, g0_vs, g0_ws, g0_touchTick, g0_touchHalf, .ref h1, .ref h4])), (h1, .inl (k1, 9, .inr (.inl ru.1))), (h2, .inl (k2, 4, .inl c2)), (h3, .inl (k3, 4, .inl c3)), (h4, .inl (k4, 81, .inr (.inl ru.2)))]) A) ([.ref h0] : List Value).toArray s 0 0 A) (F0 m 169 ls []) := by
        intro c1_169 c4_169 ls H locs hrun hP hD hS hl
        rw [ek169] at hrun
        cases hrun
        have hP9 : va_P (dC, dI) vwCl [(h0, .inr (10, [g0_length, g0_text, g0_itemMany, g0_items, g0_balls, g0_outs, g0_sightMany, g0_sights, g0_keptMany, g0_cameras, g0_callMany, g0_calls, .ref h3, .ref h2, g0_caseMany, g0_cases, g0_place, g0_numbers, g0_xs, g0_ys, g0_zs, g0_us, g0_vs, g0_ws, g0_touchTick, g0_touchHalf, .ref h1, .ref h4])), (h1, .inl (k1, 9, .inr (.inl c1_169))), (h2, .inl (k2, 4, .inl c2)), (h3, .inl (k3, 4, .inl c3)), (h4, .inl (k4, 81, .inr (.inl c4_169)))] H := hP
        have hD9 : va_D A [(h0, .inr (10, [g0_length, g0_text, g0_itemMany, g0_items, g0_balls, g0_outs, g0_sightMany, g0_sights, g0_keptMany, g0_cameras, g0_callMany, g0_calls, .ref h3, .ref h2, g0_caseMany, g0_cases, g0_place, g0_numbers, g0_xs, g0_ys, g0_zs, g0_us, g0_vs, g0_ws, g0_touchTick, g0_touchHalf, .ref h1, .ref h4])), (h1, .inl (k1, 9, .inr (.inl c1_169))), (h2, .inl (k2, 4, .inl c2)), (h3, .inl (k3, 4, .inl c3)), (h4, .inl (k4, 81, .inr (.inl c4_169)))] := hD
        exact W.vret hx hb hr (fun t ht hW => ⟨⟨(), rfl, trivial, by rw [ht]; exact hP9, va_K.moved hW.alike hK, hD9⟩, hS.F ht⟩) hS.2.2 dX10_layWorths_169
      have L30 : ∀ (n : Nat) (x1_30 : Int32) (c1_30 : Nat → Int64) (c4_30 : Nat → Int64) (ls : Array Slot) (H : Heap) (locs : List Loc), fX10_layWorths_p30 N c2 c3 k169 n x1_30 c1_30 c4_30 = some ru → va_P (dC, dI) vwCl [(h0, .inr (10, [g0_length, g0_text, g0_itemMany, g0_items, g0_balls, g0_outs, g0_sightMany, g0_sights, g0_keptMany, g0_cameras, g0_callMany, g0_calls, .ref h3, .ref h2, g0_caseMany, g0_cases, g0_place, g0_numbers, g0_xs, g0_ys, g0_zs, g0_us, g0_vs, g0_ws, g0_touchTick, g0_touchHalf, .ref h1, .ref h4])), (h1, .inl (k1, 9, .inr (.inl c1_30))), (h2, .inl (k2, 4, .inl c2)), (h3, .inl (k3, 4, .inl c3)), (h4, .inl (k4, 81, .inr (.inl c4_30)))] H → va_D A [(h0, .inr (10, [g0_length, g0_text, g0_itemMany, g0_items, g0_balls, g0_outs, g0_sightMany, g0_sights, g0_keptMany, g0_cameras, g0_callMany, g0_calls, .ref h3, .ref h2, g0_caseMany, g0_cases, g0_place, g0_numbers, g0_xs, g0_ys, g0_zs, g0_us, g0_vs, g0_ws, g0_touchTick, g0_touchHalf, .ref h1, .ref h4])), (h1, .inl (k1, 9, .inr (.inl c1_30))), (h2, .inl (k2, 4, .inl c2)), (h3, .inl (k3, 4, .inl c3)), (h4, .inl (k4, 81, .inr (.inl c4_30)))] → va_S A s.heap H locs → lv_has ls 10 [(0, .ref h0), (1, .int x1_30)] → W p l e (headSpec wsX10_layWorths ({ frames := 1, cells := 0, slots := 0, locals := 23 } : Room)).room s m ([.ref h0] : List Value).toArray below meth c H locs 0 0 (MQ below (va_Qv (fun (_ : Unit) => True) (fun (_ : Unit) t => va_P (dC, dI) vwCl [(h0, .inr (10, [g0_length, g0_text, g0_itemMany, g0_items, g0_balls, g0_outs, g0_sightMany, g0_sights, g0_keptMany, g0_cameras, g0_callMany, g0_calls, .ref h3, .ref h2, g0_caseMany, g0_cases, g0_place, g0_numbers, g0_xs, g0_ys, g0_zs, g0_us, g0_vs, g0_ws, g0_touchTick, g0_touchHalf, .ref h1, .ref h4])), (h1, .inl (k1, 9, .inr (.inl ru.1))), (h2, .inl (k2, 4, .inl c2)), (h3, .inl (k3, 4, .inl c3)), (h4, .inl (k4, 81, .inr (.inl ru.2)))] t.heap ∧ va_K (dC, dI) vwCl [(k1, .long), (k2, .int), (k3, .int), (k4, .long)] t ∧ va_D A [(h0, .inr (10, [g0_length, g0_text, g0_itemMany, g0_items, g0_balls, g0_outs, g0_sightMany, g0_sights, g0_keptMany, g0_cameras, g0_callMany, g0_calls, .ref h3, .ref h2, g0_caseMany, g0_cases, g0_place, g0_numbers, g0_xs, g0_ys, g0_zs, g0_us, g0_vs, g0_ws, g0_touchTick, g0_touchHalf, .ref h1, .ref h4])), (h1, .inl (k1, 9, .inr (.inl ru.1))), (h2, .inl (k2, 4, .inl c2)), (h3, .inl (k3, 4, .inl c3)), (h4, .inl (k4, 81, .inr (.inl ru.2)))]) A) ([.ref h0] : List Value).toArray s 0 0 A) (F0 m 30 ls []) := by
        intro n
        induction n with
        | zero => intro x1_30 c1_30 c4_30 ls H locs hrun; rw [fX10_layWorths_p30] at hrun; exact on_e hrun
        | succ n ih =>
          intro x1_30 c1_30 c4_30 ls H locs hrun hP hD hS hl
          rw [fX10_layWorths_p30] at hrun
          refine lv_iload_n hx hb dX10_layWorths_30 rfl (lv_at hl 1 rfl) ?_
          refine lv_bipush (v := (8 : Int32)) hx hb dX10_layWorths_31 (by decide) ?_
          refine lv_icmp_gt (tgt := 169) hx hb dX10_layWorths_33 (by decide) (fun cc => ?_) (fun cc => ?_)
          · have hrun := oi_t hrun cc
            exact J169 c1_30 c4_30 ls H locs hrun hP hD hS (lv_sub hl [] rfl)
          · have hrun := oi_f hrun cc
            refine lv_aload_n hx hb dX10_layWorths_36 rfl (lv_at hl 0 rfl) ?_
            refine va_get (D := (dC, dI)) (ci := 10) (v := .ref h1) (C := RX10) (T := TX10) (N := 28) hx hb hts hinX10 hown hK hP 0 rfl rfl 26 (by decide) (hts (.fieldLink RX10 67 "WasItOutModel" "powers" "[J") (by decide +kernel)) (fun _ h9 => h9) rfl dX10_layWorths_37 ?_
            refine lv_iload_n hx hb dX10_layWorths_40 rfl (lv_at hl 1 rfl) ?_
            refine lv_ldc2 (v := (100 : Int64)) hx hb hown (hts (.constantLong RX10 105 (100 : Int64)) (by decide +kernel)) dX10_layWorths_41 ?_
            refine lv_aload_n hx hb dX10_layWorths_44 rfl (lv_at hl 0 rfl) ?_
            refine va_get (D := (dC, dI)) (ci := 10) (v := .ref h1) (C := RX10) (T := TX10) (N := 28) hx hb hts hinX10 hown hK hP 0 rfl rfl 26 (by decide) (hts (.fieldLink RX10 67 "WasItOutModel" "powers" "[J") (by decide +kernel)) (fun _ h9 => h9) rfl dX10_layWorths_45 ?_
            refine lv_iload_n hx hb dX10_layWorths_48 rfl (lv_at hl 1 rfl) ?_
            refine lv_iconst (v := (1 : Int32)) hx hb dX10_layWorths_49 (by decide) ?_
            refine lv_isub hx hb dX10_layWorths_50 ?_
            obtain ⟨hi, hrun⟩ := oi_x hrun
            refine va_lald hx hb hK hP 1 0 rfl rfl hi dX10_layWorths_51 ?_
            refine lv_lmul hx hb dX10_layWorths_52 ?_
            obtain ⟨hi, hrun⟩ := oi_x hrun
            refine va_last hx hb hK hP hD hS 1 0 rfl rfl hi dX10_layWorths_53 (fun H locs hP hD hS => ?_)
            have hP : va_P (dC, dI) vwCl [(h0, .inr (10, [g0_length, g0_text, g0_itemMany, g0_items, g0_balls, g0_outs, g0_sightMany, g0_sights, g0_keptMany, g0_cameras, g0_callMany, g0_calls, .ref h3, .ref h2, g0_caseMany, g0_cases, g0_place, g0_numbers, g0_xs, g0_ys, g0_zs, g0_us, g0_vs, g0_ws, g0_touchTick, g0_touchHalf, .ref h1, .ref h4])), (h1, .inl (k1, 9, .inr (.inl (vp_updL c1_30 x1_30.toNatClampNeg ((100 : Int64) * (c1_30 (x1_30 - (1 : Int32)).toNatClampNeg)))))), (h2, .inl (k2, 4, .inl c2)), (h3, .inl (k3, 4, .inl c3)), (h4, .inl (k4, 81, .inr (.inl c4_30)))] H := hP
            have hD : va_D A [(h0, .inr (10, [g0_length, g0_text, g0_itemMany, g0_items, g0_balls, g0_outs, g0_sightMany, g0_sights, g0_keptMany, g0_cameras, g0_callMany, g0_calls, .ref h3, .ref h2, g0_caseMany, g0_cases, g0_place, g0_numbers, g0_xs, g0_ys, g0_zs, g0_us, g0_vs, g0_ws, g0_touchTick, g0_touchHalf, .ref h1, .ref h4])), (h1, .inl (k1, 9, .inr (.inl (vp_updL c1_30 x1_30.toNatClampNeg ((100 : Int64) * (c1_30 (x1_30 - (1 : Int32)).toNatClampNeg)))))), (h2, .inl (k2, 4, .inl c2)), (h3, .inl (k3, 4, .inl c3)), (h4, .inl (k4, 81, .inr (.inl c4_30)))] := hD
            refine lv_iconst (v := (0 : Int32)) hx hb dX10_layWorths_54 (by decide) ?_
            refine lv_istore_n (lv' := [(2, .int (0 : Int32)), (0, .ref h0), (1, .int x1_30)]) hx hb dX10_layWorths_55 rfl hl (by decide) rfl (fun ls hl => ?_)
            obtain ⟨k163, ek163, hrun⟩ := jn_e hrun
            have J163 : ∀ (c4_163 : Nat → Int64) (ls : Array Slot) (H : Heap) (locs : List Loc), k163 c4_163 = some ru → va_P (dC, dI) vwCl [(h0, .inr (10, [g0_length, g0_text, g0_itemMany, g0_items, g0_balls, g0_outs, g0_sightMany, g0_sights, g0_keptMany, g0_cameras, g0_callMany, g0_calls, .ref h3, .ref h2, g0_caseMany, g0_cases, g0_place, g0_numbers, g0_xs, g0_ys, g0_zs, g0_us, g0_vs, g0_ws, g0_touchTick, g0_touchHalf, .ref h1, .ref h4])), (h1, .inl (k1, 9, .inr (.inl (vp_updL c1_30 x1_30.toNatClampNeg ((100 : Int64) * (c1_30 (x1_30 - (1 : Int32)).toNatClampNeg)))))), (h2, .inl (k2, 4, .inl c2)), (h3, .inl (k3, 4, .inl c3)), (h4, .inl (k4, 81, .inr (.inl c4_163)))] H → va_D A [(h0, .inr (10, [g0_length, g0_text, g0_itemMany, g0_items, g0_balls, g0_outs, g0_sightMany, g0_sights, g0_keptMany, g0_cameras, g0_callMany, g0_calls, .ref h3, .ref h2, g0_caseMany, g0_cases, g0_place, g0_numbers, g0_xs, g0_ys, g0_zs, g0_us, g0_vs, g0_ws, g0_touchTick, g0_touchHalf, .ref h1, .ref h4])), (h1, .inl (k1, 9, .inr (.inl (vp_updL c1_30 x1_30.toNatClampNeg ((100 : Int64) * (c1_30 (x1_30 - (1 : Int32)).toNatClampNeg)))))), (h2, .inl (k2, 4, .inl c2)), (h3, .inl (k3, 4, .inl c3)), (h4, .inl (k4, 81, .inr (.inl c4_163)))] → va_S A s.heap H locs → lv_has ls 10 [(0, .ref h0), (1, .int x1_30)] → W p l e (headSpec wsX10_layWorths ({ frames := 1, cells := 0, slots := 0, locals := 23 } : Room)).room s m ([.ref h0] : List Value).toArray below meth c H locs 0 0 (MQ below (va_Qv (fun (_ : Unit) => True) (fun (_ : Unit) t => va_P (dC, dI) vwCl [(h0, .inr (10, [g0_length, g0_text, g0_itemMany, g0_items, g0_balls, g0_outs, g0_sightMany, g0_sights, g0_keptMany, g0_cameras, g0_callMany, g0_calls, .ref h3, .ref h2, g0_caseMany, g0_cases, g0_place, g0_numbers, g0_xs, g0_ys, g0_zs, g0_us, g0_vs, g0_ws, g0_touchTick, g0_touchHalf, .ref h1, .ref h4])), (h1, .inl (k1, 9, .inr (.inl ru.1))), (h2, .inl (k2, 4, .inl c2)), (h3, .inl (k3, 4, .inl c3)), (h4, .inl (k4, 81, .inr (.inl ru.2)))] t.heap ∧ va_K (dC, dI) vwCl [(k1, .long), (k2, .int), (k3, .int), (k4, .long)] t ∧ va_D A [(h0, .inr (10, [g0_length, g0_text, g0_itemMany, g0_items, g0_balls, g0_outs, g0_sightMany, g0_sights, g0_keptMany, g0_cameras, g0_callMany, g0_calls, .ref h3, .ref h2, g0_caseMany, g0_cases, g0_place, g0_numbers, g0_xs, g0_ys, g0_zs, g0_us, g0_vs, g0_ws, g0_touchTick, g0_touchHalf, .ref h1, .ref h4])), (h1, .inl (k1, 9, .inr (.inl ru.1))), (h2, .inl (k2, 4, .inl c2)), (h3, .inl (k3, 4, .inl c3)), (h4, .inl (k4, 81, .inr (.inl ru.2)))]) A) ([.ref h0] : List Value).toArray s 0 0 A) (F0 m 163 ls []) := by
              intro c4_163 ls H locs hrun hP hD hS hl
              rw [ek163] at hrun
              refine lv_iinc (v := (x1_30 + (1 : Int32))) (lv' := [(1, .int (x1_30 + (1 : Int32))), (0, .ref h0)]) hx hb dX10_layWorths_163 hl (k := 1) rfl rfl (by decide) rfl (fun ls hl => ?_)
              refine lv_goto (tgt := 30) hx hb dX10_layWorths_166 (by decide) ?_
              exact ih ((x1_30 + (1 : Int32))) ((vp_updL c1_30 x1_30.toNatClampNeg ((100 : Int64) * (c1_30 (x1_30 - (1 : Int32)).toNatClampNeg)))) c4_163 ls H locs hrun hP hD hS (lv_sub hl [1, 0] rfl)
            have L56 : ∀ (n : Nat) (x2_56 : Int32) (c4_56 : Nat → Int64) (ls : Array Slot) (H : Heap) (locs : List Loc), fX10_layWorths_p56 N x1_30 ((vp_updL c1_30 x1_30.toNatClampNeg ((100 : Int64) * (c1_30 (x1_30 - (1 : Int32)).toNatClampNeg)))) c2 c3 k163 n x2_56 c4_56 = some ru → va_P (dC, dI) vwCl [(h0, .inr (10, [g0_length, g0_text, g0_itemMany, g0_items, g0_balls, g0_outs, g0_sightMany, g0_sights, g0_keptMany, g0_cameras, g0_callMany, g0_calls, .ref h3, .ref h2, g0_caseMany, g0_cases, g0_place, g0_numbers, g0_xs, g0_ys, g0_zs, g0_us, g0_vs, g0_ws, g0_touchTick, g0_touchHalf, .ref h1, .ref h4])), (h1, .inl (k1, 9, .inr (.inl (vp_updL c1_30 x1_30.toNatClampNeg ((100 : Int64) * (c1_30 (x1_30 - (1 : Int32)).toNatClampNeg)))))), (h2, .inl (k2, 4, .inl c2)), (h3, .inl (k3, 4, .inl c3)), (h4, .inl (k4, 81, .inr (.inl c4_56)))] H → va_D A [(h0, .inr (10, [g0_length, g0_text, g0_itemMany, g0_items, g0_balls, g0_outs, g0_sightMany, g0_sights, g0_keptMany, g0_cameras, g0_callMany, g0_calls, .ref h3, .ref h2, g0_caseMany, g0_cases, g0_place, g0_numbers, g0_xs, g0_ys, g0_zs, g0_us, g0_vs, g0_ws, g0_touchTick, g0_touchHalf, .ref h1, .ref h4])), (h1, .inl (k1, 9, .inr (.inl (vp_updL c1_30 x1_30.toNatClampNeg ((100 : Int64) * (c1_30 (x1_30 - (1 : Int32)).toNatClampNeg)))))), (h2, .inl (k2, 4, .inl c2)), (h3, .inl (k3, 4, .inl c3)), (h4, .inl (k4, 81, .inr (.inl c4_56)))] → va_S A s.heap H locs → lv_has ls 10 [(0, .ref h0), (1, .int x1_30), (2, .int x2_56)] → W p l e (headSpec wsX10_layWorths ({ frames := 1, cells := 0, slots := 0, locals := 23 } : Room)).room s m ([.ref h0] : List Value).toArray below meth c H locs 0 0 (MQ below (va_Qv (fun (_ : Unit) => True) (fun (_ : Unit) t => va_P (dC, dI) vwCl [(h0, .inr (10, [g0_length, g0_text, g0_itemMany, g0_items, g0_balls, g0_outs, g0_sightMany, g0_sights, g0_keptMany, g0_cameras, g0_callMany, g0_calls, .ref h3, .ref h2, g0_caseMany, g0_cases, g0_place, g0_numbers, g0_xs, g0_ys, g0_zs, g0_us, g0_vs, g0_ws, g0_touchTick, g0_touchHalf, .ref h1, .ref h4])), (h1, .inl (k1, 9, .inr (.inl ru.1))), (h2, .inl (k2, 4, .inl c2)), (h3, .inl (k3, 4, .inl c3)), (h4, .inl (k4, 81, .inr (.inl ru.2)))] t.heap ∧ va_K (dC, dI) vwCl [(k1, .long), (k2, .int), (k3, .int), (k4, .long)] t ∧ va_D A [(h0, .inr (10, [g0_length, g0_text, g0_itemMany, g0_items, g0_balls, g0_outs, g0_sightMany, g0_sights, g0_keptMany, g0_cameras, g0_callMany, g0_calls, .ref h3, .ref h2, g0_caseMany, g0_cases, g0_place, g0_numbers, g0_xs, g0_ys, g0_zs, g0_us, g0_vs, g0_ws, g0_touchTick, g0_touchHalf, .ref h1, .ref h4])), (h1, .inl (k1, 9, .inr (.inl ru.1))), (h2, .inl (k2, 4, .inl c2)), (h3, .inl (k3, 4, .inl c3)), (h4, .inl (k4, 81, .inr (.inl ru.2)))]) A) ([.ref h0] : List Value).toArray s 0 0 A) (F0 m 56 ls []) := by
              intro n
              induction n with
              | zero => intro x2_56 c4_56 ls H locs hrun; rw [fX10_layWorths_p56] at hrun; exact on_e hrun
              | succ n ih =>
                intro x2_56 c4_56 ls H locs hrun hP hD hS hl
                rw [fX10_layWorths_p56] at hrun
                refine lv_iload_n hx hb dX10_layWorths_56 rfl (lv_at hl 2 rfl) ?_
                refine lv_bipush (v := (9 : Int32)) hx hb dX10_layWorths_57 (by decide) ?_
                refine lv_icmp_ge (tgt := 163) hx hb dX10_layWorths_59 (by decide) (fun cc => ?_) (fun cc => ?_)
                · have hrun := oi_t hrun cc
                  exact J163 c4_56 ls H locs hrun hP hD hS (lv_sub hl [0, 1] rfl)
                · have hrun := oi_f hrun cc
                  refine lv_lconst (v := (0 : Int64)) hx hb dX10_layWorths_62 (by decide) ?_
                  refine lv_lstore_n (lv' := [(3, .long (0 : Int64)), (0, .ref h0), (1, .int x1_30), (2, .int x2_56)]) hx hb dX10_layWorths_63 rfl hl (by decide) rfl (fun ls hl => ?_)
                  refine lv_iconst (v := (0 : Int32)) hx hb dX10_layWorths_64 (by decide) ?_
                  refine lv_istore (lv' := [(5, .int (0 : Int32)), (3, .long (0 : Int64)), (0, .ref h0), (1, .int x1_30), (2, .int x2_56)]) hx hb dX10_layWorths_65 hl (by decide) rfl (fun ls hl => ?_)
                  obtain ⟨k145, ek145, hrun⟩ := jn_e hrun
                  have J145 : ∀ (x3_145 : Int64) (ls : Array Slot) (H : Heap) (locs : List Loc), k145 x3_145 = some ru → va_P (dC, dI) vwCl [(h0, .inr (10, [g0_length, g0_text, g0_itemMany, g0_items, g0_balls, g0_outs, g0_sightMany, g0_sights, g0_keptMany, g0_cameras, g0_callMany, g0_calls, .ref h3, .ref h2, g0_caseMany, g0_cases, g0_place, g0_numbers, g0_xs, g0_ys, g0_zs, g0_us, g0_vs, g0_ws, g0_touchTick, g0_touchHalf, .ref h1, .ref h4])), (h1, .inl (k1, 9, .inr (.inl (vp_updL c1_30 x1_30.toNatClampNeg ((100 : Int64) * (c1_30 (x1_30 - (1 : Int32)).toNatClampNeg)))))), (h2, .inl (k2, 4, .inl c2)), (h3, .inl (k3, 4, .inl c3)), (h4, .inl (k4, 81, .inr (.inl c4_56)))] H → va_D A [(h0, .inr (10, [g0_length, g0_text, g0_itemMany, g0_items, g0_balls, g0_outs, g0_sightMany, g0_sights, g0_keptMany, g0_cameras, g0_callMany, g0_calls, .ref h3, .ref h2, g0_caseMany, g0_cases, g0_place, g0_numbers, g0_xs, g0_ys, g0_zs, g0_us, g0_vs, g0_ws, g0_touchTick, g0_touchHalf, .ref h1, .ref h4])), (h1, .inl (k1, 9, .inr (.inl (vp_updL c1_30 x1_30.toNatClampNeg ((100 : Int64) * (c1_30 (x1_30 - (1 : Int32)).toNatClampNeg)))))), (h2, .inl (k2, 4, .inl c2)), (h3, .inl (k3, 4, .inl c3)), (h4, .inl (k4, 81, .inr (.inl c4_56)))] → va_S A s.heap H locs → lv_has ls 10 [(0, .ref h0), (1, .int x1_30), (2, .int x2_56), (3, .long x3_145)] → W p l e (headSpec wsX10_layWorths ({ frames := 1, cells := 0, slots := 0, locals := 23 } : Room)).room s m ([.ref h0] : List Value).toArray below meth c H locs 0 0 (MQ below (va_Qv (fun (_ : Unit) => True) (fun (_ : Unit) t => va_P (dC, dI) vwCl [(h0, .inr (10, [g0_length, g0_text, g0_itemMany, g0_items, g0_balls, g0_outs, g0_sightMany, g0_sights, g0_keptMany, g0_cameras, g0_callMany, g0_calls, .ref h3, .ref h2, g0_caseMany, g0_cases, g0_place, g0_numbers, g0_xs, g0_ys, g0_zs, g0_us, g0_vs, g0_ws, g0_touchTick, g0_touchHalf, .ref h1, .ref h4])), (h1, .inl (k1, 9, .inr (.inl ru.1))), (h2, .inl (k2, 4, .inl c2)), (h3, .inl (k3, 4, .inl c3)), (h4, .inl (k4, 81, .inr (.inl ru.2)))] t.heap ∧ va_K (dC, dI) vwCl [(k1, .long), (k2, .int), (k3, .int), (k4, .long)] t ∧ va_D A [(h0, .inr (10, [g0_length, g0_text, g0_itemMany, g0_items, g0_balls, g0_outs, g0_sightMany, g0_sights, g0_keptMany, g0_cameras, g0_callMany, g0_calls, .ref h3, .ref h2, g0_caseMany, g0_cases, g0_place, g0_numbers, g0_xs, g0_ys, g0_zs, g0_us, g0_vs, g0_ws, g0_touchTick, g0_touchHalf, .ref h1, .ref h4])), (h1, .inl (k1, 9, .inr (.inl ru.1))), (h2, .inl (k2, 4, .inl c2)), (h3, .inl (k3, 4, .inl c3)), (h4, .inl (k4, 81, .inr (.inl ru.2)))]) A) ([.ref h0] : List Value).toArray s 0 0 A) (F0 m 145 ls []) := by
                    intro x3_145 ls H locs hrun hP hD hS hl
                    rw [ek145] at hrun
                    refine lv_aload_n hx hb dX10_layWorths_145 rfl (lv_at hl 0 rfl) ?_
                    refine va_get (D := (dC, dI)) (ci := 10) (v := .ref h4) (C := RX10) (T := TX10) (N := 28) hx hb hts hinX10 hown hK hP 0 rfl rfl 27 (by decide) (hts (.fieldLink RX10 71 "WasItOutModel" "worths" "[J") (by decide +kernel)) (fun _ h9 => h9) rfl dX10_layWorths_146 ?_
                    refine lv_bipush (v := (9 : Int32)) hx hb dX10_layWorths_149 (by decide) ?_
                    refine lv_iload_n hx hb dX10_layWorths_151 rfl (lv_at hl 1 rfl) ?_
                    refine lv_imul hx hb dX10_layWorths_152 ?_
                    refine lv_iload_n hx hb dX10_layWorths_153 rfl (lv_at hl 2 rfl) ?_
                    refine lv_iadd hx hb dX10_layWorths_154 ?_
                    refine lv_lload_n hx hb dX10_layWorths_155 rfl (lv_at hl 3 rfl) ?_
                    obtain ⟨hi, hrun⟩ := oi_x hrun
                    refine va_last hx hb hK hP hD hS 4 3 rfl rfl hi dX10_layWorths_156 (fun H locs hP hD hS => ?_)
                    have hP : va_P (dC, dI) vwCl [(h0, .inr (10, [g0_length, g0_text, g0_itemMany, g0_items, g0_balls, g0_outs, g0_sightMany, g0_sights, g0_keptMany, g0_cameras, g0_callMany, g0_calls, .ref h3, .ref h2, g0_caseMany, g0_cases, g0_place, g0_numbers, g0_xs, g0_ys, g0_zs, g0_us, g0_vs, g0_ws, g0_touchTick, g0_touchHalf, .ref h1, .ref h4])), (h1, .inl (k1, 9, .inr (.inl (vp_updL c1_30 x1_30.toNatClampNeg ((100 : Int64) * (c1_30 (x1_30 - (1 : Int32)).toNatClampNeg)))))), (h2, .inl (k2, 4, .inl c2)), (h3, .inl (k3, 4, .inl c3)), (h4, .inl (k4, 81, .inr (.inl (vp_updL c4_56 (((9 : Int32) * x1_30) + x2_56).toNatClampNeg x3_145))))] H := hP
                    have hD : va_D A [(h0, .inr (10, [g0_length, g0_text, g0_itemMany, g0_items, g0_balls, g0_outs, g0_sightMany, g0_sights, g0_keptMany, g0_cameras, g0_callMany, g0_calls, .ref h3, .ref h2, g0_caseMany, g0_cases, g0_place, g0_numbers, g0_xs, g0_ys, g0_zs, g0_us, g0_vs, g0_ws, g0_touchTick, g0_touchHalf, .ref h1, .ref h4])), (h1, .inl (k1, 9, .inr (.inl (vp_updL c1_30 x1_30.toNatClampNeg ((100 : Int64) * (c1_30 (x1_30 - (1 : Int32)).toNatClampNeg)))))), (h2, .inl (k2, 4, .inl c2)), (h3, .inl (k3, 4, .inl c3)), (h4, .inl (k4, 81, .inr (.inl (vp_updL c4_56 (((9 : Int32) * x1_30) + x2_56).toNatClampNeg x3_145))))] := hD
                    refine lv_iinc (v := (x2_56 + (1 : Int32))) (lv' := [(2, .int (x2_56 + (1 : Int32))), (0, .ref h0), (1, .int x1_30), (3, .long x3_145)]) hx hb dX10_layWorths_157 hl (k := 2) rfl rfl (by decide) rfl (fun ls hl => ?_)
                    refine lv_goto (tgt := 56) hx hb dX10_layWorths_160 (by decide) ?_
                    exact ih ((x2_56 + (1 : Int32))) ((vp_updL c4_56 (((9 : Int32) * x1_30) + x2_56).toNatClampNeg x3_145)) ls H locs hrun hP hD hS (lv_sub hl [1, 2, 0] rfl)
                  have L67 : ∀ (n : Nat) (x3_67 : Int64) (x5_67 : Int32) (ls : Array Slot) (H : Heap) (locs : List Loc), fX10_layWorths_p67 N x1_30 x2_56 ((vp_updL c1_30 x1_30.toNatClampNeg ((100 : Int64) * (c1_30 (x1_30 - (1 : Int32)).toNatClampNeg)))) c2 c3 c4_56 k145 n x3_67 x5_67 = some ru → va_P (dC, dI) vwCl [(h0, .inr (10, [g0_length, g0_text, g0_itemMany, g0_items, g0_balls, g0_outs, g0_sightMany, g0_sights, g0_keptMany, g0_cameras, g0_callMany, g0_calls, .ref h3, .ref h2, g0_caseMany, g0_cases, g0_place, g0_numbers, g0_xs, g0_ys, g0_zs, g0_us, g0_vs, g0_ws, g0_touchTick, g0_touchHalf, .ref h1, .ref h4])), (h1, .inl (k1, 9, .inr (.inl (vp_updL c1_30 x1_30.toNatClampNeg ((100 : Int64) * (c1_30 (x1_30 - (1 : Int32)).toNatClampNeg)))))), (h2, .inl (k2, 4, .inl c2)), (h3, .inl (k3, 4, .inl c3)), (h4, .inl (k4, 81, .inr (.inl c4_56)))] H → va_D A [(h0, .inr (10, [g0_length, g0_text, g0_itemMany, g0_items, g0_balls, g0_outs, g0_sightMany, g0_sights, g0_keptMany, g0_cameras, g0_callMany, g0_calls, .ref h3, .ref h2, g0_caseMany, g0_cases, g0_place, g0_numbers, g0_xs, g0_ys, g0_zs, g0_us, g0_vs, g0_ws, g0_touchTick, g0_touchHalf, .ref h1, .ref h4])), (h1, .inl (k1, 9, .inr (.inl (vp_updL c1_30 x1_30.toNatClampNeg ((100 : Int64) * (c1_30 (x1_30 - (1 : Int32)).toNatClampNeg)))))), (h2, .inl (k2, 4, .inl c2)), (h3, .inl (k3, 4, .inl c3)), (h4, .inl (k4, 81, .inr (.inl c4_56)))] → va_S A s.heap H locs → lv_has ls 10 [(0, .ref h0), (1, .int x1_30), (2, .int x2_56), (3, .long x3_67), (5, .int x5_67)] → W p l e (headSpec wsX10_layWorths ({ frames := 1, cells := 0, slots := 0, locals := 23 } : Room)).room s m ([.ref h0] : List Value).toArray below meth c H locs 0 0 (MQ below (va_Qv (fun (_ : Unit) => True) (fun (_ : Unit) t => va_P (dC, dI) vwCl [(h0, .inr (10, [g0_length, g0_text, g0_itemMany, g0_items, g0_balls, g0_outs, g0_sightMany, g0_sights, g0_keptMany, g0_cameras, g0_callMany, g0_calls, .ref h3, .ref h2, g0_caseMany, g0_cases, g0_place, g0_numbers, g0_xs, g0_ys, g0_zs, g0_us, g0_vs, g0_ws, g0_touchTick, g0_touchHalf, .ref h1, .ref h4])), (h1, .inl (k1, 9, .inr (.inl ru.1))), (h2, .inl (k2, 4, .inl c2)), (h3, .inl (k3, 4, .inl c3)), (h4, .inl (k4, 81, .inr (.inl ru.2)))] t.heap ∧ va_K (dC, dI) vwCl [(k1, .long), (k2, .int), (k3, .int), (k4, .long)] t ∧ va_D A [(h0, .inr (10, [g0_length, g0_text, g0_itemMany, g0_items, g0_balls, g0_outs, g0_sightMany, g0_sights, g0_keptMany, g0_cameras, g0_callMany, g0_calls, .ref h3, .ref h2, g0_caseMany, g0_cases, g0_place, g0_numbers, g0_xs, g0_ys, g0_zs, g0_us, g0_vs, g0_ws, g0_touchTick, g0_touchHalf, .ref h1, .ref h4])), (h1, .inl (k1, 9, .inr (.inl ru.1))), (h2, .inl (k2, 4, .inl c2)), (h3, .inl (k3, 4, .inl c3)), (h4, .inl (k4, 81, .inr (.inl ru.2)))]) A) ([.ref h0] : List Value).toArray s 0 0 A) (F0 m 67 ls []) := by
                    intro n
                    induction n with
                    | zero => intro x3_67 x5_67 ls H locs hrun; rw [fX10_layWorths_p67] at hrun; exact on_e hrun
                    | succ n ih =>
                      intro x3_67 x5_67 ls H locs hrun hP hD hS hl
                      rw [fX10_layWorths_p67] at hrun
                      refine lv_iload hx hb dX10_layWorths_67 (lv_at hl 4 rfl) ?_
                      refine lv_iconst (v := (4 : Int32)) hx hb dX10_layWorths_69 (by decide) ?_
                      refine lv_icmp_ge (tgt := 145) hx hb dX10_layWorths_70 (by decide) (fun cc => ?_) (fun cc => ?_)
                      · have hrun := oi_t hrun cc
                        exact J145 x3_67 ls H locs hrun hP hD hS (lv_sub hl [0, 1, 2, 3] rfl)
                      · have hrun := oi_f hrun cc
                        refine lv_ldc2 (v := (10 : Int64)) hx hb hown (hts (.constantLong RX10 168 (10 : Int64)) (by decide +kernel)) dX10_layWorths_73 ?_
                        refine lv_aload_n hx hb dX10_layWorths_76 rfl (lv_at hl 0 rfl) ?_
                        refine va_get (D := (dC, dI)) (ci := 10) (v := .ref h4) (C := RX10) (T := TX10) (N := 28) hx hb hts hinX10 hown hK hP 0 rfl rfl 27 (by decide) (hts (.fieldLink RX10 71 "WasItOutModel" "worths" "[J") (by decide +kernel)) (fun _ h9 => h9) rfl dX10_layWorths_77 ?_
                        refine lv_bipush (v := (9 : Int32)) hx hb dX10_layWorths_80 (by decide) ?_
                        refine lv_iload_n hx hb dX10_layWorths_82 rfl (lv_at hl 1 rfl) ?_
                        refine lv_iconst (v := (1 : Int32)) hx hb dX10_layWorths_83 (by decide) ?_
                        refine lv_isub hx hb dX10_layWorths_84 ?_
                        refine lv_imul hx hb dX10_layWorths_85 ?_
                        refine lv_iload_n hx hb dX10_layWorths_86 rfl (lv_at hl 2 rfl) ?_
                        refine lv_iadd hx hb dX10_layWorths_87 ?_
                        obtain ⟨hi, hrun⟩ := oi_x hrun
                        refine va_lald hx hb hK hP 4 3 rfl rfl hi dX10_layWorths_88 ?_
                        refine lv_lmul hx hb dX10_layWorths_89 ?_
                        refine lv_lstore (lv' := [(6, .long ((10 : Int64) * (c4_56 (((9 : Int32) * (x1_30 - (1 : Int32))) + x2_56).toNatClampNeg))), (0, .ref h0), (1, .int x1_30), (2, .int x2_56), (3, .long x3_67), (5, .int x5_67)]) hx hb dX10_layWorths_90 hl (by decide) rfl (fun ls hl => ?_)
                        refine lv_iload_n hx hb dX10_layWorths_92 rfl (lv_at hl 3 rfl) ?_
                        obtain ⟨k110, ek110, hrun⟩ := jn_e hrun
                        have J110 : ∀ (z0_110 : Int64) (ls : Array Slot) (H : Heap) (locs : List Loc), k110 z0_110 = some ru → va_P (dC, dI) vwCl [(h0, .inr (10, [g0_length, g0_text, g0_itemMany, g0_items, g0_balls, g0_outs, g0_sightMany, g0_sights, g0_keptMany, g0_cameras, g0_callMany, g0_calls, .ref h3, .ref h2, g0_caseMany, g0_cases, g0_place, g0_numbers, g0_xs, g0_ys, g0_zs, g0_us, g0_vs, g0_ws, g0_touchTick, g0_touchHalf, .ref h1, .ref h4])), (h1, .inl (k1, 9, .inr (.inl (vp_updL c1_30 x1_30.toNatClampNeg ((100 : Int64) * (c1_30 (x1_30 - (1 : Int32)).toNatClampNeg)))))), (h2, .inl (k2, 4, .inl c2)), (h3, .inl (k3, 4, .inl c3)), (h4, .inl (k4, 81, .inr (.inl c4_56)))] H → va_D A [(h0, .inr (10, [g0_length, g0_text, g0_itemMany, g0_items, g0_balls, g0_outs, g0_sightMany, g0_sights, g0_keptMany, g0_cameras, g0_callMany, g0_calls, .ref h3, .ref h2, g0_caseMany, g0_cases, g0_place, g0_numbers, g0_xs, g0_ys, g0_zs, g0_us, g0_vs, g0_ws, g0_touchTick, g0_touchHalf, .ref h1, .ref h4])), (h1, .inl (k1, 9, .inr (.inl (vp_updL c1_30 x1_30.toNatClampNeg ((100 : Int64) * (c1_30 (x1_30 - (1 : Int32)).toNatClampNeg)))))), (h2, .inl (k2, 4, .inl c2)), (h3, .inl (k3, 4, .inl c3)), (h4, .inl (k4, 81, .inr (.inl c4_56)))] → va_S A s.heap H locs → lv_has ls 10 [(0, .ref h0), (1, .int x1_30), (2, .int x2_56), (3, .long x3_67), (5, .int x5_67), (6, .long ((10 : Int64) * (c4_56 (((9 : Int32) * (x1_30 - (1 : Int32))) + x2_56).toNatClampNeg)))] → W p l e (headSpec wsX10_layWorths ({ frames := 1, cells := 0, slots := 0, locals := 23 } : Room)).room s m ([.ref h0] : List Value).toArray below meth c H locs 0 0 (MQ below (va_Qv (fun (_ : Unit) => True) (fun (_ : Unit) t => va_P (dC, dI) vwCl [(h0, .inr (10, [g0_length, g0_text, g0_itemMany, g0_items, g0_balls, g0_outs, g0_sightMany, g0_sights, g0_keptMany, g0_cameras, g0_callMany, g0_calls, .ref h3, .ref h2, g0_caseMany, g0_cases, g0_place, g0_numbers, g0_xs, g0_ys, g0_zs, g0_us, g0_vs, g0_ws, g0_touchTick, g0_touchHalf, .ref h1, .ref h4])), (h1, .inl (k1, 9, .inr (.inl ru.1))), (h2, .inl (k2, 4, .inl c2)), (h3, .inl (k3, 4, .inl c3)), (h4, .inl (k4, 81, .inr (.inl ru.2)))] t.heap ∧ va_K (dC, dI) vwCl [(k1, .long), (k2, .int), (k3, .int), (k4, .long)] t ∧ va_D A [(h0, .inr (10, [g0_length, g0_text, g0_itemMany, g0_items, g0_balls, g0_outs, g0_sightMany, g0_sights, g0_keptMany, g0_cameras, g0_callMany, g0_calls, .ref h3, .ref h2, g0_caseMany, g0_cases, g0_place, g0_numbers, g0_xs, g0_ys, g0_zs, g0_us, g0_vs, g0_ws, g0_touchTick, g0_touchHalf, .ref h1, .ref h4])), (h1, .inl (k1, 9, .inr (.inl ru.1))), (h2, .inl (k2, 4, .inl c2)), (h3, .inl (k3, 4, .inl c3)), (h4, .inl (k4, 81, .inr (.inl ru.2)))]) A) ([.ref h0] : List Value).toArray s 0 0 A) (F0 m 110 ls [.long z0_110]) := by
                          intro z0_110 ls H locs hrun hP hD hS hl
                          rw [ek110] at hrun
                          refine lv_lstore (lv' := [(8, .long z0_110), (0, .ref h0), (1, .int x1_30), (2, .int x2_56), (3, .long x3_67), (5, .int x5_67), (6, .long ((10 : Int64) * (c4_56 (((9 : Int32) * (x1_30 - (1 : Int32))) + x2_56).toNatClampNeg)))]) hx hb dX10_layWorths_110 hl (by decide) rfl (fun ls hl => ?_)
                          refine lv_lload_n hx hb dX10_layWorths_112 rfl (lv_at hl 4 rfl) ?_
                          refine lv_aload_n hx hb dX10_layWorths_113 rfl (lv_at hl 1 rfl) ?_
                          refine va_get (D := (dC, dI)) (ci := 10) (v := .ref h3) (C := RX10) (T := TX10) (N := 28) hx hb hts hinX10 hown hK hP 0 rfl rfl 12 (by decide) (hts (.fieldLink RX10 37 "WasItOutModel" "shares" "[I") (by decide +kernel)) (fun _ h9 => h9) rfl dX10_layWorths_114 ?_
                          refine lv_iload hx hb dX10_layWorths_117 (lv_at hl 5 rfl) ?_
                          obtain ⟨hi, hrun⟩ := oi_x hrun
                          refine va_iald hx hb hK hP 3 2 rfl rfl hi dX10_layWorths_119 ?_
                          refine lv_i2l (v := (c3 x5_67.toNatClampNeg).toInt64) hx hb dX10_layWorths_120 rfl ?_
                          refine lv_lload hx hb dX10_layWorths_121 (lv_at hl 0 rfl) ?_
                          refine lv_lload hx hb dX10_layWorths_123 (lv_at hl 6 rfl) ?_
                          refine W.lcmp hx hb dX10_layWorths_125 ?_
                          obtain ⟨k136, ek136, hrun⟩ := jn_e hrun
                          have J136 : ∀ (z0_136 : Int64) (ls : Array Slot) (H : Heap) (locs : List Loc), k136 z0_136 = some ru → va_P (dC, dI) vwCl [(h0, .inr (10, [g0_length, g0_text, g0_itemMany, g0_items, g0_balls, g0_outs, g0_sightMany, g0_sights, g0_keptMany, g0_cameras, g0_callMany, g0_calls, .ref h3, .ref h2, g0_caseMany, g0_cases, g0_place, g0_numbers, g0_xs, g0_ys, g0_zs, g0_us, g0_vs, g0_ws, g0_touchTick, g0_touchHalf, .ref h1, .ref h4])), (h1, .inl (k1, 9, .inr (.inl (vp_updL c1_30 x1_30.toNatClampNeg ((100 : Int64) * (c1_30 (x1_30 - (1 : Int32)).toNatClampNeg)))))), (h2, .inl (k2, 4, .inl c2)), (h3, .inl (k3, 4, .inl c3)), (h4, .inl (k4, 81, .inr (.inl c4_56)))] H → va_D A [(h0, .inr (10, [g0_length, g0_text, g0_itemMany, g0_items, g0_balls, g0_outs, g0_sightMany, g0_sights, g0_keptMany, g0_cameras, g0_callMany, g0_calls, .ref h3, .ref h2, g0_caseMany, g0_cases, g0_place, g0_numbers, g0_xs, g0_ys, g0_zs, g0_us, g0_vs, g0_ws, g0_touchTick, g0_touchHalf, .ref h1, .ref h4])), (h1, .inl (k1, 9, .inr (.inl (vp_updL c1_30 x1_30.toNatClampNeg ((100 : Int64) * (c1_30 (x1_30 - (1 : Int32)).toNatClampNeg)))))), (h2, .inl (k2, 4, .inl c2)), (h3, .inl (k3, 4, .inl c3)), (h4, .inl (k4, 81, .inr (.inl c4_56)))] → va_S A s.heap H locs → lv_has ls 10 [(0, .ref h0), (1, .int x1_30), (2, .int x2_56), (5, .int x5_67)] → W p l e (headSpec wsX10_layWorths ({ frames := 1, cells := 0, slots := 0, locals := 23 } : Room)).room s m ([.ref h0] : List Value).toArray below meth c H locs 0 0 (MQ below (va_Qv (fun (_ : Unit) => True) (fun (_ : Unit) t => va_P (dC, dI) vwCl [(h0, .inr (10, [g0_length, g0_text, g0_itemMany, g0_items, g0_balls, g0_outs, g0_sightMany, g0_sights, g0_keptMany, g0_cameras, g0_callMany, g0_calls, .ref h3, .ref h2, g0_caseMany, g0_cases, g0_place, g0_numbers, g0_xs, g0_ys, g0_zs, g0_us, g0_vs, g0_ws, g0_touchTick, g0_touchHalf, .ref h1, .ref h4])), (h1, .inl (k1, 9, .inr (.inl ru.1))), (h2, .inl (k2, 4, .inl c2)), (h3, .inl (k3, 4, .inl c3)), (h4, .inl (k4, 81, .inr (.inl ru.2)))] t.heap ∧ va_K (dC, dI) vwCl [(k1, .long), (k2, .int), (k3, .int), (k4, .long)] t ∧ va_D A [(h0, .inr (10, [g0_length, g0_text, g0_itemMany, g0_items, g0_balls, g0_outs, g0_sightMany, g0_sights, g0_keptMany, g0_cameras, g0_callMany, g0_calls, .ref h3, .ref h2, g0_caseMany, g0_cases, g0_place, g0_numbers, g0_xs, g0_ys, g0_zs, g0_us, g0_vs, g0_ws, g0_touchTick, g0_touchHalf, .ref h1, .ref h4])), (h1, .inl (k1, 9, .inr (.inl ru.1))), (h2, .inl (k2, 4, .inl c2)), (h3, .inl (k3, 4, .inl c3)), (h4, .inl (k4, 81, .inr (.inl ru.2)))]) A) ([.ref h0] : List Value).toArray s 0 0 A) (F0 m 136 ls [.long z0_136, .long (c3 x5_67.toNatClampNeg).toInt64, .long x3_67]) := by
                            intro z0_136 ls H locs hrun hP hD hS hl
                            rw [ek136] at hrun
                            refine lv_lmul hx hb dX10_layWorths_136 ?_
                            refine lv_ladd hx hb dX10_layWorths_137 ?_
                            refine lv_lstore_n (lv' := [(3, .long (x3_67 + ((c3 x5_67.toNatClampNeg).toInt64 * z0_136))), (0, .ref h0), (1, .int x1_30), (2, .int x2_56), (5, .int x5_67)]) hx hb dX10_layWorths_138 rfl hl (by decide) rfl (fun ls hl => ?_)
                            refine lv_iinc (v := (x5_67 + (1 : Int32))) (lv' := [(5, .int (x5_67 + (1 : Int32))), (3, .long (x3_67 + ((c3 x5_67.toNatClampNeg).toInt64 * z0_136))), (0, .ref h0), (1, .int x1_30), (2, .int x2_56)]) hx hb dX10_layWorths_139 hl (k := 4) rfl rfl (by decide) rfl (fun ls hl => ?_)
                            refine lv_goto (tgt := 67) hx hb dX10_layWorths_142 (by decide) ?_
                            exact ih ((x3_67 + ((c3 x5_67.toNatClampNeg).toInt64 * z0_136))) ((x5_67 + (1 : Int32))) ls H locs hrun hP hD hS (lv_sub hl [2, 3, 4, 1, 0] rfl)
                          refine lv_if_le (tgt := 134) hx hb dX10_layWorths_126 (by decide) (fun cc => ?_) (fun cc => ?_)
                          · have hrun := oi_t hrun cc
                            refine lv_lload hx hb dX10_layWorths_134 (lv_at hl 6 rfl) ?_
                            exact J136 (((10 : Int64) * (c4_56 (((9 : Int32) * (x1_30 - (1 : Int32))) + x2_56).toNatClampNeg))) ls H locs hrun hP hD hS (lv_sub hl [1, 2, 3, 5] rfl)
                          · have hrun := oi_f hrun cc
                            refine lv_lload hx hb dX10_layWorths_129 (lv_at hl 0 rfl) ?_
                            refine lv_goto (tgt := 136) hx hb dX10_layWorths_131 (by decide) ?_
                            exact J136 z0_110 ls H locs hrun hP hD hS (lv_sub hl [1, 2, 3, 5] rfl)
                        refine lv_if_ne (tgt := 100) hx hb dX10_layWorths_93 (by decide) (fun cc => ?_) (fun cc => ?_)
                        · have hrun := oi_t hrun cc
                          refine lv_aload_n hx hb dX10_layWorths_100 rfl (lv_at hl 1 rfl) ?_
                          refine lv_iload_n hx hb dX10_layWorths_101 rfl (lv_at hl 2 rfl) ?_
                          refine lv_iconst (v := (1 : Int32)) hx hb dX10_layWorths_102 (by decide) ?_
                          refine lv_isub hx hb dX10_layWorths_103 ?_
                          refine lv_iload_n hx hb dX10_layWorths_104 rfl (lv_at hl 3 rfl) ?_
                          refine lv_iload hx hb dX10_layWorths_105 (lv_at hl 5 rfl) ?_
                          obtain ⟨q107, hc107, hrun⟩ := ob_e hrun
                          refine wz_csl (va_runV (As := [.int (x1_30 - (1 : Int32)), .int x2_56, .int x5_67]) (rest := []) ⟨hx, hb, hml, hown, hts⟩ (tX10_asked l dC dI h0 h1 h2 h4 k1 k2 k4 (g0_length) (g0_text) (g0_itemMany) (g0_items) (g0_balls) (g0_outs) (g0_sightMany) (g0_sights) (g0_keptMany) (g0_cameras) (g0_callMany) (g0_calls) (.ref h3) (g0_caseMany) (g0_cases) (g0_place) (g0_numbers) (g0_xs) (g0_ys) (g0_zs) (g0_us) (g0_vs) (g0_ws) (g0_touchTick) (g0_touchHalf) N ((x1_30 - (1 : Int32))) x2_56 x5_67 ((vp_updL c1_30 x1_30.toNatClampNeg ((100 : Int64) * (c1_30 (x1_30 - (1 : Int32)).toNatClampNeg)))) c2 c4_56 q107 hc107) (cwV 3 hts gX10_layWorths_X10_asked rfl rfl rfl (by decide +kernel) ⟨Nat.le_of_ble_eq_true rfl, Nat.le_of_ble_eq_true rfl⟩) (wz_pVr (hP.sub (ws' := [(h0, .inr (10, [g0_length, g0_text, g0_itemMany, g0_items, g0_balls, g0_outs, g0_sightMany, g0_sights, g0_keptMany, g0_cameras, g0_callMany, g0_calls, .ref h3, .ref h2, g0_caseMany, g0_cases, g0_place, g0_numbers, g0_xs, g0_ys, g0_zs, g0_us, g0_vs, g0_ws, g0_touchTick, g0_touchHalf, .ref h1, .ref h4])), (h1, .inl (k1, 9, .inr (.inl (vp_updL c1_30 x1_30.toNatClampNeg ((100 : Int64) * (c1_30 (x1_30 - (1 : Int32)).toNatClampNeg)))))), (h2, .inl (k2, 4, .inl c2)), (h4, .inl (k4, 81, .inr (.inl c4_56)))]) [0, 1, 2, 4] rfl) (hK.sub (tys' := [(k1, .long), (k2, .int), (k4, .long)]) [0, 1, 3] rfl) (va_recv hK hP (ci := 10) (q0 := 0) rfl rfl)) rfl rfl hl.1 rfl (lv_room (Nat.le_of_ble_eq_true rfl)) dX10_layWorths_107 ⟨Nat.zero_le _, Nat.zero_le _⟩) ?_
                          exact J110 q107 ls H locs hrun hP hD hS (lv_sub hl [1, 2, 3, 4, 5, 0] rfl)
                        · have hrun := oi_n hrun cc
                          refine lv_lconst (v := (0 : Int64)) hx hb dX10_layWorths_96 (by decide) ?_
                          refine lv_goto (tgt := 110) hx hb dX10_layWorths_97 (by decide) ?_
                          exact J110 ((0 : Int64)) ls H locs hrun hP hD hS (lv_sub hl [1, 2, 3, 4, 5, 0] rfl)
                  exact L67 N ((0 : Int64)) ((0 : Int32)) ls H locs hrun hP hD hS (lv_sub hl [2, 3, 4, 1, 0] rfl)
            exact L56 N ((0 : Int32)) c4_30 ls H locs hrun hP hD hS (lv_sub hl [1, 2, 0] rfl)
      exact L30 N ((1 : Int32)) ((vp_updL c1 (0 : Int32).toNatClampNeg (1 : Int64))) c4_28 ls H locs hrun hP hD hS (lv_sub hl [1, 0] rfl)
    have L9 : ∀ (n : Nat) (x1_9 : Int32) (c4_9 : Nat → Int64) (ls : Array Slot) (H : Heap) (locs : List Loc), fX10_layWorths_p9 N  k28 n x1_9 c4_9 = some ru → va_P (dC, dI) vwCl [(h0, .inr (10, [g0_length, g0_text, g0_itemMany, g0_items, g0_balls, g0_outs, g0_sightMany, g0_sights, g0_keptMany, g0_cameras, g0_callMany, g0_calls, .ref h3, .ref h2, g0_caseMany, g0_cases, g0_place, g0_numbers, g0_xs, g0_ys, g0_zs, g0_us, g0_vs, g0_ws, g0_touchTick, g0_touchHalf, .ref h1, .ref h4])), (h1, .inl (k1, 9, .inr (.inl (vp_updL c1 (0 : Int32).toNatClampNeg (1 : Int64))))), (h2, .inl (k2, 4, .inl c2)), (h3, .inl (k3, 4, .inl c3)), (h4, .inl (k4, 81, .inr (.inl c4_9)))] H → va_D A [(h0, .inr (10, [g0_length, g0_text, g0_itemMany, g0_items, g0_balls, g0_outs, g0_sightMany, g0_sights, g0_keptMany, g0_cameras, g0_callMany, g0_calls, .ref h3, .ref h2, g0_caseMany, g0_cases, g0_place, g0_numbers, g0_xs, g0_ys, g0_zs, g0_us, g0_vs, g0_ws, g0_touchTick, g0_touchHalf, .ref h1, .ref h4])), (h1, .inl (k1, 9, .inr (.inl (vp_updL c1 (0 : Int32).toNatClampNeg (1 : Int64))))), (h2, .inl (k2, 4, .inl c2)), (h3, .inl (k3, 4, .inl c3)), (h4, .inl (k4, 81, .inr (.inl c4_9)))] → va_S A s.heap H locs → lv_has ls 10 [(0, .ref h0), (1, .int x1_9)] → W p l e (headSpec wsX10_layWorths ({ frames := 1, cells := 0, slots := 0, locals := 23 } : Room)).room s m ([.ref h0] : List Value).toArray below meth c H locs 0 0 (MQ below (va_Qv (fun (_ : Unit) => True) (fun (_ : Unit) t => va_P (dC, dI) vwCl [(h0, .inr (10, [g0_length, g0_text, g0_itemMany, g0_items, g0_balls, g0_outs, g0_sightMany, g0_sights, g0_keptMany, g0_cameras, g0_callMany, g0_calls, .ref h3, .ref h2, g0_caseMany, g0_cases, g0_place, g0_numbers, g0_xs, g0_ys, g0_zs, g0_us, g0_vs, g0_ws, g0_touchTick, g0_touchHalf, .ref h1, .ref h4])), (h1, .inl (k1, 9, .inr (.inl ru.1))), (h2, .inl (k2, 4, .inl c2)), (h3, .inl (k3, 4, .inl c3)), (h4, .inl (k4, 81, .inr (.inl ru.2)))] t.heap ∧ va_K (dC, dI) vwCl [(k1, .long), (k2, .int), (k3, .int), (k4, .long)] t ∧ va_D A [(h0, .inr (10, [g0_length, g0_text, g0_itemMany, g0_items, g0_balls, g0_outs, g0_sightMany, g0_sights, g0_keptMany, g0_cameras, g0_callMany, g0_calls, .ref h3, .ref h2, g0_caseMany, g0_cases, g0_place, g0_numbers, g0_xs, g0_ys, g0_zs, g0_us, g0_vs, g0_ws, g0_touchTick, g0_touchHalf, .ref h1, .ref h4])), (h1, .inl (k1, 9, .inr (.inl ru.1))), (h2, .inl (k2, 4, .inl c2)), (h3, .inl (k3, 4, .inl c3)), (h4, .inl (k4, 81, .inr (.inl ru.2)))]) A) ([.ref h0] : List Value).toArray s 0 0 A) (F0 m 9 ls []) := by
      intro n
      induction n with
      | zero => intro x1_9 c4_9 ls H locs hrun; rw [fX10_layWorths_p9] at hrun; exact on_e hrun
      | succ n ih =>
        intro x1_9 c4_9 ls H locs hrun hP hD hS hl
        rw [fX10_layWorths_p9] at hrun
        refine lv_iload_n hx hb dX10_layWorths_9 rfl (lv_at hl 1 rfl) ?_
        refine lv_bipush (v := (9 : Int32)) hx hb dX10_layWorths_10 (by decide) ?_
        refine lv_icmp_ge (tgt := 28) hx hb dX10_layWorths_12 (by decide) (fun cc => ?_) (fun cc => ?_)
        · have hrun := oi_t hrun cc
          exact J28 c4_9 ls H locs hrun hP hD hS (lv_sub hl [0] rfl)
        · have hrun := oi_f hrun cc
          refine lv_aload_n hx hb dX10_layWorths_15 rfl (lv_at hl 0 rfl) ?_
          refine va_get (D := (dC, dI)) (ci := 10) (v := .ref h4) (C := RX10) (T := TX10) (N := 28) hx hb hts hinX10 hown hK hP 0 rfl rfl 27 (by decide) (hts (.fieldLink RX10 71 "WasItOutModel" "worths" "[J") (by decide +kernel)) (fun _ h9 => h9) rfl dX10_layWorths_16 ?_
          refine lv_iload_n hx hb dX10_layWorths_19 rfl (lv_at hl 1 rfl) ?_
          refine lv_lconst (v := (0 : Int64)) hx hb dX10_layWorths_20 (by decide) ?_
          obtain ⟨hi, hrun⟩ := oi_x hrun
          refine va_last hx hb hK hP hD hS 4 3 rfl rfl hi dX10_layWorths_21 (fun H locs hP hD hS => ?_)
          have hP : va_P (dC, dI) vwCl [(h0, .inr (10, [g0_length, g0_text, g0_itemMany, g0_items, g0_balls, g0_outs, g0_sightMany, g0_sights, g0_keptMany, g0_cameras, g0_callMany, g0_calls, .ref h3, .ref h2, g0_caseMany, g0_cases, g0_place, g0_numbers, g0_xs, g0_ys, g0_zs, g0_us, g0_vs, g0_ws, g0_touchTick, g0_touchHalf, .ref h1, .ref h4])), (h1, .inl (k1, 9, .inr (.inl (vp_updL c1 (0 : Int32).toNatClampNeg (1 : Int64))))), (h2, .inl (k2, 4, .inl c2)), (h3, .inl (k3, 4, .inl c3)), (h4, .inl (k4, 81, .inr (.inl (vp_updL c4_9 x1_9.toNatClampNeg (0 : Int64)))))] H := hP
          have hD : va_D A [(h0, .inr (10, [g0_length, g0_text, g0_itemMany, g0_items, g0_balls, g0_outs, g0_sightMany, g0_sights, g0_keptMany, g0_cameras, g0_callMany, g0_calls, .ref h3, .ref h2, g0_caseMany, g0_cases, g0_place, g0_numbers, g0_xs, g0_ys, g0_zs, g0_us, g0_vs, g0_ws, g0_touchTick, g0_touchHalf, .ref h1, .ref h4])), (h1, .inl (k1, 9, .inr (.inl (vp_updL c1 (0 : Int32).toNatClampNeg (1 : Int64))))), (h2, .inl (k2, 4, .inl c2)), (h3, .inl (k3, 4, .inl c3)), (h4, .inl (k4, 81, .inr (.inl (vp_updL c4_9 x1_9.toNatClampNeg (0 : Int64)))))] := hD
          refine lv_iinc (v := (x1_9 + (1 : Int32))) (lv' := [(1, .int (x1_9 + (1 : Int32))), (0, .ref h0)]) hx hb dX10_layWorths_22 hl (k := 1) rfl rfl (by decide) rfl (fun ls hl => ?_)
          refine lv_goto (tgt := 9) hx hb dX10_layWorths_25 (by decide) ?_
          exact ih ((x1_9 + (1 : Int32))) ((vp_updL c4_9 x1_9.toNatClampNeg (0 : Int64))) ls H locs hrun hP hD hS (lv_sub hl [1, 0] rfl)
    exact L9 N ((0 : Int32)) c4 ls H locs hrun hP hD hS (lv_sub hl [1, 0] rfl)
  rw [hHe, hLe] at key
  exact key
set_option maxHeartbeats 4000000 in
set_option maxRecDepth 100000 in
theorem tX10_notSo (l : Launch) (dC : Nat → ClassId) (dI : Nat → Nat → Nat) (h0 h1 : Nat) (k1 : ClassId) (g0_length g0_text g0_itemMany g0_items g0_balls g0_outs g0_sightMany g0_sights g0_keptMany g0_cameras g0_shares g0_rights g0_caseMany g0_cases g0_place g0_numbers g0_xs g0_ys g0_zs g0_us g0_vs g0_ws g0_touchTick g0_touchHalf g0_powers g0_worths : Value) (N : Nat) (a1 : Int32) (a2 : Int32) (v0_callMany : Int32) (c1 : Nat → Int32) (ru : Int32) (hm : fX10_notSo N a1 a2 v0_callMany c1 = some ru) : Met l yX10_notSo wsX10_notSo ({ frames := 0, cells := 0, slots := 0, locals := 0 } : Room) (va_Pc [.ref h0, .int a1, .int a2] (fun U => va_P (dC, dI) vwCl [(h0, .inr (10, [g0_length, g0_text, g0_itemMany, g0_items, g0_balls, g0_outs, g0_sightMany, g0_sights, g0_keptMany, g0_cameras, .int v0_callMany, .ref h1, g0_shares, g0_rights, g0_caseMany, g0_cases, g0_place, g0_numbers, g0_xs, g0_ys, g0_zs, g0_us, g0_vs, g0_ws, g0_touchTick, g0_touchHalf, g0_powers, g0_worths])), (h1, .inl (k1, 180, .inl c1))] U.heap ∧ va_K (dC, dI) vwCl [(k1, .int)] U)) (vp_Si (fun r => r = ru)) 0 0 (fun _ => False) := by
  refine Met.ofW (cc := cX10_notSo) (maxL := 6) (ret := (some .int)) (by decide) rfl ?_
  intro p e s m args below meth c s₁ B hml hv
  obtain ⟨rfl, hP, hK⟩ := hv
  have hx := B.exec
  have hb := B.bytes
  have hr := B.returns
  have hts := atoms_spec (ws := wsX10_notSo) B.pre
  have hown : s.vm.findClass RX10 = some m.cls := findClass_of_methodNamed B.named
  have hlocks := B.notSynchronized
  have hinX10 : ∀ w ∈ wsX100, w ∈ wsX10_notSo := by decide +kernel
  have hl := lv_entry ([.ref h0, .int a1, .int a2]) (n := 6) (Nat.le_of_ble_eq_true rfl)
  rw [lg_entry_eq]
  generalize (lg_sl ([.ref h0, .int a1, .int a2]) ++ List.replicate (6 - (lg_sl ([.ref h0, .int a1, .int a2])).length) Slot.unset).toArray = ls at hl ⊢
  have hl : lv_has ls 6 [(0, .ref h0), (1, .int a1), (2, .int a2)] := hl
  have hrun := hm
  rw [fX10_notSo] at hrun
  refine lv_iconst (v := (0 : Int32)) hx hb dX10_notSo_0 (by decide) ?_
  refine lv_istore_n (lv' := [(3, .int (0 : Int32)), (0, .ref h0), (1, .int a1), (2, .int a2)]) hx hb dX10_notSo_1 rfl hl (by decide) rfl (fun ls hl => ?_)
  refine lv_iconst (v := (0 : Int32)) hx hb dX10_notSo_2 (by decide) ?_
  refine lv_istore (lv' := [(4, .int (0 : Int32)), (3, .int (0 : Int32)), (0, .ref h0), (1, .int a1), (2, .int a2)]) hx hb dX10_notSo_3 hl (by decide) rfl (fun ls hl => ?_)
  obtain ⟨k87, ek87, hrun⟩ := jn_e hrun
  have J87 : ∀ (x3_87 : Int32) (ls : Array Slot), k87 x3_87 = some ru → lv_has ls 6 [(3, .int x3_87)] → W p l e (headSpec wsX10_notSo ({ frames := 0, cells := 0, slots := 0, locals := 0 } : Room)).room s m ([.ref h0, .int a1, .int a2] : List Value).toArray below meth c s.heap [] 0 0 (MQ below (vp_Si (fun r => r = ru)) ([.ref h0, .int a1, .int a2] : List Value).toArray s 0 0 (fun _ => False)) (F0 m 87 ls []) := by
    intro x3_87 ls hrun hl
    rw [ek87] at hrun
    refine lv_iload_n hx hb dX10_notSo_87 rfl (lv_at hl 0 rfl) ?_
    exact W.iret hx hb hr (fun t ht _ => ⟨_, rfl, Option.some.inj hrun, ht⟩) (fun _ h => by cases h) dX10_notSo_88
  have L5 : ∀ (n : Nat) (x3_5 : Int32) (x4_5 : Int32) (ls : Array Slot), fX10_notSo_p5 N a1 a2 v0_callMany c1 k87 n x3_5 x4_5 = some ru → lv_has ls 6 [(0, .ref h0), (1, .int a1), (2, .int a2), (3, .int x3_5), (4, .int x4_5)] → W p l e (headSpec wsX10_notSo ({ frames := 0, cells := 0, slots := 0, locals := 0 } : Room)).room s m ([.ref h0, .int a1, .int a2] : List Value).toArray below meth c s.heap [] 0 0 (MQ below (vp_Si (fun r => r = ru)) ([.ref h0, .int a1, .int a2] : List Value).toArray s 0 0 (fun _ => False)) (F0 m 5 ls []) := by
    intro n
    induction n with
    | zero => intro x3_5 x4_5 ls hrun; rw [fX10_notSo_p5] at hrun; exact on_e hrun
    | succ n ih =>
      intro x3_5 x4_5 ls hrun hl
      rw [fX10_notSo_p5] at hrun
      refine lv_iload hx hb dX10_notSo_5 (lv_at hl 4 rfl) ?_
      refine lv_aload_n hx hb dX10_notSo_7 rfl (lv_at hl 0 rfl) ?_
      refine va_get (D := (dC, dI)) (ci := 10) (v := .int v0_callMany) (C := RX10) (T := TX10) (N := 28) hx hb hts hinX10 hown hK hP 0 rfl rfl 10 (by decide) (hts (.fieldLink RX10 218 "WasItOutModel" "callMany" "I") (by decide +kernel)) (fun _ h9 => h9) rfl dX10_notSo_8 ?_
      refine lv_icmp_ge (tgt := 87) hx hb dX10_notSo_11 (by decide) (fun cc => ?_) (fun cc => ?_)
      · have hrun := oi_t hrun cc
        exact J87 x3_5 ls hrun (lv_sub hl [3] rfl)
      · have hrun := oi_f hrun cc
        refine lv_aload_n hx hb dX10_notSo_14 rfl (lv_at hl 0 rfl) ?_
        refine va_get (D := (dC, dI)) (ci := 10) (v := .ref h1) (C := RX10) (T := TX10) (N := 28) hx hb hts hinX10 hown hK hP 0 rfl rfl 11 (by decide) (hts (.fieldLink RX10 34 "WasItOutModel" "calls" "[I") (by decide +kernel)) (fun _ h9 => h9) rfl dX10_notSo_15 ?_
        refine lv_iconst (v := (3 : Int32)) hx hb dX10_notSo_18 (by decide) ?_
        refine lv_iload hx hb dX10_notSo_19 (lv_at hl 4 rfl) ?_
        refine lv_imul hx hb dX10_notSo_21 ?_
        refine lv_iconst (v := (2 : Int32)) hx hb dX10_notSo_22 (by decide) ?_
        refine lv_iadd hx hb dX10_notSo_23 ?_
        obtain ⟨hi, hrun⟩ := oi_x hrun
        refine va_iald hx hb hK hP 1 0 rfl rfl hi dX10_notSo_24 ?_
        refine lv_aload_n hx hb dX10_notSo_25 rfl (lv_at hl 0 rfl) ?_
        refine va_get (D := (dC, dI)) (ci := 10) (v := .ref h1) (C := RX10) (T := TX10) (N := 28) hx hb hts hinX10 hown hK hP 0 rfl rfl 11 (by decide) (hts (.fieldLink RX10 34 "WasItOutModel" "calls" "[I") (by decide +kernel)) (fun _ h9 => h9) rfl dX10_notSo_26 ?_
        refine lv_iconst (v := (3 : Int32)) hx hb dX10_notSo_29 (by decide) ?_
        refine lv_iload hx hb dX10_notSo_30 (lv_at hl 4 rfl) ?_
        refine lv_imul hx hb dX10_notSo_32 ?_
        obtain ⟨hi, hrun⟩ := oi_x hrun
        refine va_iald hx hb hK hP 1 0 rfl rfl hi dX10_notSo_33 ?_
        refine lv_iload_n hx hb dX10_notSo_34 rfl (lv_at hl 2 rfl) ?_
        obtain ⟨k43, ek43, hrun⟩ := jn_e hrun
        have J43 : ∀ (z0_43 : Int32) (ls : Array Slot), k43 z0_43 = some ru → lv_has ls 6 [(0, .ref h0), (1, .int a1), (2, .int a2), (3, .int x3_5), (4, .int x4_5)] → W p l e (headSpec wsX10_notSo ({ frames := 0, cells := 0, slots := 0, locals := 0 } : Room)).room s m ([.ref h0, .int a1, .int a2] : List Value).toArray below meth c s.heap [] 0 0 (MQ below (vp_Si (fun r => r = ru)) ([.ref h0, .int a1, .int a2] : List Value).toArray s 0 0 (fun _ => False)) (F0 m 43 ls [.int z0_43, .int (c1 (((3 : Int32) * x4_5) + (2 : Int32)).toNatClampNeg)]) := by
          intro z0_43 ls hrun hl
          rw [ek43] at hrun
          obtain ⟨k51, ek51, hrun⟩ := jn_e hrun
          have J51 : ∀ (z0_51 : Int32) (ls : Array Slot), k51 z0_51 = some ru → lv_has ls 6 [(0, .ref h0), (1, .int a1), (2, .int a2), (3, .int x3_5), (4, .int x4_5)] → W p l e (headSpec wsX10_notSo ({ frames := 0, cells := 0, slots := 0, locals := 0 } : Room)).room s m ([.ref h0, .int a1, .int a2] : List Value).toArray below meth c s.heap [] 0 0 (MQ below (vp_Si (fun r => r = ru)) ([.ref h0, .int a1, .int a2] : List Value).toArray s 0 0 (fun _ => False)) (F0 m 51 ls [.int z0_51]) := by
            intro z0_51 ls hrun hl
            rw [ek51] at hrun
            refine lv_istore (lv' := [(5, .int z0_51), (0, .ref h0), (1, .int a1), (2, .int a2), (3, .int x3_5), (4, .int x4_5)]) hx hb dX10_notSo_51 hl (by decide) rfl (fun ls hl => ?_)
            refine lv_iload_n hx hb dX10_notSo_53 rfl (lv_at hl 4 rfl) ?_
            refine lv_aload_n hx hb dX10_notSo_54 rfl (lv_at hl 1 rfl) ?_
            refine va_get (D := (dC, dI)) (ci := 10) (v := .ref h1) (C := RX10) (T := TX10) (N := 28) hx hb hts hinX10 hown hK hP 0 rfl rfl 11 (by decide) (hts (.fieldLink RX10 34 "WasItOutModel" "calls" "[I") (by decide +kernel)) (fun _ h9 => h9) rfl dX10_notSo_55 ?_
            refine lv_iconst (v := (3 : Int32)) hx hb dX10_notSo_58 (by decide) ?_
            refine lv_iload hx hb dX10_notSo_59 (lv_at hl 5 rfl) ?_
            refine lv_imul hx hb dX10_notSo_61 ?_
            refine lv_iconst (v := (1 : Int32)) hx hb dX10_notSo_62 (by decide) ?_
            refine lv_iadd hx hb dX10_notSo_63 ?_
            obtain ⟨hi, hrun⟩ := oi_x hrun
            refine va_iald hx hb hK hP 1 0 rfl rfl hi dX10_notSo_64 ?_
            refine lv_iload_n hx hb dX10_notSo_65 rfl (lv_at hl 2 rfl) ?_
            obtain ⟨k79, ek79, hrun⟩ := jn_e hrun
            have J79 : ∀ (z0_79 : Int32) (ls : Array Slot), k79 z0_79 = some ru → lv_has ls 6 [(0, .ref h0), (1, .int a1), (2, .int a2), (4, .int x4_5)] → W p l e (headSpec wsX10_notSo ({ frames := 0, cells := 0, slots := 0, locals := 0 } : Room)).room s m ([.ref h0, .int a1, .int a2] : List Value).toArray below meth c s.heap [] 0 0 (MQ below (vp_Si (fun r => r = ru)) ([.ref h0, .int a1, .int a2] : List Value).toArray s 0 0 (fun _ => False)) (F0 m 79 ls [.int z0_79, .int x3_5]) := by
              intro z0_79 ls hrun hl
              rw [ek79] at hrun
              refine lv_iadd hx hb dX10_notSo_79 ?_
              refine lv_istore_n (lv' := [(3, .int (x3_5 + z0_79)), (0, .ref h0), (1, .int a1), (2, .int a2), (4, .int x4_5)]) hx hb dX10_notSo_80 rfl hl (by decide) rfl (fun ls hl => ?_)
              refine lv_iinc (v := (x4_5 + (1 : Int32))) (lv' := [(4, .int (x4_5 + (1 : Int32))), (3, .int (x3_5 + z0_79)), (0, .ref h0), (1, .int a1), (2, .int a2)]) hx hb dX10_notSo_81 hl (k := 4) rfl rfl (by decide) rfl (fun ls hl => ?_)
              refine lv_goto (tgt := 5) hx hb dX10_notSo_84 (by decide) ?_
              exact ih ((x3_5 + z0_79)) ((x4_5 + (1 : Int32))) ls hrun (lv_sub hl [2, 3, 4, 1, 0] rfl)
            obtain ⟨k78, ek78, hrun⟩ := jn_e hrun
            have J78 : ∀ (u_78 : Unit) (ls : Array Slot), k78 u_78 = some ru → lv_has ls 6 [(0, .ref h0), (1, .int a1), (2, .int a2), (4, .int x4_5)] → W p l e (headSpec wsX10_notSo ({ frames := 0, cells := 0, slots := 0, locals := 0 } : Room)).room s m ([.ref h0, .int a1, .int a2] : List Value).toArray below meth c s.heap [] 0 0 (MQ below (vp_Si (fun r => r = ru)) ([.ref h0, .int a1, .int a2] : List Value).toArray s 0 0 (fun _ => False)) (F0 m 78 ls [.int x3_5]) := by
              intro u_78 ls hrun hl
              rw [ek78] at hrun
              refine lv_iconst (v := (0 : Int32)) hx hb dX10_notSo_78 (by decide) ?_
              exact J79 ((0 : Int32)) ls hrun hl
            refine lv_icmp_ne (tgt := 78) hx hb dX10_notSo_66 (by decide) (fun cc => ?_) (fun cc => ?_)
            · have hrun := oi_t hrun cc
              exact J78 (()) ls hrun (lv_sub hl [1, 2, 3, 5] rfl)
            · have hrun := oi_n hrun cc
              refine lv_iload hx hb dX10_notSo_69 (lv_at hl 0 rfl) ?_
              refine lv_if_ne (tgt := 78) hx hb dX10_notSo_71 (by decide) (fun cc => ?_) (fun cc => ?_)
              · have hrun := oi_t hrun cc
                exact J78 (()) ls hrun (lv_sub hl [1, 2, 3, 5] rfl)
              · have hrun := oi_n hrun cc
                refine lv_iconst (v := (1 : Int32)) hx hb dX10_notSo_74 (by decide) ?_
                refine lv_goto (tgt := 79) hx hb dX10_notSo_75 (by decide) ?_
                exact J79 ((1 : Int32)) ls hrun (lv_sub hl [1, 2, 3, 5] rfl)
          refine lv_icmp_ne (tgt := 50) hx hb dX10_notSo_43 (by decide) (fun cc => ?_) (fun cc => ?_)
          · have hrun := oi_t hrun cc
            refine lv_iconst (v := (0 : Int32)) hx hb dX10_notSo_50 (by decide) ?_
            exact J51 ((0 : Int32)) ls hrun hl
          · have hrun := oi_n hrun cc
            refine lv_iconst (v := (1 : Int32)) hx hb dX10_notSo_46 (by decide) ?_
            refine lv_goto (tgt := 51) hx hb dX10_notSo_47 (by decide) ?_
            exact J51 ((1 : Int32)) ls hrun hl
        refine lv_icmp_le (tgt := 42) hx hb dX10_notSo_35 (by decide) (fun cc => ?_) (fun cc => ?_)
        · have hrun := oi_t hrun cc
          refine lv_iconst (v := (0 : Int32)) hx hb dX10_notSo_42 (by decide) ?_
          exact J43 ((0 : Int32)) ls hrun hl
        · have hrun := oi_f hrun cc
          refine lv_iconst (v := (1 : Int32)) hx hb dX10_notSo_38 (by decide) ?_
          refine lv_goto (tgt := 43) hx hb dX10_notSo_39 (by decide) ?_
          exact J43 ((1 : Int32)) ls hrun hl
  exact L5 N ((0 : Int32)) ((0 : Int32)) ls hrun (lv_sub hl [2, 3, 4, 1, 0] rfl)
set_option maxHeartbeats 4000000 in
set_option maxRecDepth 100000 in
theorem tX10_lean (l : Launch) (dC : Nat → ClassId) (dI : Nat → Nat → Nat) (h0 h1 : Nat) (k1 : ClassId) (g0_length g0_text g0_itemMany g0_items g0_balls g0_outs g0_sightMany g0_sights g0_keptMany g0_cameras g0_shares g0_rights g0_caseMany g0_cases g0_place g0_numbers g0_xs g0_ys g0_zs g0_us g0_vs g0_ws g0_touchTick g0_touchHalf g0_powers g0_worths : Value) (N : Nat) (a1 : Int32) (a2 : Int32) (v0_callMany : Int32) (c1 : Nat → Int32) (ru : Int32) (hm : fX10_lean N a1 a2 v0_callMany c1 = some ru) : Met l yX10_lean wsX10_lean ({ frames := 1, cells := 0, slots := 0, locals := 25 } : Room) (va_Pc [.ref h0, .int a1, .int a2] (fun U => va_P (dC, dI) vwCl [(h0, .inr (10, [g0_length, g0_text, g0_itemMany, g0_items, g0_balls, g0_outs, g0_sightMany, g0_sights, g0_keptMany, g0_cameras, .int v0_callMany, .ref h1, g0_shares, g0_rights, g0_caseMany, g0_cases, g0_place, g0_numbers, g0_xs, g0_ys, g0_zs, g0_us, g0_vs, g0_ws, g0_touchTick, g0_touchHalf, g0_powers, g0_worths])), (h1, .inl (k1, 180, .inl c1))] U.heap ∧ va_K (dC, dI) vwCl [(k1, .int)] U)) (vp_Si (fun r => r = ru)) 0 0 (fun _ => False) := by
  refine Met.ofW (cc := cX10_lean) (maxL := 6) (ret := (some .int)) (by decide) rfl ?_
  intro p e s m args below meth c s₁ B hml hv
  obtain ⟨rfl, hP, hK⟩ := hv
  have hx := B.exec
  have hb := B.bytes
  have hr := B.returns
  have hts := atoms_spec (ws := wsX10_lean) B.pre
  have hown : s.vm.findClass RX10 = some m.cls := findClass_of_methodNamed B.named
  have hlocks := B.notSynchronized
  have hl := lv_entry ([.ref h0, .int a1, .int a2]) (n := 6) (Nat.le_of_ble_eq_true rfl)
  rw [lg_entry_eq]
  generalize (lg_sl ([.ref h0, .int a1, .int a2]) ++ List.replicate (6 - (lg_sl ([.ref h0, .int a1, .int a2])).length) Slot.unset).toArray = ls at hl ⊢
  have hl : lv_has ls 6 [(0, .ref h0), (1, .int a1), (2, .int a2)] := hl
  have hrun := hm
  rw [fX10_lean] at hrun
  refine lv_iload_n hx hb dX10_lean_0 rfl (lv_at hl 1 rfl) ?_
  refine lv_i2l (v := a1.toInt64) hx hb dX10_lean_1 rfl ?_
  refine lv_lconst (v := (0 : Int64)) hx hb dX10_lean_2 (by decide) ?_
  refine lv_lconst (v := (1 : Int64)) hx hb dX10_lean_3 (by decide) ?_
  obtain ⟨q4, hc4, hrun⟩ := ob_e hrun
  refine wz_csz (va_runS (As := [.long a1.toInt64, .long (0 : Int64), .long (1 : Int64)]) (rest := []) ⟨hx, hb, hml, hown, hts⟩ (tX10_in l dC dI N a1.toInt64 ((0 : Int64)) ((1 : Int64)) q4 hc4) (va_cwS 3 hts gX10_lean_X10_in rfl rfl rfl (by decide +kernel) ⟨Nat.le_of_ble_eq_true rfl, Nat.le_of_ble_eq_true rfl⟩) (wz_pSr (hP.sub (ws' := []) [] rfl) (hK.sub (tys' := []) [] rfl)) rfl rfl hl.1 rfl (lv_room (Nat.le_of_ble_eq_true rfl)) dX10_lean_4 ⟨Nat.zero_le _, Nat.zero_le _⟩) (fun hz4 => ?_)
  refine lv_if_eq (tgt := 20) hx hb dX10_lean_7 (by decide) (fun cc => ?_) (fun cc => ?_)
  · have hrun := oi_t hrun cc
    refine lv_bipush (v := (-100 : Int32)) hx hb dX10_lean_20 (by decide) ?_
    exact W.iret hx hb hr (fun t ht _ => ⟨_, rfl, Option.some.inj hrun, ht⟩) (fun _ h => by cases h) dX10_lean_22
  · have hrun := oi_f hrun cc
    refine lv_iload_n hx hb dX10_lean_10 rfl (lv_at hl 2 rfl) ?_
    refine lv_i2l (v := a2.toInt64) hx hb dX10_lean_11 rfl ?_
    refine lv_lconst (v := (0 : Int64)) hx hb dX10_lean_12 (by decide) ?_
    refine lv_lconst (v := (1 : Int64)) hx hb dX10_lean_13 (by decide) ?_
    obtain ⟨q14, hc14, hrun⟩ := ob_e hrun
    refine wz_csz (va_runS (As := [.long a2.toInt64, .long (0 : Int64), .long (1 : Int64)]) (rest := []) ⟨hx, hb, hml, hown, hts⟩ (tX10_in l dC dI N a2.toInt64 ((0 : Int64)) ((1 : Int64)) q14 hc14) (va_cwS 3 hts gX10_lean_X10_in rfl rfl rfl (by decide +kernel) ⟨Nat.le_of_ble_eq_true rfl, Nat.le_of_ble_eq_true rfl⟩) (wz_pSr (hP.sub (ws' := []) [] rfl) (hK.sub (tys' := []) [] rfl)) rfl rfl hl.1 rfl (lv_room (Nat.le_of_ble_eq_true rfl)) dX10_lean_14 ⟨Nat.zero_le _, Nat.zero_le _⟩) (fun hz14 => ?_)
    refine lv_if_ne (tgt := 23) hx hb dX10_lean_17 (by decide) (fun cc => ?_) (fun cc => ?_)
    · have hrun := oi_t hrun cc
      refine lv_iconst (v := (0 : Int32)) hx hb dX10_lean_23 (by decide) ?_
      refine lv_istore_n (lv' := [(3, .int (0 : Int32)), (0, .ref h0), (1, .int a1), (2, .int a2)]) hx hb dX10_lean_24 rfl hl (by decide) rfl (fun ls hl => ?_)
      refine lv_bipush (v := (-20 : Int32)) hx hb dX10_lean_25 (by decide) ?_
      refine lv_istore (lv' := [(4, .int (-20 : Int32)), (3, .int (0 : Int32)), (0, .ref h0), (1, .int a1), (2, .int a2)]) hx hb dX10_lean_27 hl (by decide) rfl (fun ls hl => ?_)
      obtain ⟨k106, ek106, hrun⟩ := jn_e hrun
      have J106 : ∀ (x3_106 : Int32) (ls : Array Slot), k106 x3_106 = some ru → lv_has ls 6 [(0, .ref h0), (1, .int a1), (2, .int a2), (3, .int x3_106)] → W p l e (headSpec wsX10_lean ({ frames := 1, cells := 0, slots := 0, locals := 25 } : Room)).room s m ([.ref h0, .int a1, .int a2] : List Value).toArray below meth c s.heap [] 0 0 (MQ below (vp_Si (fun r => r = ru)) ([.ref h0, .int a1, .int a2] : List Value).toArray s 0 0 (fun _ => False)) (F0 m 106 ls []) := by
        intro x3_106 ls hrun hl
        rw [ek106] at hrun
        refine lv_iload_n hx hb dX10_lean_106 rfl (lv_at hl 2 rfl) ?_
        refine lv_if_ne (tgt := 114) hx hb dX10_lean_107 (by decide) (fun cc => ?_) (fun cc => ?_)
        · have hrun := oi_t hrun cc
          refine lv_aload_n hx hb dX10_lean_114 rfl (lv_at hl 0 rfl) ?_
          refine lv_iload_n hx hb dX10_lean_115 rfl (lv_at hl 1 rfl) ?_
          refine lv_iload_n hx hb dX10_lean_116 rfl (lv_at hl 3 rfl) ?_
          obtain ⟨q117, hc117, hrun⟩ := ob_e hrun
          refine wz_csi (va_runV (As := [.int a1, .int x3_106]) (rest := []) ⟨hx, hb, hml, hown, hts⟩ (tX10_notSo l dC dI h0 h1 k1 (g0_length) (g0_text) (g0_itemMany) (g0_items) (g0_balls) (g0_outs) (g0_sightMany) (g0_sights) (g0_keptMany) (g0_cameras) (g0_shares) (g0_rights) (g0_caseMany) (g0_cases) (g0_place) (g0_numbers) (g0_xs) (g0_ys) (g0_zs) (g0_us) (g0_vs) (g0_ws) (g0_touchTick) (g0_touchHalf) (g0_powers) (g0_worths) N a1 x3_106 v0_callMany c1 q117 hc117) (cwV 2 hts gX10_lean_X10_notSo rfl rfl rfl (by decide +kernel) ⟨Nat.le_of_ble_eq_true rfl, Nat.le_of_ble_eq_true rfl⟩) (wz_pVr (hP.sub (ws' := [(h0, .inr (10, [g0_length, g0_text, g0_itemMany, g0_items, g0_balls, g0_outs, g0_sightMany, g0_sights, g0_keptMany, g0_cameras, .int v0_callMany, .ref h1, g0_shares, g0_rights, g0_caseMany, g0_cases, g0_place, g0_numbers, g0_xs, g0_ys, g0_zs, g0_us, g0_vs, g0_ws, g0_touchTick, g0_touchHalf, g0_powers, g0_worths])), (h1, .inl (k1, 180, .inl c1))]) [0, 1] rfl) (hK.sub (tys' := [(k1, .int)]) [0] rfl) (va_recv hK hP (ci := 10) (q0 := 0) rfl rfl)) rfl rfl hl.1 rfl (lv_room (Nat.le_of_ble_eq_true rfl)) dX10_lean_117 ⟨Nat.zero_le _, Nat.zero_le _⟩) ?_
          exact W.iret hx hb hr (fun t ht _ => ⟨_, rfl, Option.some.inj hrun, ht⟩) (fun _ h => by cases h) dX10_lean_120
        · have hrun := oi_n hrun cc
          refine lv_iload_n hx hb dX10_lean_110 rfl (lv_at hl 3 rfl) ?_
          refine lv_goto (tgt := 120) hx hb dX10_lean_111 (by decide) ?_
          exact W.iret hx hb hr (fun t ht _ => ⟨_, rfl, Option.some.inj hrun, ht⟩) (fun _ h => by cases h) dX10_lean_120
      have L29 : ∀ (n : Nat) (x3_29 : Int32) (x4_29 : Int32) (ls : Array Slot), fX10_lean_p29 N a1 a2 v0_callMany c1 k106 n x3_29 x4_29 = some ru → lv_has ls 6 [(0, .ref h0), (1, .int a1), (2, .int a2), (3, .int x3_29), (4, .int x4_29)] → W p l e (headSpec wsX10_lean ({ frames := 1, cells := 0, slots := 0, locals := 25 } : Room)).room s m ([.ref h0, .int a1, .int a2] : List Value).toArray below meth c s.heap [] 0 0 (MQ below (vp_Si (fun r => r = ru)) ([.ref h0, .int a1, .int a2] : List Value).toArray s 0 0 (fun _ => False)) (F0 m 29 ls []) := by
        intro n
        induction n with
        | zero => intro x3_29 x4_29 ls hrun; rw [fX10_lean_p29] at hrun; exact on_e hrun
        | succ n ih =>
          intro x3_29 x4_29 ls hrun hl
          rw [fX10_lean_p29] at hrun
          refine lv_iload hx hb dX10_lean_29 (lv_at hl 4 rfl) ?_
          refine lv_bipush (v := (20 : Int32)) hx hb dX10_lean_31 (by decide) ?_
          refine lv_icmp_gt (tgt := 106) hx hb dX10_lean_33 (by decide) (fun cc => ?_) (fun cc => ?_)
          · have hrun := oi_t hrun cc
            exact J106 x3_29 ls hrun (lv_sub hl [0, 1, 2, 3] rfl)
          · have hrun := oi_f hrun cc
            refine lv_aload_n hx hb dX10_lean_36 rfl (lv_at hl 0 rfl) ?_
            refine lv_iload_n hx hb dX10_lean_37 rfl (lv_at hl 1 rfl) ?_
            refine lv_iload_n hx hb dX10_lean_38 rfl (lv_at hl 3 rfl) ?_
            obtain ⟨q39, hc39, hrun⟩ := ob_e hrun
            refine wz_csi (va_runV (As := [.int a1, .int x3_29]) (rest := []) ⟨hx, hb, hml, hown, hts⟩ (tX10_notSo l dC dI h0 h1 k1 (g0_length) (g0_text) (g0_itemMany) (g0_items) (g0_balls) (g0_outs) (g0_sightMany) (g0_sights) (g0_keptMany) (g0_cameras) (g0_shares) (g0_rights) (g0_caseMany) (g0_cases) (g0_place) (g0_numbers) (g0_xs) (g0_ys) (g0_zs) (g0_us) (g0_vs) (g0_ws) (g0_touchTick) (g0_touchHalf) (g0_powers) (g0_worths) N a1 x3_29 v0_callMany c1 q39 hc39) (cwV 2 hts gX10_lean_X10_notSo rfl rfl rfl (by decide +kernel) ⟨Nat.le_of_ble_eq_true rfl, Nat.le_of_ble_eq_true rfl⟩) (wz_pVr (hP.sub (ws' := [(h0, .inr (10, [g0_length, g0_text, g0_itemMany, g0_items, g0_balls, g0_outs, g0_sightMany, g0_sights, g0_keptMany, g0_cameras, .int v0_callMany, .ref h1, g0_shares, g0_rights, g0_caseMany, g0_cases, g0_place, g0_numbers, g0_xs, g0_ys, g0_zs, g0_us, g0_vs, g0_ws, g0_touchTick, g0_touchHalf, g0_powers, g0_worths])), (h1, .inl (k1, 180, .inl c1))]) [0, 1] rfl) (hK.sub (tys' := [(k1, .int)]) [0] rfl) (va_recv hK hP (ci := 10) (q0 := 0) rfl rfl)) rfl rfl hl.1 rfl (lv_room (Nat.le_of_ble_eq_true rfl)) dX10_lean_39 ⟨Nat.zero_le _, Nat.zero_le _⟩) ?_
            refine lv_aload_n hx hb dX10_lean_42 rfl (lv_at hl 0 rfl) ?_
            refine lv_iload_n hx hb dX10_lean_43 rfl (lv_at hl 1 rfl) ?_
            refine lv_iload hx hb dX10_lean_44 (lv_at hl 4 rfl) ?_
            obtain ⟨q46, hc46, hrun⟩ := ob_e hrun
            refine wz_csi (va_runV (As := [.int a1, .int x4_29]) (rest := [.int q39]) ⟨hx, hb, hml, hown, hts⟩ (tX10_notSo l dC dI h0 h1 k1 (g0_length) (g0_text) (g0_itemMany) (g0_items) (g0_balls) (g0_outs) (g0_sightMany) (g0_sights) (g0_keptMany) (g0_cameras) (g0_shares) (g0_rights) (g0_caseMany) (g0_cases) (g0_place) (g0_numbers) (g0_xs) (g0_ys) (g0_zs) (g0_us) (g0_vs) (g0_ws) (g0_touchTick) (g0_touchHalf) (g0_powers) (g0_worths) N a1 x4_29 v0_callMany c1 q46 hc46) (cwV 2 hts gX10_lean_X10_notSo rfl rfl rfl (by decide +kernel) ⟨Nat.le_of_ble_eq_true rfl, Nat.le_of_ble_eq_true rfl⟩) (wz_pVr (hP.sub (ws' := [(h0, .inr (10, [g0_length, g0_text, g0_itemMany, g0_items, g0_balls, g0_outs, g0_sightMany, g0_sights, g0_keptMany, g0_cameras, .int v0_callMany, .ref h1, g0_shares, g0_rights, g0_caseMany, g0_cases, g0_place, g0_numbers, g0_xs, g0_ys, g0_zs, g0_us, g0_vs, g0_ws, g0_touchTick, g0_touchHalf, g0_powers, g0_worths])), (h1, .inl (k1, 180, .inl c1))]) [0, 1] rfl) (hK.sub (tys' := [(k1, .int)]) [0] rfl) (va_recv hK hP (ci := 10) (q0 := 0) rfl rfl)) rfl rfl hl.1 rfl (lv_room (Nat.le_of_ble_eq_true rfl)) dX10_lean_46 ⟨Nat.zero_le _, Nat.zero_le _⟩) ?_
            refine lv_isub hx hb dX10_lean_49 ?_
            refine lv_istore (lv' := [(5, .int (q39 - q46)), (0, .ref h0), (1, .int a1), (2, .int a2), (3, .int x3_29), (4, .int x4_29)]) hx hb dX10_lean_50 hl (by decide) rfl (fun ls hl => ?_)
            refine lv_iload hx hb dX10_lean_52 (lv_at hl 0 rfl) ?_
            obtain ⟨k100, ek100, hrun⟩ := jn_e hrun
            have J100 : ∀ (x3_100 : Int32) (ls : Array Slot), k100 x3_100 = some ru → lv_has ls 6 [(0, .ref h0), (1, .int a1), (2, .int a2), (3, .int x3_100), (4, .int x4_29)] → W p l e (headSpec wsX10_lean ({ frames := 1, cells := 0, slots := 0, locals := 25 } : Room)).room s m ([.ref h0, .int a1, .int a2] : List Value).toArray below meth c s.heap [] 0 0 (MQ below (vp_Si (fun r => r = ru)) ([.ref h0, .int a1, .int a2] : List Value).toArray s 0 0 (fun _ => False)) (F0 m 100 ls []) := by
              intro x3_100 ls hrun hl
              rw [ek100] at hrun
              refine lv_iinc (v := (x4_29 + (1 : Int32))) (lv' := [(4, .int (x4_29 + (1 : Int32))), (0, .ref h0), (1, .int a1), (2, .int a2), (3, .int x3_100)]) hx hb dX10_lean_100 hl (k := 4) rfl rfl (by decide) rfl (fun ls hl => ?_)
              refine lv_goto (tgt := 29) hx hb dX10_lean_103 (by decide) ?_
              exact ih x3_100 ((x4_29 + (1 : Int32))) ls hrun (lv_sub hl [1, 2, 3, 4, 0] rfl)
            obtain ⟨k97, ek97, hrun⟩ := jn_e hrun
            have J97 : ∀ (u_97 : Unit) (ls : Array Slot), k97 u_97 = some ru → lv_has ls 6 [(0, .ref h0), (1, .int a1), (2, .int a2), (4, .int x4_29)] → W p l e (headSpec wsX10_lean ({ frames := 1, cells := 0, slots := 0, locals := 25 } : Room)).room s m ([.ref h0, .int a1, .int a2] : List Value).toArray below meth c s.heap [] 0 0 (MQ below (vp_Si (fun r => r = ru)) ([.ref h0, .int a1, .int a2] : List Value).toArray s 0 0 (fun _ => False)) (F0 m 97 ls []) := by
              intro u_97 ls hrun hl
              rw [ek97] at hrun
              refine lv_iload hx hb dX10_lean_97 (lv_at hl 3 rfl) ?_
              refine lv_istore_n (lv' := [(3, .int x4_29), (0, .ref h0), (1, .int a1), (2, .int a2), (4, .int x4_29)]) hx hb dX10_lean_99 rfl hl (by decide) rfl (fun ls hl => ?_)
              exact J100 x4_29 ls hrun (lv_sub hl [1, 2, 3, 0, 4] rfl)
            refine lv_if_gt (tgt := 97) hx hb dX10_lean_54 (by decide) (fun cc => ?_) (fun cc => ?_)
            · have hrun := oi_t hrun cc
              exact J97 (()) ls hrun (lv_sub hl [1, 2, 3, 5] rfl)
            · have hrun := oi_f hrun cc
              refine lv_iload hx hb dX10_lean_57 (lv_at hl 0 rfl) ?_
              obtain ⟨k74, ek74, hrun⟩ := jn_e hrun
              have J74 : ∀ (u_74 : Unit) (ls : Array Slot), k74 u_74 = some ru → lv_has ls 6 [(0, .ref h0), (1, .int a1), (2, .int a2), (3, .int x3_29), (4, .int x4_29), (5, .int (q39 - q46))] → W p l e (headSpec wsX10_lean ({ frames := 1, cells := 0, slots := 0, locals := 25 } : Room)).room s m ([.ref h0, .int a1, .int a2] : List Value).toArray below meth c s.heap [] 0 0 (MQ below (vp_Si (fun r => r = ru)) ([.ref h0, .int a1, .int a2] : List Value).toArray s 0 0 (fun _ => False)) (F0 m 74 ls []) := by
                intro u_74 ls hrun hl
                rw [ek74] at hrun
                refine lv_iload hx hb dX10_lean_74 (lv_at hl 5 rfl) ?_
                refine lv_if_ne (tgt := 100) hx hb dX10_lean_76 (by decide) (fun cc => ?_) (fun cc => ?_)
                · have hrun := oi_t hrun cc
                  exact J100 x3_29 ls hrun (lv_sub hl [0, 1, 2, 3, 4] rfl)
                · have hrun := oi_n hrun cc
                  refine lv_iload hx hb dX10_lean_79 (lv_at hl 4 rfl) ?_
                  obtain ⟨q81, hc81, hrun⟩ := ob_e hrun
                  refine wz_csi (va_runS (As := [.int x4_29]) (rest := []) ⟨hx, hb, hml, hown, hts⟩ (tX10_off l dC dI N x4_29 q81 hc81) (va_cwS 1 hts gX10_lean_X10_off rfl rfl rfl (by decide +kernel) ⟨Nat.le_of_ble_eq_true rfl, Nat.le_of_ble_eq_true rfl⟩) (wz_pSr (hP.sub (ws' := []) [] rfl) (hK.sub (tys' := []) [] rfl)) rfl rfl hl.1 rfl (lv_room (Nat.le_of_ble_eq_true rfl)) dX10_lean_81 ⟨Nat.zero_le _, Nat.zero_le _⟩) ?_
                  refine lv_iload_n hx hb dX10_lean_84 rfl (lv_at hl 3 rfl) ?_
                  obtain ⟨q85, hc85, hrun⟩ := ob_e hrun
                  refine wz_csi (va_runS (As := [.int x3_29]) (rest := [.int q81]) ⟨hx, hb, hml, hown, hts⟩ (tX10_off l dC dI N x3_29 q85 hc85) (va_cwS 1 hts gX10_lean_X10_off rfl rfl rfl (by decide +kernel) ⟨Nat.le_of_ble_eq_true rfl, Nat.le_of_ble_eq_true rfl⟩) (wz_pSr (hP.sub (ws' := []) [] rfl) (hK.sub (tys' := []) [] rfl)) rfl rfl hl.1 rfl (lv_room (Nat.le_of_ble_eq_true rfl)) dX10_lean_85 ⟨Nat.zero_le _, Nat.zero_le _⟩) ?_
                  refine lv_icmp_ne (tgt := 100) hx hb dX10_lean_88 (by decide) (fun cc => ?_) (fun cc => ?_)
                  · have hrun := oi_t hrun cc
                    exact J100 x3_29 ls hrun (lv_sub hl [0, 1, 2, 3, 4] rfl)
                  · have hrun := oi_n hrun cc
                    refine lv_iload hx hb dX10_lean_91 (lv_at hl 4 rfl) ?_
                    refine lv_iload_n hx hb dX10_lean_93 rfl (lv_at hl 3 rfl) ?_
                    refine lv_icmp_ge (tgt := 100) hx hb dX10_lean_94 (by decide) (fun cc => ?_) (fun cc => ?_)
                    · have hrun := oi_t hrun cc
                      exact J100 x3_29 ls hrun (lv_sub hl [0, 1, 2, 3, 4] rfl)
                    · have hrun := oi_f hrun cc
                      exact J97 (()) ls hrun (lv_sub hl [0, 1, 2, 4] rfl)
              refine lv_if_ne (tgt := 74) hx hb dX10_lean_59 (by decide) (fun cc => ?_) (fun cc => ?_)
              · have hrun := oi_t hrun cc
                exact J74 (()) ls hrun (lv_sub hl [1, 2, 3, 4, 5, 0] rfl)
              · have hrun := oi_n hrun cc
                refine lv_iload hx hb dX10_lean_62 (lv_at hl 5 rfl) ?_
                obtain ⟨q64, hc64, hrun⟩ := ob_e hrun
                refine wz_csi (va_runS (As := [.int x4_29]) (rest := []) ⟨hx, hb, hml, hown, hts⟩ (tX10_off l dC dI N x4_29 q64 hc64) (va_cwS 1 hts gX10_lean_X10_off rfl rfl rfl (by decide +kernel) ⟨Nat.le_of_ble_eq_true rfl, Nat.le_of_ble_eq_true rfl⟩) (wz_pSr (hP.sub (ws' := []) [] rfl) (hK.sub (tys' := []) [] rfl)) rfl rfl hl.1 rfl (lv_room (Nat.le_of_ble_eq_true rfl)) dX10_lean_64 ⟨Nat.zero_le _, Nat.zero_le _⟩) ?_
                refine lv_iload_n hx hb dX10_lean_67 rfl (lv_at hl 4 rfl) ?_
                obtain ⟨q68, hc68, hrun⟩ := ob_e hrun
                refine wz_csi (va_runS (As := [.int x3_29]) (rest := [.int q64]) ⟨hx, hb, hml, hown, hts⟩ (tX10_off l dC dI N x3_29 q68 hc68) (va_cwS 1 hts gX10_lean_X10_off rfl rfl rfl (by decide +kernel) ⟨Nat.le_of_ble_eq_true rfl, Nat.le_of_ble_eq_true rfl⟩) (wz_pSr (hP.sub (ws' := []) [] rfl) (hK.sub (tys' := []) [] rfl)) rfl rfl hl.1 rfl (lv_room (Nat.le_of_ble_eq_true rfl)) dX10_lean_68 ⟨Nat.zero_le _, Nat.zero_le _⟩) ?_
                refine lv_icmp_lt (tgt := 97) hx hb dX10_lean_71 (by decide) (fun cc => ?_) (fun cc => ?_)
                · have hrun := oi_t hrun cc
                  exact J97 (()) ls hrun (lv_sub hl [1, 2, 3, 5] rfl)
                · have hrun := oi_f hrun cc
                  exact J74 (()) ls hrun (lv_sub hl [1, 2, 3, 4, 5, 0] rfl)
      exact L29 N ((0 : Int32)) ((-20 : Int32)) ls hrun (lv_sub hl [2, 3, 4, 1, 0] rfl)
    · have hrun := oi_n hrun cc
      refine lv_bipush (v := (-100 : Int32)) hx hb dX10_lean_20 (by decide) ?_
      exact W.iret hx hb hr (fun t ht _ => ⟨_, rfl, Option.some.inj hrun, ht⟩) (fun _ h => by cases h) dX10_lean_22
set_option maxHeartbeats 4000000 in
set_option maxRecDepth 100000 in
theorem tX10_sort (l : Launch) (dC : Nat → ClassId) (dI : Nat → Nat → Nat) (sz : Nat) (h0 h1 h2 : Nat) (k1 k2 : ClassId) (g0_length g0_text g0_itemMany g0_items g0_balls g0_outs g0_sightMany g0_sights g0_keptMany g0_cameras g0_callMany g0_calls g0_caseMany g0_cases g0_place g0_numbers g0_xs g0_ys g0_zs g0_us g0_vs g0_ws g0_touchTick g0_touchHalf g0_powers g0_worths : Value) (N : Nat) (a1 : Int32) (a2 : Int32) (a3 : Int32) (c1 : Nat → Int32) (c2 : Nat → Int32) (ru : Int32 × (Nat → Int32) × (Nat → Int32)) (hm : fX10_sort N a1 a2 a3 c1 c2 = some ru) : Met l yX10_sort wsX10_sort ({ frames := 1, cells := 0, slots := 0, locals := 25 } : Room) (va_Pc [.ref h0, .int a1, .int a2, .int a3] (fun U => U.heap.size = sz ∧ va_P (dC, dI) vwCl [(h0, .inr (10, [g0_length, g0_text, g0_itemMany, g0_items, g0_balls, g0_outs, g0_sightMany, g0_sights, g0_keptMany, g0_cameras, g0_callMany, g0_calls, .ref h2, .ref h1, g0_caseMany, g0_cases, g0_place, g0_numbers, g0_xs, g0_ys, g0_zs, g0_us, g0_vs, g0_ws, g0_touchTick, g0_touchHalf, g0_powers, g0_worths])), (h1, .inl (k1, 4, .inl c1)), (h2, .inl (k2, 4, .inl c2))] U.heap ∧ va_K (dC, dI) vwCl [(k1, .int), (k2, .int)] U ∧ va_D (fun _ => True) [(h0, .inr (10, [g0_length, g0_text, g0_itemMany, g0_items, g0_balls, g0_outs, g0_sightMany, g0_sights, g0_keptMany, g0_cameras, g0_callMany, g0_calls, .ref h2, .ref h1, g0_caseMany, g0_cases, g0_place, g0_numbers, g0_xs, g0_ys, g0_zs, g0_us, g0_vs, g0_ws, g0_touchTick, g0_touchHalf, g0_powers, g0_worths])), (h1, .inl (k1, 4, .inl c1)), (h2, .inl (k2, 4, .inl c2))])) (va_Qi (fun r (_ : Unit) => r = ru.1) (fun (_ : Unit) t => va_P (dC, dI) vwCl [(h0, .inr (10, [g0_length, g0_text, g0_itemMany, g0_items, g0_balls, g0_outs, g0_sightMany, g0_sights, g0_keptMany, g0_cameras, g0_callMany, g0_calls, .ref h2, .ref h1, g0_caseMany, g0_cases, g0_place, g0_numbers, g0_xs, g0_ys, g0_zs, g0_us, g0_vs, g0_ws, g0_touchTick, g0_touchHalf, g0_powers, g0_worths])), (h1, .inl (k1, 4, .inl ru.2.1)), (h2, .inl (k2, 4, .inl ru.2.2))] t.heap ∧ va_K (dC, dI) vwCl [(k1, .int), (k2, .int)] t ∧ va_D (va_A [(h0, .inr (10, [g0_length, g0_text, g0_itemMany, g0_items, g0_balls, g0_outs, g0_sightMany, g0_sights, g0_keptMany, g0_cameras, g0_callMany, g0_calls, .ref h2, .ref h1, g0_caseMany, g0_cases, g0_place, g0_numbers, g0_xs, g0_ys, g0_zs, g0_us, g0_vs, g0_ws, g0_touchTick, g0_touchHalf, g0_powers, g0_worths])), (h1, .inl (k1, 4, .inl c1)), (h2, .inl (k2, 4, .inl c2))] sz) [(h0, .inr (10, [g0_length, g0_text, g0_itemMany, g0_items, g0_balls, g0_outs, g0_sightMany, g0_sights, g0_keptMany, g0_cameras, g0_callMany, g0_calls, .ref h2, .ref h1, g0_caseMany, g0_cases, g0_place, g0_numbers, g0_xs, g0_ys, g0_zs, g0_us, g0_vs, g0_ws, g0_touchTick, g0_touchHalf, g0_powers, g0_worths])), (h1, .inl (k1, 4, .inl ru.2.1)), (h2, .inl (k2, 4, .inl ru.2.2))]) (va_A [(h0, .inr (10, [g0_length, g0_text, g0_itemMany, g0_items, g0_balls, g0_outs, g0_sightMany, g0_sights, g0_keptMany, g0_cameras, g0_callMany, g0_calls, .ref h2, .ref h1, g0_caseMany, g0_cases, g0_place, g0_numbers, g0_xs, g0_ys, g0_zs, g0_us, g0_vs, g0_ws, g0_touchTick, g0_touchHalf, g0_powers, g0_worths])), (h1, .inl (k1, 4, .inl c1)), (h2, .inl (k2, 4, .inl c2))] sz)) 0 0 (va_A [(h0, .inr (10, [g0_length, g0_text, g0_itemMany, g0_items, g0_balls, g0_outs, g0_sightMany, g0_sights, g0_keptMany, g0_cameras, g0_callMany, g0_calls, .ref h2, .ref h1, g0_caseMany, g0_cases, g0_place, g0_numbers, g0_xs, g0_ys, g0_zs, g0_us, g0_vs, g0_ws, g0_touchTick, g0_touchHalf, g0_powers, g0_worths])), (h1, .inl (k1, 4, .inl c1)), (h2, .inl (k2, 4, .inl c2))] sz) := by
  refine Met.ofW (cc := cX10_sort) (maxL := 5) (ret := (some .int)) (by decide) rfl ?_
  intro p e s m args below meth c s₁ B hml hv
  obtain ⟨rfl, hsz, hP, hK, hD0⟩ := hv
  have hx := B.exec
  have hb := B.bytes
  have hr := B.returns
  have hts := atoms_spec (ws := wsX10_sort) B.pre
  have hown : s.vm.findClass RX10 = some m.cls := findClass_of_methodNamed B.named
  have hlocks := B.notSynchronized
  subst hsz
  have hD := hD0.self (sz := s.heap.size)
  generalize hAe : va_A [(h0, .inr (10, [g0_length, g0_text, g0_itemMany, g0_items, g0_balls, g0_outs, g0_sightMany, g0_sights, g0_keptMany, g0_cameras, g0_callMany, g0_calls, .ref h2, .ref h1, g0_caseMany, g0_cases, g0_place, g0_numbers, g0_xs, g0_ys, g0_zs, g0_us, g0_vs, g0_ws, g0_touchTick, g0_touchHalf, g0_powers, g0_worths])), (h1, .inl (k1, 4, .inl c1)), (h2, .inl (k2, 4, .inl c2))] s.heap.size = A at hD ⊢
  have hA : ∀ q : Nat, s.heap.size ≤ q → A q := fun q h => by rw [← hAe]; exact Or.inr h
  have hS : va_S A s.heap s.heap [] := va_S.rf
  have hinX10 : ∀ w ∈ wsX100, w ∈ wsX10_sort := by decide +kernel
  have hl := lv_entry ([.ref h0, .int a1, .int a2, .int a3]) (n := 5) (Nat.le_of_ble_eq_true rfl)
  rw [lg_entry_eq]
  generalize (lg_sl ([.ref h0, .int a1, .int a2, .int a3]) ++ List.replicate (5 - (lg_sl ([.ref h0, .int a1, .int a2, .int a3])).length) Slot.unset).toArray = ls at hl ⊢
  have hl : lv_has ls 5 [(0, .ref h0), (1, .int a1), (2, .int a2), (3, .int a3)] := hl
  have hrun := hm
  rw [fX10_sort] at hrun
  obtain ⟨H, hHe⟩ : ∃ H, H = s.heap := ⟨_, rfl⟩
  obtain ⟨locs, hLe⟩ : ∃ locs : List Loc, locs = [] := ⟨_, rfl⟩
  rw [← hHe] at hP
  have hS : va_S A s.heap H locs := by rw [hHe, hLe]; exact hS
  have key : W p l e (headSpec wsX10_sort ({ frames := 1, cells := 0, slots := 0, locals := 25 } : Room)).room s m ([.ref h0, .int a1, .int a2, .int a3] : List Value).toArray below meth c H locs 0 0 (MQ below (va_Qi (fun r (_ : Unit) => r = ru.1) (fun (_ : Unit) t => va_P (dC, dI) vwCl [(h0, .inr (10, [g0_length, g0_text, g0_itemMany, g0_items, g0_balls, g0_outs, g0_sightMany, g0_sights, g0_keptMany, g0_cameras, g0_callMany, g0_calls, .ref h2, .ref h1, g0_caseMany, g0_cases, g0_place, g0_numbers, g0_xs, g0_ys, g0_zs, g0_us, g0_vs, g0_ws, g0_touchTick, g0_touchHalf, g0_powers, g0_worths])), (h1, .inl (k1, 4, .inl ru.2.1)), (h2, .inl (k2, 4, .inl ru.2.2))] t.heap ∧ va_K (dC, dI) vwCl [(k1, .int), (k2, .int)] t ∧ va_D A [(h0, .inr (10, [g0_length, g0_text, g0_itemMany, g0_items, g0_balls, g0_outs, g0_sightMany, g0_sights, g0_keptMany, g0_cameras, g0_callMany, g0_calls, .ref h2, .ref h1, g0_caseMany, g0_cases, g0_place, g0_numbers, g0_xs, g0_ys, g0_zs, g0_us, g0_vs, g0_ws, g0_touchTick, g0_touchHalf, g0_powers, g0_worths])), (h1, .inl (k1, 4, .inl ru.2.1)), (h2, .inl (k2, 4, .inl ru.2.2))]) A) ([.ref h0, .int a1, .int a2, .int a3] : List Value).toArray s 0 0 A) (F0 m 0 ls []) := by
    clear hHe hLe
    refine lv_iload_n hx hb dX10_sort_0 rfl (lv_at hl 1 rfl) ?_
    refine lv_i2l (v := a1.toInt64) hx hb dX10_sort_1 rfl ?_
    refine lv_lconst (v := (0 : Int64)) hx hb dX10_sort_2 (by decide) ?_
    refine lv_ldc2 (v := (3 : Int64)) hx hb hown (hts (.constantLong RX10 162 (3 : Int64)) (by decide +kernel)) dX10_sort_3 ?_
    obtain ⟨q6, hc6, hrun⟩ := ob_e hrun
    refine wz_csz (va_runS (As := [.long a1.toInt64, .long (0 : Int64), .long (3 : Int64)]) (rest := []) ⟨hx, hb, hml, hown, hts⟩ (tX10_in l dC dI N a1.toInt64 ((0 : Int64)) ((3 : Int64)) q6 hc6) (va_cwS 3 hts gX10_sort_X10_in rfl rfl rfl (by decide +kernel) ⟨Nat.le_of_ble_eq_true rfl, Nat.le_of_ble_eq_true rfl⟩) (wz_pSr (hP.sub (ws' := []) [] rfl) (hK.sub (tys' := []) [] rfl)) rfl rfl hl.1 rfl (lv_room (Nat.le_of_ble_eq_true rfl)) dX10_sort_6 ⟨Nat.zero_le _, Nat.zero_le _⟩) (fun hz6 => ?_)
    refine lv_if_eq (tgt := 34) hx hb dX10_sort_9 (by decide) (fun cc => ?_) (fun cc => ?_)
    · have hrun := oi_t hrun cc
      refine lv_iconst (v := (-1 : Int32)) hx hb dX10_sort_34 (by decide) ?_
      cases hrun
      have hP9 : va_P (dC, dI) vwCl [(h0, .inr (10, [g0_length, g0_text, g0_itemMany, g0_items, g0_balls, g0_outs, g0_sightMany, g0_sights, g0_keptMany, g0_cameras, g0_callMany, g0_calls, .ref h2, .ref h1, g0_caseMany, g0_cases, g0_place, g0_numbers, g0_xs, g0_ys, g0_zs, g0_us, g0_vs, g0_ws, g0_touchTick, g0_touchHalf, g0_powers, g0_worths])), (h1, .inl (k1, 4, .inl c1)), (h2, .inl (k2, 4, .inl c2))] H := hP
      have hD9 : va_D A [(h0, .inr (10, [g0_length, g0_text, g0_itemMany, g0_items, g0_balls, g0_outs, g0_sightMany, g0_sights, g0_keptMany, g0_cameras, g0_callMany, g0_calls, .ref h2, .ref h1, g0_caseMany, g0_cases, g0_place, g0_numbers, g0_xs, g0_ys, g0_zs, g0_us, g0_vs, g0_ws, g0_touchTick, g0_touchHalf, g0_powers, g0_worths])), (h1, .inl (k1, 4, .inl c1)), (h2, .inl (k2, 4, .inl c2))] := hD
      exact W.iret hx hb hr (fun t ht hW => ⟨⟨_, (), rfl, rfl, by rw [ht]; exact hP9, va_K.moved hW.alike hK, hD9⟩, hS.F ht⟩) hS.2.2 dX10_sort_35
    · have hrun := oi_f hrun cc
      refine lv_iload_n hx hb dX10_sort_12 rfl (lv_at hl 2 rfl) ?_
      refine lv_i2l (v := a2.toInt64) hx hb dX10_sort_13 rfl ?_
      refine lv_lconst (v := (0 : Int64)) hx hb dX10_sort_14 (by decide) ?_
      refine lv_lconst (v := (1 : Int64)) hx hb dX10_sort_15 (by decide) ?_
      obtain ⟨q16, hc16, hrun⟩ := ob_e hrun
      refine wz_csz (va_runS (As := [.long a2.toInt64, .long (0 : Int64), .long (1 : Int64)]) (rest := []) ⟨hx, hb, hml, hown, hts⟩ (tX10_in l dC dI N a2.toInt64 ((0 : Int64)) ((1 : Int64)) q16 hc16) (va_cwS 3 hts gX10_sort_X10_in rfl rfl rfl (by decide +kernel) ⟨Nat.le_of_ble_eq_true rfl, Nat.le_of_ble_eq_true rfl⟩) (wz_pSr (hP.sub (ws' := []) [] rfl) (hK.sub (tys' := []) [] rfl)) rfl rfl hl.1 rfl (lv_room (Nat.le_of_ble_eq_true rfl)) dX10_sort_16 ⟨Nat.zero_le _, Nat.zero_le _⟩) (fun hz16 => ?_)
      refine lv_if_eq (tgt := 34) hx hb dX10_sort_19 (by decide) (fun cc => ?_) (fun cc => ?_)
      · have hrun := oi_t hrun cc
        refine lv_iconst (v := (-1 : Int32)) hx hb dX10_sort_34 (by decide) ?_
        cases hrun
        have hP9 : va_P (dC, dI) vwCl [(h0, .inr (10, [g0_length, g0_text, g0_itemMany, g0_items, g0_balls, g0_outs, g0_sightMany, g0_sights, g0_keptMany, g0_cameras, g0_callMany, g0_calls, .ref h2, .ref h1, g0_caseMany, g0_cases, g0_place, g0_numbers, g0_xs, g0_ys, g0_zs, g0_us, g0_vs, g0_ws, g0_touchTick, g0_touchHalf, g0_powers, g0_worths])), (h1, .inl (k1, 4, .inl c1)), (h2, .inl (k2, 4, .inl c2))] H := hP
        have hD9 : va_D A [(h0, .inr (10, [g0_length, g0_text, g0_itemMany, g0_items, g0_balls, g0_outs, g0_sightMany, g0_sights, g0_keptMany, g0_cameras, g0_callMany, g0_calls, .ref h2, .ref h1, g0_caseMany, g0_cases, g0_place, g0_numbers, g0_xs, g0_ys, g0_zs, g0_us, g0_vs, g0_ws, g0_touchTick, g0_touchHalf, g0_powers, g0_worths])), (h1, .inl (k1, 4, .inl c1)), (h2, .inl (k2, 4, .inl c2))] := hD
        exact W.iret hx hb hr (fun t ht hW => ⟨⟨_, (), rfl, rfl, by rw [ht]; exact hP9, va_K.moved hW.alike hK, hD9⟩, hS.F ht⟩) hS.2.2 dX10_sort_35
      · have hrun := oi_f hrun cc
        refine lv_iload_n hx hb dX10_sort_22 rfl (lv_at hl 3 rfl) ?_
        refine lv_i2l (v := a3.toInt64) hx hb dX10_sort_23 rfl ?_
        refine lv_lconst (v := (0 : Int64)) hx hb dX10_sort_24 (by decide) ?_
        refine lv_ldc2 (v := (10 : Int64)) hx hb hown (hts (.constantLong RX10 168 (10 : Int64)) (by decide +kernel)) dX10_sort_25 ?_
        obtain ⟨q28, hc28, hrun⟩ := ob_e hrun
        refine wz_csz (va_runS (As := [.long a3.toInt64, .long (0 : Int64), .long (10 : Int64)]) (rest := []) ⟨hx, hb, hml, hown, hts⟩ (tX10_in l dC dI N a3.toInt64 ((0 : Int64)) ((10 : Int64)) q28 hc28) (va_cwS 3 hts gX10_sort_X10_in rfl rfl rfl (by decide +kernel) ⟨Nat.le_of_ble_eq_true rfl, Nat.le_of_ble_eq_true rfl⟩) (wz_pSr (hP.sub (ws' := []) [] rfl) (hK.sub (tys' := []) [] rfl)) rfl rfl hl.1 rfl (lv_room (Nat.le_of_ble_eq_true rfl)) dX10_sort_28 ⟨Nat.zero_le _, Nat.zero_le _⟩) (fun hz28 => ?_)
        refine lv_if_ne (tgt := 36) hx hb dX10_sort_31 (by decide) (fun cc => ?_) (fun cc => ?_)
        · have hrun := oi_t hrun cc
          refine lv_iload_n hx hb dX10_sort_36 rfl (lv_at hl 2 rfl) ?_
          obtain ⟨k55, ek55, hrun⟩ := jn_e hrun
          have J55 : ∀ (z0_55 : Int32) (ls : Array Slot) (H : Heap) (locs : List Loc), k55 z0_55 = some ru → va_P (dC, dI) vwCl [(h0, .inr (10, [g0_length, g0_text, g0_itemMany, g0_items, g0_balls, g0_outs, g0_sightMany, g0_sights, g0_keptMany, g0_cameras, g0_callMany, g0_calls, .ref h2, .ref h1, g0_caseMany, g0_cases, g0_place, g0_numbers, g0_xs, g0_ys, g0_zs, g0_us, g0_vs, g0_ws, g0_touchTick, g0_touchHalf, g0_powers, g0_worths])), (h1, .inl (k1, 4, .inl c1)), (h2, .inl (k2, 4, .inl c2))] H → va_D A [(h0, .inr (10, [g0_length, g0_text, g0_itemMany, g0_items, g0_balls, g0_outs, g0_sightMany, g0_sights, g0_keptMany, g0_cameras, g0_callMany, g0_calls, .ref h2, .ref h1, g0_caseMany, g0_cases, g0_place, g0_numbers, g0_xs, g0_ys, g0_zs, g0_us, g0_vs, g0_ws, g0_touchTick, g0_touchHalf, g0_powers, g0_worths])), (h1, .inl (k1, 4, .inl c1)), (h2, .inl (k2, 4, .inl c2))] → va_S A s.heap H locs → lv_has ls 5 [(0, .ref h0), (1, .int a1), (2, .int a2), (3, .int a3)] → W p l e (headSpec wsX10_sort ({ frames := 1, cells := 0, slots := 0, locals := 25 } : Room)).room s m ([.ref h0, .int a1, .int a2, .int a3] : List Value).toArray below meth c H locs 0 0 (MQ below (va_Qi (fun r (_ : Unit) => r = ru.1) (fun (_ : Unit) t => va_P (dC, dI) vwCl [(h0, .inr (10, [g0_length, g0_text, g0_itemMany, g0_items, g0_balls, g0_outs, g0_sightMany, g0_sights, g0_keptMany, g0_cameras, g0_callMany, g0_calls, .ref h2, .ref h1, g0_caseMany, g0_cases, g0_place, g0_numbers, g0_xs, g0_ys, g0_zs, g0_us, g0_vs, g0_ws, g0_touchTick, g0_touchHalf, g0_powers, g0_worths])), (h1, .inl (k1, 4, .inl ru.2.1)), (h2, .inl (k2, 4, .inl ru.2.2))] t.heap ∧ va_K (dC, dI) vwCl [(k1, .int), (k2, .int)] t ∧ va_D A [(h0, .inr (10, [g0_length, g0_text, g0_itemMany, g0_items, g0_balls, g0_outs, g0_sightMany, g0_sights, g0_keptMany, g0_cameras, g0_callMany, g0_calls, .ref h2, .ref h1, g0_caseMany, g0_cases, g0_place, g0_numbers, g0_xs, g0_ys, g0_zs, g0_us, g0_vs, g0_ws, g0_touchTick, g0_touchHalf, g0_powers, g0_worths])), (h1, .inl (k1, 4, .inl ru.2.1)), (h2, .inl (k2, 4, .inl ru.2.2))]) A) ([.ref h0, .int a1, .int a2, .int a3] : List Value).toArray s 0 0 A) (F0 m 55 ls [.int z0_55]) := by
            intro z0_55 ls H locs hrun hP hD hS hl
            rw [ek55] at hrun
            refine lv_istore (lv' := [(4, .int z0_55), (0, .ref h0), (1, .int a1), (2, .int a2), (3, .int a3)]) hx hb dX10_sort_55 hl (by decide) rfl (fun ls hl => ?_)
            refine lv_iload_n hx hb dX10_sort_57 rfl (lv_at hl 3 rfl) ?_
            refine lv_if_ne (tgt := 71) hx hb dX10_sort_58 (by decide) (fun cc => ?_) (fun cc => ?_)
            · have hrun := oi_t hrun cc
              refine lv_aload_n hx hb dX10_sort_71 rfl (lv_at hl 1 rfl) ?_
              refine va_get (D := (dC, dI)) (ci := 10) (v := .ref h1) (C := RX10) (T := TX10) (N := 28) hx hb hts hinX10 hown hK hP 0 rfl rfl 13 (by decide) (hts (.fieldLink RX10 40 "WasItOutModel" "rights" "[I") (by decide +kernel)) (fun _ h9 => h9) rfl dX10_sort_72 ?_
              refine lv_iload_n hx hb dX10_sort_75 rfl (lv_at hl 2 rfl) ?_
              refine lv_iload_n hx hb dX10_sort_76 rfl (lv_at hl 4 rfl) ?_
              obtain ⟨hi, hrun⟩ := oi_x hrun
              refine va_iast hx hb hK hP hD hS 1 0 rfl rfl hi dX10_sort_77 (fun H locs hP hD hS => ?_)
              have hP : va_P (dC, dI) vwCl [(h0, .inr (10, [g0_length, g0_text, g0_itemMany, g0_items, g0_balls, g0_outs, g0_sightMany, g0_sights, g0_keptMany, g0_cameras, g0_callMany, g0_calls, .ref h2, .ref h1, g0_caseMany, g0_cases, g0_place, g0_numbers, g0_xs, g0_ys, g0_zs, g0_us, g0_vs, g0_ws, g0_touchTick, g0_touchHalf, g0_powers, g0_worths])), (h1, .inl (k1, 4, .inl (upd c1 a1.toNatClampNeg a3))), (h2, .inl (k2, 4, .inl c2))] H := hP
              have hD : va_D A [(h0, .inr (10, [g0_length, g0_text, g0_itemMany, g0_items, g0_balls, g0_outs, g0_sightMany, g0_sights, g0_keptMany, g0_cameras, g0_callMany, g0_calls, .ref h2, .ref h1, g0_caseMany, g0_cases, g0_place, g0_numbers, g0_xs, g0_ys, g0_zs, g0_us, g0_vs, g0_ws, g0_touchTick, g0_touchHalf, g0_powers, g0_worths])), (h1, .inl (k1, 4, .inl (upd c1 a1.toNatClampNeg a3))), (h2, .inl (k2, 4, .inl c2))] := hD
              refine lv_iload hx hb dX10_sort_78 (lv_at hl 0 rfl) ?_
              cases hrun
              have hP9 : va_P (dC, dI) vwCl [(h0, .inr (10, [g0_length, g0_text, g0_itemMany, g0_items, g0_balls, g0_outs, g0_sightMany, g0_sights, g0_keptMany, g0_cameras, g0_callMany, g0_calls, .ref h2, .ref h1, g0_caseMany, g0_cases, g0_place, g0_numbers, g0_xs, g0_ys, g0_zs, g0_us, g0_vs, g0_ws, g0_touchTick, g0_touchHalf, g0_powers, g0_worths])), (h1, .inl (k1, 4, .inl (upd c1 a1.toNatClampNeg a3))), (h2, .inl (k2, 4, .inl c2))] H := hP
              have hD9 : va_D A [(h0, .inr (10, [g0_length, g0_text, g0_itemMany, g0_items, g0_balls, g0_outs, g0_sightMany, g0_sights, g0_keptMany, g0_cameras, g0_callMany, g0_calls, .ref h2, .ref h1, g0_caseMany, g0_cases, g0_place, g0_numbers, g0_xs, g0_ys, g0_zs, g0_us, g0_vs, g0_ws, g0_touchTick, g0_touchHalf, g0_powers, g0_worths])), (h1, .inl (k1, 4, .inl (upd c1 a1.toNatClampNeg a3))), (h2, .inl (k2, 4, .inl c2))] := hD
              exact W.iret hx hb hr (fun t ht hW => ⟨⟨_, (), rfl, rfl, by rw [ht]; exact hP9, va_K.moved hW.alike hK, hD9⟩, hS.F ht⟩) hS.2.2 dX10_sort_80
            · have hrun := oi_n hrun cc
              refine lv_aload_n hx hb dX10_sort_61 rfl (lv_at hl 1 rfl) ?_
              refine va_get (D := (dC, dI)) (ci := 10) (v := .ref h2) (C := RX10) (T := TX10) (N := 28) hx hb hts hinX10 hown hK hP 0 rfl rfl 12 (by decide) (hts (.fieldLink RX10 37 "WasItOutModel" "shares" "[I") (by decide +kernel)) (fun _ h9 => h9) rfl dX10_sort_62 ?_
              refine lv_iload_n hx hb dX10_sort_65 rfl (lv_at hl 2 rfl) ?_
              refine lv_iload_n hx hb dX10_sort_66 rfl (lv_at hl 4 rfl) ?_
              obtain ⟨hi, hrun⟩ := oi_x hrun
              refine va_iast hx hb hK hP hD hS 2 1 rfl rfl hi dX10_sort_67 (fun H locs hP hD hS => ?_)
              have hP : va_P (dC, dI) vwCl [(h0, .inr (10, [g0_length, g0_text, g0_itemMany, g0_items, g0_balls, g0_outs, g0_sightMany, g0_sights, g0_keptMany, g0_cameras, g0_callMany, g0_calls, .ref h2, .ref h1, g0_caseMany, g0_cases, g0_place, g0_numbers, g0_xs, g0_ys, g0_zs, g0_us, g0_vs, g0_ws, g0_touchTick, g0_touchHalf, g0_powers, g0_worths])), (h1, .inl (k1, 4, .inl c1)), (h2, .inl (k2, 4, .inl (upd c2 a1.toNatClampNeg a3)))] H := hP
              have hD : va_D A [(h0, .inr (10, [g0_length, g0_text, g0_itemMany, g0_items, g0_balls, g0_outs, g0_sightMany, g0_sights, g0_keptMany, g0_cameras, g0_callMany, g0_calls, .ref h2, .ref h1, g0_caseMany, g0_cases, g0_place, g0_numbers, g0_xs, g0_ys, g0_zs, g0_us, g0_vs, g0_ws, g0_touchTick, g0_touchHalf, g0_powers, g0_worths])), (h1, .inl (k1, 4, .inl c1)), (h2, .inl (k2, 4, .inl (upd c2 a1.toNatClampNeg a3)))] := hD
              refine lv_goto (tgt := 78) hx hb dX10_sort_68 (by decide) ?_
              refine lv_iload hx hb dX10_sort_78 (lv_at hl 0 rfl) ?_
              cases hrun
              have hP9 : va_P (dC, dI) vwCl [(h0, .inr (10, [g0_length, g0_text, g0_itemMany, g0_items, g0_balls, g0_outs, g0_sightMany, g0_sights, g0_keptMany, g0_cameras, g0_callMany, g0_calls, .ref h2, .ref h1, g0_caseMany, g0_cases, g0_place, g0_numbers, g0_xs, g0_ys, g0_zs, g0_us, g0_vs, g0_ws, g0_touchTick, g0_touchHalf, g0_powers, g0_worths])), (h1, .inl (k1, 4, .inl c1)), (h2, .inl (k2, 4, .inl (upd c2 a1.toNatClampNeg a3)))] H := hP
              have hD9 : va_D A [(h0, .inr (10, [g0_length, g0_text, g0_itemMany, g0_items, g0_balls, g0_outs, g0_sightMany, g0_sights, g0_keptMany, g0_cameras, g0_callMany, g0_calls, .ref h2, .ref h1, g0_caseMany, g0_cases, g0_place, g0_numbers, g0_xs, g0_ys, g0_zs, g0_us, g0_vs, g0_ws, g0_touchTick, g0_touchHalf, g0_powers, g0_worths])), (h1, .inl (k1, 4, .inl c1)), (h2, .inl (k2, 4, .inl (upd c2 a1.toNatClampNeg a3)))] := hD
              exact W.iret hx hb hr (fun t ht hW => ⟨⟨_, (), rfl, rfl, by rw [ht]; exact hP9, va_K.moved hW.alike hK, hD9⟩, hS.F ht⟩) hS.2.2 dX10_sort_80
          refine lv_if_ne (tgt := 49) hx hb dX10_sort_37 (by decide) (fun cc => ?_) (fun cc => ?_)
          · have hrun := oi_t hrun cc
            refine lv_aload_n hx hb dX10_sort_49 rfl (lv_at hl 0 rfl) ?_
            refine va_get (D := (dC, dI)) (ci := 10) (v := .ref h1) (C := RX10) (T := TX10) (N := 28) hx hb hts hinX10 hown hK hP 0 rfl rfl 13 (by decide) (hts (.fieldLink RX10 40 "WasItOutModel" "rights" "[I") (by decide +kernel)) (fun _ h9 => h9) rfl dX10_sort_50 ?_
            refine lv_iload_n hx hb dX10_sort_53 rfl (lv_at hl 1 rfl) ?_
            obtain ⟨hi, hrun⟩ := oi_x hrun
            refine va_iald hx hb hK hP 1 0 rfl rfl hi dX10_sort_54 ?_
            exact J55 ((c1 a1.toNatClampNeg)) ls H locs hrun hP hD hS hl
          · have hrun := oi_n hrun cc
            refine lv_aload_n hx hb dX10_sort_40 rfl (lv_at hl 0 rfl) ?_
            refine va_get (D := (dC, dI)) (ci := 10) (v := .ref h2) (C := RX10) (T := TX10) (N := 28) hx hb hts hinX10 hown hK hP 0 rfl rfl 12 (by decide) (hts (.fieldLink RX10 37 "WasItOutModel" "shares" "[I") (by decide +kernel)) (fun _ h9 => h9) rfl dX10_sort_41 ?_
            refine lv_iload_n hx hb dX10_sort_44 rfl (lv_at hl 1 rfl) ?_
            obtain ⟨hi, hrun⟩ := oi_x hrun
            refine va_iald hx hb hK hP 2 1 rfl rfl hi dX10_sort_45 ?_
            refine lv_goto (tgt := 55) hx hb dX10_sort_46 (by decide) ?_
            exact J55 ((c2 a1.toNatClampNeg)) ls H locs hrun hP hD hS hl
        · have hrun := oi_n hrun cc
          refine lv_iconst (v := (-1 : Int32)) hx hb dX10_sort_34 (by decide) ?_
          cases hrun
          have hP9 : va_P (dC, dI) vwCl [(h0, .inr (10, [g0_length, g0_text, g0_itemMany, g0_items, g0_balls, g0_outs, g0_sightMany, g0_sights, g0_keptMany, g0_cameras, g0_callMany, g0_calls, .ref h2, .ref h1, g0_caseMany, g0_cases, g0_place, g0_numbers, g0_xs, g0_ys, g0_zs, g0_us, g0_vs, g0_ws, g0_touchTick, g0_touchHalf, g0_powers, g0_worths])), (h1, .inl (k1, 4, .inl c1)), (h2, .inl (k2, 4, .inl c2))] H := hP
          have hD9 : va_D A [(h0, .inr (10, [g0_length, g0_text, g0_itemMany, g0_items, g0_balls, g0_outs, g0_sightMany, g0_sights, g0_keptMany, g0_cameras, g0_callMany, g0_calls, .ref h2, .ref h1, g0_caseMany, g0_cases, g0_place, g0_numbers, g0_xs, g0_ys, g0_zs, g0_us, g0_vs, g0_ws, g0_touchTick, g0_touchHalf, g0_powers, g0_worths])), (h1, .inl (k1, 4, .inl c1)), (h2, .inl (k2, 4, .inl c2))] := hD
          exact W.iret hx hb hr (fun t ht hW => ⟨⟨_, (), rfl, rfl, by rw [ht]; exact hP9, va_K.moved hW.alike hK, hD9⟩, hS.F ht⟩) hS.2.2 dX10_sort_35
  rw [hHe, hLe] at key
  exact key
set_option maxHeartbeats 4000000 in
set_option maxRecDepth 100000 in
theorem tX10_truly (l : Launch) (dC : Nat → ClassId) (dI : Nat → Nat → Nat) (sz : Nat) (h0 h1 : Nat) (k1 : ClassId) (g0_length g0_text g0_itemMany g0_items g0_balls g0_outs g0_sightMany g0_sights g0_keptMany g0_cameras g0_callMany g0_calls g0_shares g0_rights g0_place g0_numbers g0_xs g0_ys g0_zs g0_us g0_vs g0_ws g0_touchTick g0_touchHalf g0_powers g0_worths : Value) (N : Nat) (a1 : Int32) (a2 : Int32) (v0_caseMany : Int32) (c1 : Nat → Int32) (ru : Int32 × (Int32) × (Nat → Int32)) (hm : fX10_truly N a1 a2 v0_caseMany c1 = some ru) : Met l yX10_truly wsX10_truly ({ frames := 1, cells := 0, slots := 0, locals := 25 } : Room) (va_Pc [.ref h0, .int a1, .int a2] (fun U => U.heap.size = sz ∧ va_P (dC, dI) vwCl [(h0, .inr (10, [g0_length, g0_text, g0_itemMany, g0_items, g0_balls, g0_outs, g0_sightMany, g0_sights, g0_keptMany, g0_cameras, g0_callMany, g0_calls, g0_shares, g0_rights, .int v0_caseMany, .ref h1, g0_place, g0_numbers, g0_xs, g0_ys, g0_zs, g0_us, g0_vs, g0_ws, g0_touchTick, g0_touchHalf, g0_powers, g0_worths])), (h1, .inl (k1, 60, .inl c1))] U.heap ∧ va_K (dC, dI) vwCl [(k1, .int)] U ∧ va_D (fun _ => True) [(h0, .inr (10, [g0_length, g0_text, g0_itemMany, g0_items, g0_balls, g0_outs, g0_sightMany, g0_sights, g0_keptMany, g0_cameras, g0_callMany, g0_calls, g0_shares, g0_rights, .int v0_caseMany, .ref h1, g0_place, g0_numbers, g0_xs, g0_ys, g0_zs, g0_us, g0_vs, g0_ws, g0_touchTick, g0_touchHalf, g0_powers, g0_worths])), (h1, .inl (k1, 60, .inl c1))])) (va_Qi (fun r (_ : Unit) => r = ru.1) (fun (_ : Unit) t => va_P (dC, dI) vwCl [(h0, .inr (10, [g0_length, g0_text, g0_itemMany, g0_items, g0_balls, g0_outs, g0_sightMany, g0_sights, g0_keptMany, g0_cameras, g0_callMany, g0_calls, g0_shares, g0_rights, .int ru.2.1, .ref h1, g0_place, g0_numbers, g0_xs, g0_ys, g0_zs, g0_us, g0_vs, g0_ws, g0_touchTick, g0_touchHalf, g0_powers, g0_worths])), (h1, .inl (k1, 60, .inl ru.2.2))] t.heap ∧ va_K (dC, dI) vwCl [(k1, .int)] t ∧ va_D (va_A [(h0, .inr (10, [g0_length, g0_text, g0_itemMany, g0_items, g0_balls, g0_outs, g0_sightMany, g0_sights, g0_keptMany, g0_cameras, g0_callMany, g0_calls, g0_shares, g0_rights, .int v0_caseMany, .ref h1, g0_place, g0_numbers, g0_xs, g0_ys, g0_zs, g0_us, g0_vs, g0_ws, g0_touchTick, g0_touchHalf, g0_powers, g0_worths])), (h1, .inl (k1, 60, .inl c1))] sz) [(h0, .inr (10, [g0_length, g0_text, g0_itemMany, g0_items, g0_balls, g0_outs, g0_sightMany, g0_sights, g0_keptMany, g0_cameras, g0_callMany, g0_calls, g0_shares, g0_rights, .int ru.2.1, .ref h1, g0_place, g0_numbers, g0_xs, g0_ys, g0_zs, g0_us, g0_vs, g0_ws, g0_touchTick, g0_touchHalf, g0_powers, g0_worths])), (h1, .inl (k1, 60, .inl ru.2.2))]) (va_A [(h0, .inr (10, [g0_length, g0_text, g0_itemMany, g0_items, g0_balls, g0_outs, g0_sightMany, g0_sights, g0_keptMany, g0_cameras, g0_callMany, g0_calls, g0_shares, g0_rights, .int v0_caseMany, .ref h1, g0_place, g0_numbers, g0_xs, g0_ys, g0_zs, g0_us, g0_vs, g0_ws, g0_touchTick, g0_touchHalf, g0_powers, g0_worths])), (h1, .inl (k1, 60, .inl c1))] sz)) 0 0 (va_A [(h0, .inr (10, [g0_length, g0_text, g0_itemMany, g0_items, g0_balls, g0_outs, g0_sightMany, g0_sights, g0_keptMany, g0_cameras, g0_callMany, g0_calls, g0_shares, g0_rights, .int v0_caseMany, .ref h1, g0_place, g0_numbers, g0_xs, g0_ys, g0_zs, g0_us, g0_vs, g0_ws, g0_touchTick, g0_touchHalf, g0_powers, g0_worths])), (h1, .inl (k1, 60, .inl c1))] sz) := by
  refine Met.ofW (cc := cX10_truly) (maxL := 3) (ret := (some .int)) (by decide) rfl ?_
  intro p e s m args below meth c s₁ B hml hv
  obtain ⟨rfl, hsz, hP, hK, hD0⟩ := hv
  have hx := B.exec
  have hb := B.bytes
  have hr := B.returns
  have hts := atoms_spec (ws := wsX10_truly) B.pre
  have hown : s.vm.findClass RX10 = some m.cls := findClass_of_methodNamed B.named
  have hlocks := B.notSynchronized
  subst hsz
  have hD := hD0.self (sz := s.heap.size)
  generalize hAe : va_A [(h0, .inr (10, [g0_length, g0_text, g0_itemMany, g0_items, g0_balls, g0_outs, g0_sightMany, g0_sights, g0_keptMany, g0_cameras, g0_callMany, g0_calls, g0_shares, g0_rights, .int v0_caseMany, .ref h1, g0_place, g0_numbers, g0_xs, g0_ys, g0_zs, g0_us, g0_vs, g0_ws, g0_touchTick, g0_touchHalf, g0_powers, g0_worths])), (h1, .inl (k1, 60, .inl c1))] s.heap.size = A at hD ⊢
  have hA : ∀ q : Nat, s.heap.size ≤ q → A q := fun q h => by rw [← hAe]; exact Or.inr h
  have hS : va_S A s.heap s.heap [] := va_S.rf
  have hinX10 : ∀ w ∈ wsX100, w ∈ wsX10_truly := by decide +kernel
  have hl := lv_entry ([.ref h0, .int a1, .int a2]) (n := 3) (Nat.le_of_ble_eq_true rfl)
  rw [lg_entry_eq]
  generalize (lg_sl ([.ref h0, .int a1, .int a2]) ++ List.replicate (3 - (lg_sl ([.ref h0, .int a1, .int a2])).length) Slot.unset).toArray = ls at hl ⊢
  have hl : lv_has ls 3 [(0, .ref h0), (1, .int a1), (2, .int a2)] := hl
  have hrun := hm
  rw [fX10_truly] at hrun
  obtain ⟨H, hHe⟩ : ∃ H, H = s.heap := ⟨_, rfl⟩
  obtain ⟨locs, hLe⟩ : ∃ locs : List Loc, locs = [] := ⟨_, rfl⟩
  rw [← hHe] at hP
  have hS : va_S A s.heap H locs := by rw [hHe, hLe]; exact hS
  have key : W p l e (headSpec wsX10_truly ({ frames := 1, cells := 0, slots := 0, locals := 25 } : Room)).room s m ([.ref h0, .int a1, .int a2] : List Value).toArray below meth c H locs 0 0 (MQ below (va_Qi (fun r (_ : Unit) => r = ru.1) (fun (_ : Unit) t => va_P (dC, dI) vwCl [(h0, .inr (10, [g0_length, g0_text, g0_itemMany, g0_items, g0_balls, g0_outs, g0_sightMany, g0_sights, g0_keptMany, g0_cameras, g0_callMany, g0_calls, g0_shares, g0_rights, .int ru.2.1, .ref h1, g0_place, g0_numbers, g0_xs, g0_ys, g0_zs, g0_us, g0_vs, g0_ws, g0_touchTick, g0_touchHalf, g0_powers, g0_worths])), (h1, .inl (k1, 60, .inl ru.2.2))] t.heap ∧ va_K (dC, dI) vwCl [(k1, .int)] t ∧ va_D A [(h0, .inr (10, [g0_length, g0_text, g0_itemMany, g0_items, g0_balls, g0_outs, g0_sightMany, g0_sights, g0_keptMany, g0_cameras, g0_callMany, g0_calls, g0_shares, g0_rights, .int ru.2.1, .ref h1, g0_place, g0_numbers, g0_xs, g0_ys, g0_zs, g0_us, g0_vs, g0_ws, g0_touchTick, g0_touchHalf, g0_powers, g0_worths])), (h1, .inl (k1, 60, .inl ru.2.2))]) A) ([.ref h0, .int a1, .int a2] : List Value).toArray s 0 0 A) (F0 m 0 ls []) := by
    clear hHe hLe
    refine lv_iload_n hx hb dX10_truly_0 rfl (lv_at hl 1 rfl) ?_
    refine lv_i2l (v := a1.toInt64) hx hb dX10_truly_1 rfl ?_
    refine lv_lconst (v := (0 : Int64)) hx hb dX10_truly_2 (by decide) ?_
    refine lv_ldc2 (v := (100 : Int64)) hx hb hown (hts (.constantLong RX10 105 (100 : Int64)) (by decide +kernel)) dX10_truly_3 ?_
    obtain ⟨q6, hc6, hrun⟩ := ob_e hrun
    refine wz_csz (va_runS (As := [.long a1.toInt64, .long (0 : Int64), .long (100 : Int64)]) (rest := []) ⟨hx, hb, hml, hown, hts⟩ (tX10_in l dC dI N a1.toInt64 ((0 : Int64)) ((100 : Int64)) q6 hc6) (va_cwS 3 hts gX10_truly_X10_in rfl rfl rfl (by decide +kernel) ⟨Nat.le_of_ble_eq_true rfl, Nat.le_of_ble_eq_true rfl⟩) (wz_pSr (hP.sub (ws' := []) [] rfl) (hK.sub (tys' := []) [] rfl)) rfl rfl hl.1 rfl (lv_room (Nat.le_of_ble_eq_true rfl)) dX10_truly_6 ⟨Nat.zero_le _, Nat.zero_le _⟩) (fun hz6 => ?_)
    refine lv_if_ne (tgt := 14) hx hb dX10_truly_9 (by decide) (fun cc => ?_) (fun cc => ?_)
    · have hrun := oi_t hrun cc
      refine lv_aload_n hx hb dX10_truly_14 rfl (lv_at hl 0 rfl) ?_
      refine va_get (D := (dC, dI)) (ci := 10) (v := .int v0_caseMany) (C := RX10) (T := TX10) (N := 28) hx hb hts hinX10 hown hK hP 0 rfl rfl 14 (by decide) (hts (.fieldLink RX10 243 "WasItOutModel" "caseMany" "I") (by decide +kernel)) (fun _ h9 => h9) rfl dX10_truly_15 ?_
      refine lv_bipush (v := (30 : Int32)) hx hb dX10_truly_18 (by decide) ?_
      refine lv_icmp_ne (tgt := 26) hx hb dX10_truly_20 (by decide) (fun cc => ?_) (fun cc => ?_)
      · have hrun := oi_t hrun cc
        refine lv_aload_n hx hb dX10_truly_26 rfl (lv_at hl 0 rfl) ?_
        refine va_get (D := (dC, dI)) (ci := 10) (v := .ref h1) (C := RX10) (T := TX10) (N := 28) hx hb hts hinX10 hown hK hP 0 rfl rfl 15 (by decide) (hts (.fieldLink RX10 43 "WasItOutModel" "cases" "[I") (by decide +kernel)) (fun _ h9 => h9) rfl dX10_truly_27 ?_
        refine lv_iconst (v := (2 : Int32)) hx hb dX10_truly_30 (by decide) ?_
        refine lv_aload_n hx hb dX10_truly_31 rfl (lv_at hl 0 rfl) ?_
        refine va_get (D := (dC, dI)) (ci := 10) (v := .int v0_caseMany) (C := RX10) (T := TX10) (N := 28) hx hb hts hinX10 hown hK hP 0 rfl rfl 14 (by decide) (hts (.fieldLink RX10 243 "WasItOutModel" "caseMany" "I") (by decide +kernel)) (fun _ h9 => h9) rfl dX10_truly_32 ?_
        refine lv_imul hx hb dX10_truly_35 ?_
        refine lv_iload_n hx hb dX10_truly_36 rfl (lv_at hl 1 rfl) ?_
        obtain ⟨hi, hrun⟩ := oi_x hrun
        refine va_iast hx hb hK hP hD hS 1 0 rfl rfl hi dX10_truly_37 (fun H locs hP hD hS => ?_)
        have hP : va_P (dC, dI) vwCl [(h0, .inr (10, [g0_length, g0_text, g0_itemMany, g0_items, g0_balls, g0_outs, g0_sightMany, g0_sights, g0_keptMany, g0_cameras, g0_callMany, g0_calls, g0_shares, g0_rights, .int v0_caseMany, .ref h1, g0_place, g0_numbers, g0_xs, g0_ys, g0_zs, g0_us, g0_vs, g0_ws, g0_touchTick, g0_touchHalf, g0_powers, g0_worths])), (h1, .inl (k1, 60, .inl (upd c1 ((2 : Int32) * v0_caseMany).toNatClampNeg a1)))] H := hP
        have hD : va_D A [(h0, .inr (10, [g0_length, g0_text, g0_itemMany, g0_items, g0_balls, g0_outs, g0_sightMany, g0_sights, g0_keptMany, g0_cameras, g0_callMany, g0_calls, g0_shares, g0_rights, .int v0_caseMany, .ref h1, g0_place, g0_numbers, g0_xs, g0_ys, g0_zs, g0_us, g0_vs, g0_ws, g0_touchTick, g0_touchHalf, g0_powers, g0_worths])), (h1, .inl (k1, 60, .inl (upd c1 ((2 : Int32) * v0_caseMany).toNatClampNeg a1)))] := hD
        refine lv_aload_n hx hb dX10_truly_38 rfl (lv_at hl 0 rfl) ?_
        refine va_get (D := (dC, dI)) (ci := 10) (v := .ref h1) (C := RX10) (T := TX10) (N := 28) hx hb hts hinX10 hown hK hP 0 rfl rfl 15 (by decide) (hts (.fieldLink RX10 43 "WasItOutModel" "cases" "[I") (by decide +kernel)) (fun _ h9 => h9) rfl dX10_truly_39 ?_
        refine lv_iconst (v := (2 : Int32)) hx hb dX10_truly_42 (by decide) ?_
        refine lv_aload_n hx hb dX10_truly_43 rfl (lv_at hl 0 rfl) ?_
        refine va_get (D := (dC, dI)) (ci := 10) (v := .int v0_caseMany) (C := RX10) (T := TX10) (N := 28) hx hb hts hinX10 hown hK hP 0 rfl rfl 14 (by decide) (hts (.fieldLink RX10 243 "WasItOutModel" "caseMany" "I") (by decide +kernel)) (fun _ h9 => h9) rfl dX10_truly_44 ?_
        refine lv_imul hx hb dX10_truly_47 ?_
        refine lv_iconst (v := (1 : Int32)) hx hb dX10_truly_48 (by decide) ?_
        refine lv_iadd hx hb dX10_truly_49 ?_
        refine lv_iload_n hx hb dX10_truly_50 rfl (lv_at hl 2 rfl) ?_
        obtain ⟨k59, ek59, hrun⟩ := jn_e hrun
        have J59 : ∀ (z0_59 : Int32) (ls : Array Slot) (H : Heap) (locs : List Loc), k59 z0_59 = some ru → va_P (dC, dI) vwCl [(h0, .inr (10, [g0_length, g0_text, g0_itemMany, g0_items, g0_balls, g0_outs, g0_sightMany, g0_sights, g0_keptMany, g0_cameras, g0_callMany, g0_calls, g0_shares, g0_rights, .int v0_caseMany, .ref h1, g0_place, g0_numbers, g0_xs, g0_ys, g0_zs, g0_us, g0_vs, g0_ws, g0_touchTick, g0_touchHalf, g0_powers, g0_worths])), (h1, .inl (k1, 60, .inl (upd c1 ((2 : Int32) * v0_caseMany).toNatClampNeg a1)))] H → va_D A [(h0, .inr (10, [g0_length, g0_text, g0_itemMany, g0_items, g0_balls, g0_outs, g0_sightMany, g0_sights, g0_keptMany, g0_cameras, g0_callMany, g0_calls, g0_shares, g0_rights, .int v0_caseMany, .ref h1, g0_place, g0_numbers, g0_xs, g0_ys, g0_zs, g0_us, g0_vs, g0_ws, g0_touchTick, g0_touchHalf, g0_powers, g0_worths])), (h1, .inl (k1, 60, .inl (upd c1 ((2 : Int32) * v0_caseMany).toNatClampNeg a1)))] → va_S A s.heap H locs → lv_has ls 3 [(0, .ref h0)] → W p l e (headSpec wsX10_truly ({ frames := 1, cells := 0, slots := 0, locals := 25 } : Room)).room s m ([.ref h0, .int a1, .int a2] : List Value).toArray below meth c H locs 0 0 (MQ below (va_Qi (fun r (_ : Unit) => r = ru.1) (fun (_ : Unit) t => va_P (dC, dI) vwCl [(h0, .inr (10, [g0_length, g0_text, g0_itemMany, g0_items, g0_balls, g0_outs, g0_sightMany, g0_sights, g0_keptMany, g0_cameras, g0_callMany, g0_calls, g0_shares, g0_rights, .int ru.2.1, .ref h1, g0_place, g0_numbers, g0_xs, g0_ys, g0_zs, g0_us, g0_vs, g0_ws, g0_touchTick, g0_touchHalf, g0_powers, g0_worths])), (h1, .inl (k1, 60, .inl ru.2.2))] t.heap ∧ va_K (dC, dI) vwCl [(k1, .int)] t ∧ va_D A [(h0, .inr (10, [g0_length, g0_text, g0_itemMany, g0_items, g0_balls, g0_outs, g0_sightMany, g0_sights, g0_keptMany, g0_cameras, g0_callMany, g0_calls, g0_shares, g0_rights, .int ru.2.1, .ref h1, g0_place, g0_numbers, g0_xs, g0_ys, g0_zs, g0_us, g0_vs, g0_ws, g0_touchTick, g0_touchHalf, g0_powers, g0_worths])), (h1, .inl (k1, 60, .inl ru.2.2))]) A) ([.ref h0, .int a1, .int a2] : List Value).toArray s 0 0 A) (F0 m 59 ls [.int z0_59, .int (((2 : Int32) * v0_caseMany) + (1 : Int32)), .ref h1]) := by
          intro z0_59 ls H locs hrun hP hD hS hl
          rw [ek59] at hrun
          obtain ⟨hi, hrun⟩ := oi_x hrun
          refine va_iast hx hb hK hP hD hS 1 0 rfl rfl hi dX10_truly_59 (fun H locs hP hD hS => ?_)
          have hP : va_P (dC, dI) vwCl [(h0, .inr (10, [g0_length, g0_text, g0_itemMany, g0_items, g0_balls, g0_outs, g0_sightMany, g0_sights, g0_keptMany, g0_cameras, g0_callMany, g0_calls, g0_shares, g0_rights, .int v0_caseMany, .ref h1, g0_place, g0_numbers, g0_xs, g0_ys, g0_zs, g0_us, g0_vs, g0_ws, g0_touchTick, g0_touchHalf, g0_powers, g0_worths])), (h1, .inl (k1, 60, .inl (upd (upd c1 ((2 : Int32) * v0_caseMany).toNatClampNeg a1) (((2 : Int32) * v0_caseMany) + (1 : Int32)).toNatClampNeg z0_59)))] H := hP
          have hD : va_D A [(h0, .inr (10, [g0_length, g0_text, g0_itemMany, g0_items, g0_balls, g0_outs, g0_sightMany, g0_sights, g0_keptMany, g0_cameras, g0_callMany, g0_calls, g0_shares, g0_rights, .int v0_caseMany, .ref h1, g0_place, g0_numbers, g0_xs, g0_ys, g0_zs, g0_us, g0_vs, g0_ws, g0_touchTick, g0_touchHalf, g0_powers, g0_worths])), (h1, .inl (k1, 60, .inl (upd (upd c1 ((2 : Int32) * v0_caseMany).toNatClampNeg a1) (((2 : Int32) * v0_caseMany) + (1 : Int32)).toNatClampNeg z0_59)))] := hD
          refine lv_aload_n hx hb dX10_truly_60 rfl (lv_at hl 0 rfl) ?_
          refine lv_dup hx hb dX10_truly_61 rfl ?_
          refine va_get (D := (dC, dI)) (ci := 10) (v := .int v0_caseMany) (C := RX10) (T := TX10) (N := 28) hx hb hts hinX10 hown hK hP 0 rfl rfl 14 (by decide) (hts (.fieldLink RX10 243 "WasItOutModel" "caseMany" "I") (by decide +kernel)) (fun _ h9 => h9) rfl dX10_truly_62 ?_
          refine lv_iconst (v := (1 : Int32)) hx hb dX10_truly_65 (by decide) ?_
          refine lv_iadd hx hb dX10_truly_66 ?_
          refine va_put (D := (dC, dI)) (ci := 10) (v := .int (v0_caseMany + (1 : Int32))) (ty := .int) (C := RX10) (T := TX10) (N := 28) hx hb hts hinX10 tyX10 tyX10_ok nmX10 hown hK hP hD hS 0 rfl rfl 14 (by decide) (hts (.fieldLink RX10 243 "WasItOutModel" "caseMany" "I") (by decide +kernel)) (fun _ h9 => h9) rfl (by decide +kernel) rfl rfl (Nat.le_of_ble_eq_true rfl) dX10_truly_67 (fun H locs hP hD hS => ?_)
          have hP : va_P (dC, dI) vwCl [(h0, .inr (10, [g0_length, g0_text, g0_itemMany, g0_items, g0_balls, g0_outs, g0_sightMany, g0_sights, g0_keptMany, g0_cameras, g0_callMany, g0_calls, g0_shares, g0_rights, .int (v0_caseMany + (1 : Int32)), .ref h1, g0_place, g0_numbers, g0_xs, g0_ys, g0_zs, g0_us, g0_vs, g0_ws, g0_touchTick, g0_touchHalf, g0_powers, g0_worths])), (h1, .inl (k1, 60, .inl (upd (upd c1 ((2 : Int32) * v0_caseMany).toNatClampNeg a1) (((2 : Int32) * v0_caseMany) + (1 : Int32)).toNatClampNeg z0_59)))] H := hP
          have hD : va_D A [(h0, .inr (10, [g0_length, g0_text, g0_itemMany, g0_items, g0_balls, g0_outs, g0_sightMany, g0_sights, g0_keptMany, g0_cameras, g0_callMany, g0_calls, g0_shares, g0_rights, .int (v0_caseMany + (1 : Int32)), .ref h1, g0_place, g0_numbers, g0_xs, g0_ys, g0_zs, g0_us, g0_vs, g0_ws, g0_touchTick, g0_touchHalf, g0_powers, g0_worths])), (h1, .inl (k1, 60, .inl (upd (upd c1 ((2 : Int32) * v0_caseMany).toNatClampNeg a1) (((2 : Int32) * v0_caseMany) + (1 : Int32)).toNatClampNeg z0_59)))] := hD
          refine lv_aload_n hx hb dX10_truly_70 rfl (lv_at hl 0 rfl) ?_
          refine va_get (D := (dC, dI)) (ci := 10) (v := .int (v0_caseMany + (1 : Int32))) (C := RX10) (T := TX10) (N := 28) hx hb hts hinX10 hown hK hP 0 rfl rfl 14 (by decide) (hts (.fieldLink RX10 243 "WasItOutModel" "caseMany" "I") (by decide +kernel)) (fun _ h9 => h9) rfl dX10_truly_71 ?_
          cases hrun
          have hP9 : va_P (dC, dI) vwCl [(h0, .inr (10, [g0_length, g0_text, g0_itemMany, g0_items, g0_balls, g0_outs, g0_sightMany, g0_sights, g0_keptMany, g0_cameras, g0_callMany, g0_calls, g0_shares, g0_rights, .int (v0_caseMany + (1 : Int32)), .ref h1, g0_place, g0_numbers, g0_xs, g0_ys, g0_zs, g0_us, g0_vs, g0_ws, g0_touchTick, g0_touchHalf, g0_powers, g0_worths])), (h1, .inl (k1, 60, .inl (upd (upd c1 ((2 : Int32) * v0_caseMany).toNatClampNeg a1) (((2 : Int32) * v0_caseMany) + (1 : Int32)).toNatClampNeg z0_59)))] H := hP
          have hD9 : va_D A [(h0, .inr (10, [g0_length, g0_text, g0_itemMany, g0_items, g0_balls, g0_outs, g0_sightMany, g0_sights, g0_keptMany, g0_cameras, g0_callMany, g0_calls, g0_shares, g0_rights, .int (v0_caseMany + (1 : Int32)), .ref h1, g0_place, g0_numbers, g0_xs, g0_ys, g0_zs, g0_us, g0_vs, g0_ws, g0_touchTick, g0_touchHalf, g0_powers, g0_worths])), (h1, .inl (k1, 60, .inl (upd (upd c1 ((2 : Int32) * v0_caseMany).toNatClampNeg a1) (((2 : Int32) * v0_caseMany) + (1 : Int32)).toNatClampNeg z0_59)))] := hD
          exact W.iret hx hb hr (fun t ht hW => ⟨⟨_, (), rfl, rfl, by rw [ht]; exact hP9, va_K.moved hW.alike hK, hD9⟩, hS.F ht⟩) hS.2.2 dX10_truly_74
        refine lv_if_eq (tgt := 58) hx hb dX10_truly_51 (by decide) (fun cc => ?_) (fun cc => ?_)
        · have hrun := oi_t hrun cc
          refine lv_iconst (v := (0 : Int32)) hx hb dX10_truly_58 (by decide) ?_
          exact J59 ((0 : Int32)) ls H locs hrun hP hD hS (lv_sub hl [0] rfl)
        · have hrun := oi_f hrun cc
          refine lv_iconst (v := (1 : Int32)) hx hb dX10_truly_54 (by decide) ?_
          refine lv_goto (tgt := 59) hx hb dX10_truly_55 (by decide) ?_
          exact J59 ((1 : Int32)) ls H locs hrun hP hD hS (lv_sub hl [0] rfl)
      · have hrun := oi_n hrun cc
        refine lv_bipush (v := (-3 : Int32)) hx hb dX10_truly_23 (by decide) ?_
        cases hrun
        have hP9 : va_P (dC, dI) vwCl [(h0, .inr (10, [g0_length, g0_text, g0_itemMany, g0_items, g0_balls, g0_outs, g0_sightMany, g0_sights, g0_keptMany, g0_cameras, g0_callMany, g0_calls, g0_shares, g0_rights, .int v0_caseMany, .ref h1, g0_place, g0_numbers, g0_xs, g0_ys, g0_zs, g0_us, g0_vs, g0_ws, g0_touchTick, g0_touchHalf, g0_powers, g0_worths])), (h1, .inl (k1, 60, .inl c1))] H := hP
        have hD9 : va_D A [(h0, .inr (10, [g0_length, g0_text, g0_itemMany, g0_items, g0_balls, g0_outs, g0_sightMany, g0_sights, g0_keptMany, g0_cameras, g0_callMany, g0_calls, g0_shares, g0_rights, .int v0_caseMany, .ref h1, g0_place, g0_numbers, g0_xs, g0_ys, g0_zs, g0_us, g0_vs, g0_ws, g0_touchTick, g0_touchHalf, g0_powers, g0_worths])), (h1, .inl (k1, 60, .inl c1))] := hD
        exact W.iret hx hb hr (fun t ht hW => ⟨⟨_, (), rfl, rfl, by rw [ht]; exact hP9, va_K.moved hW.alike hK, hD9⟩, hS.F ht⟩) hS.2.2 dX10_truly_25
    · have hrun := oi_n hrun cc
      refine lv_iconst (v := (-1 : Int32)) hx hb dX10_truly_12 (by decide) ?_
      cases hrun
      have hP9 : va_P (dC, dI) vwCl [(h0, .inr (10, [g0_length, g0_text, g0_itemMany, g0_items, g0_balls, g0_outs, g0_sightMany, g0_sights, g0_keptMany, g0_cameras, g0_callMany, g0_calls, g0_shares, g0_rights, .int v0_caseMany, .ref h1, g0_place, g0_numbers, g0_xs, g0_ys, g0_zs, g0_us, g0_vs, g0_ws, g0_touchTick, g0_touchHalf, g0_powers, g0_worths])), (h1, .inl (k1, 60, .inl c1))] H := hP
      have hD9 : va_D A [(h0, .inr (10, [g0_length, g0_text, g0_itemMany, g0_items, g0_balls, g0_outs, g0_sightMany, g0_sights, g0_keptMany, g0_cameras, g0_callMany, g0_calls, g0_shares, g0_rights, .int v0_caseMany, .ref h1, g0_place, g0_numbers, g0_xs, g0_ys, g0_zs, g0_us, g0_vs, g0_ws, g0_touchTick, g0_touchHalf, g0_powers, g0_worths])), (h1, .inl (k1, 60, .inl c1))] := hD
      exact W.iret hx hb hr (fun t ht hW => ⟨⟨_, (), rfl, rfl, by rw [ht]; exact hP9, va_K.moved hW.alike hK, hD9⟩, hS.F ht⟩) hS.2.2 dX10_truly_13
  rw [hHe, hLe] at key
  exact key
set_option maxHeartbeats 4000000 in
set_option maxRecDepth 100000 in
theorem tX10_when (l : Launch) (dC : Nat → ClassId) (dI : Nat → Nat → Nat) (sz : Nat) (h0 h1 h2 h3 h4 : Nat) (k1 k2 k3 k4 : ClassId) (g0_length g0_text g0_itemMany g0_items g0_balls g0_outs g0_sightMany g0_sights g0_keptMany g0_cameras g0_callMany g0_calls g0_caseMany g0_cases g0_place g0_numbers g0_xs g0_ys g0_zs g0_us g0_vs g0_ws g0_touchTick g0_touchHalf : Value) (N : Nat) (a1 : Int32) (a2 : Int32) (a3 : Int32) (c1 : Nat → Int64) (c2 : Nat → Int32) (c3 : Nat → Int32) (c4 : Nat → Int64) (ru : Int32 × (Nat → Int64) × (Nat → Int64)) (hm : fX10_when N a1 a2 a3 c1 c2 c3 c4 = some ru) : Met l yX10_when wsX10_when ({ frames := 2, cells := 0, slots := 0, locals := 52 } : Room) (va_Pc [.ref h0, .int a1, .int a2, .int a3] (fun U => U.heap.size = sz ∧ va_P (dC, dI) vwCl [(h0, .inr (10, [g0_length, g0_text, g0_itemMany, g0_items, g0_balls, g0_outs, g0_sightMany, g0_sights, g0_keptMany, g0_cameras, g0_callMany, g0_calls, .ref h3, .ref h2, g0_caseMany, g0_cases, g0_place, g0_numbers, g0_xs, g0_ys, g0_zs, g0_us, g0_vs, g0_ws, g0_touchTick, g0_touchHalf, .ref h1, .ref h4])), (h1, .inl (k1, 9, .inr (.inl c1))), (h2, .inl (k2, 4, .inl c2)), (h3, .inl (k3, 4, .inl c3)), (h4, .inl (k4, 81, .inr (.inl c4)))] U.heap ∧ va_K (dC, dI) vwCl [(k1, .long), (k2, .int), (k3, .int), (k4, .long)] U ∧ va_D (fun _ => True) [(h0, .inr (10, [g0_length, g0_text, g0_itemMany, g0_items, g0_balls, g0_outs, g0_sightMany, g0_sights, g0_keptMany, g0_cameras, g0_callMany, g0_calls, .ref h3, .ref h2, g0_caseMany, g0_cases, g0_place, g0_numbers, g0_xs, g0_ys, g0_zs, g0_us, g0_vs, g0_ws, g0_touchTick, g0_touchHalf, .ref h1, .ref h4])), (h1, .inl (k1, 9, .inr (.inl c1))), (h2, .inl (k2, 4, .inl c2)), (h3, .inl (k3, 4, .inl c3)), (h4, .inl (k4, 81, .inr (.inl c4)))])) (va_Qi (fun r (_ : Unit) => r = ru.1) (fun (_ : Unit) t => va_P (dC, dI) vwCl [(h0, .inr (10, [g0_length, g0_text, g0_itemMany, g0_items, g0_balls, g0_outs, g0_sightMany, g0_sights, g0_keptMany, g0_cameras, g0_callMany, g0_calls, .ref h3, .ref h2, g0_caseMany, g0_cases, g0_place, g0_numbers, g0_xs, g0_ys, g0_zs, g0_us, g0_vs, g0_ws, g0_touchTick, g0_touchHalf, .ref h1, .ref h4])), (h1, .inl (k1, 9, .inr (.inl ru.2.1))), (h2, .inl (k2, 4, .inl c2)), (h3, .inl (k3, 4, .inl c3)), (h4, .inl (k4, 81, .inr (.inl ru.2.2)))] t.heap ∧ va_K (dC, dI) vwCl [(k1, .long), (k2, .int), (k3, .int), (k4, .long)] t ∧ va_D (va_A [(h0, .inr (10, [g0_length, g0_text, g0_itemMany, g0_items, g0_balls, g0_outs, g0_sightMany, g0_sights, g0_keptMany, g0_cameras, g0_callMany, g0_calls, .ref h3, .ref h2, g0_caseMany, g0_cases, g0_place, g0_numbers, g0_xs, g0_ys, g0_zs, g0_us, g0_vs, g0_ws, g0_touchTick, g0_touchHalf, .ref h1, .ref h4])), (h1, .inl (k1, 9, .inr (.inl c1))), (h2, .inl (k2, 4, .inl c2)), (h3, .inl (k3, 4, .inl c3)), (h4, .inl (k4, 81, .inr (.inl c4)))] sz) [(h0, .inr (10, [g0_length, g0_text, g0_itemMany, g0_items, g0_balls, g0_outs, g0_sightMany, g0_sights, g0_keptMany, g0_cameras, g0_callMany, g0_calls, .ref h3, .ref h2, g0_caseMany, g0_cases, g0_place, g0_numbers, g0_xs, g0_ys, g0_zs, g0_us, g0_vs, g0_ws, g0_touchTick, g0_touchHalf, .ref h1, .ref h4])), (h1, .inl (k1, 9, .inr (.inl ru.2.1))), (h2, .inl (k2, 4, .inl c2)), (h3, .inl (k3, 4, .inl c3)), (h4, .inl (k4, 81, .inr (.inl ru.2.2)))]) (va_A [(h0, .inr (10, [g0_length, g0_text, g0_itemMany, g0_items, g0_balls, g0_outs, g0_sightMany, g0_sights, g0_keptMany, g0_cameras, g0_callMany, g0_calls, .ref h3, .ref h2, g0_caseMany, g0_cases, g0_place, g0_numbers, g0_xs, g0_ys, g0_zs, g0_us, g0_vs, g0_ws, g0_touchTick, g0_touchHalf, .ref h1, .ref h4])), (h1, .inl (k1, 9, .inr (.inl c1))), (h2, .inl (k2, 4, .inl c2)), (h3, .inl (k3, 4, .inl c3)), (h4, .inl (k4, 81, .inr (.inl c4)))] sz)) 0 0 (va_A [(h0, .inr (10, [g0_length, g0_text, g0_itemMany, g0_items, g0_balls, g0_outs, g0_sightMany, g0_sights, g0_keptMany, g0_cameras, g0_callMany, g0_calls, .ref h3, .ref h2, g0_caseMany, g0_cases, g0_place, g0_numbers, g0_xs, g0_ys, g0_zs, g0_us, g0_vs, g0_ws, g0_touchTick, g0_touchHalf, .ref h1, .ref h4])), (h1, .inl (k1, 9, .inr (.inl c1))), (h2, .inl (k2, 4, .inl c2)), (h3, .inl (k3, 4, .inl c3)), (h4, .inl (k4, 81, .inr (.inl c4)))] sz) := by
  refine Met.ofW (cc := cX10_when) (maxL := 4) (ret := (some .int)) (by decide) rfl ?_
  intro p e s m args below meth c s₁ B hml hv
  obtain ⟨rfl, hsz, hP, hK, hD0⟩ := hv
  have hx := B.exec
  have hb := B.bytes
  have hr := B.returns
  have hts := atoms_spec (ws := wsX10_when) B.pre
  have hown : s.vm.findClass RX10 = some m.cls := findClass_of_methodNamed B.named
  have hlocks := B.notSynchronized
  subst hsz
  have hD := hD0.self (sz := s.heap.size)
  generalize hAe : va_A [(h0, .inr (10, [g0_length, g0_text, g0_itemMany, g0_items, g0_balls, g0_outs, g0_sightMany, g0_sights, g0_keptMany, g0_cameras, g0_callMany, g0_calls, .ref h3, .ref h2, g0_caseMany, g0_cases, g0_place, g0_numbers, g0_xs, g0_ys, g0_zs, g0_us, g0_vs, g0_ws, g0_touchTick, g0_touchHalf, .ref h1, .ref h4])), (h1, .inl (k1, 9, .inr (.inl c1))), (h2, .inl (k2, 4, .inl c2)), (h3, .inl (k3, 4, .inl c3)), (h4, .inl (k4, 81, .inr (.inl c4)))] s.heap.size = A at hD ⊢
  have hA : ∀ q : Nat, s.heap.size ≤ q → A q := fun q h => by rw [← hAe]; exact Or.inr h
  have hS : va_S A s.heap s.heap [] := va_S.rf
  have hinX10 : ∀ w ∈ wsX100, w ∈ wsX10_when := by decide +kernel
  have hl := lv_entry ([.ref h0, .int a1, .int a2, .int a3]) (n := 4) (Nat.le_of_ble_eq_true rfl)
  rw [lg_entry_eq]
  generalize (lg_sl ([.ref h0, .int a1, .int a2, .int a3]) ++ List.replicate (4 - (lg_sl ([.ref h0, .int a1, .int a2, .int a3])).length) Slot.unset).toArray = ls at hl ⊢
  have hl : lv_has ls 4 [(0, .ref h0), (1, .int a1), (2, .int a2), (3, .int a3)] := hl
  have hrun := hm
  rw [fX10_when] at hrun
  obtain ⟨H, hHe⟩ : ∃ H, H = s.heap := ⟨_, rfl⟩
  obtain ⟨locs, hLe⟩ : ∃ locs : List Loc, locs = [] := ⟨_, rfl⟩
  rw [← hHe] at hP
  have hS : va_S A s.heap H locs := by rw [hHe, hLe]; exact hS
  have key : W p l e (headSpec wsX10_when ({ frames := 2, cells := 0, slots := 0, locals := 52 } : Room)).room s m ([.ref h0, .int a1, .int a2, .int a3] : List Value).toArray below meth c H locs 0 0 (MQ below (va_Qi (fun r (_ : Unit) => r = ru.1) (fun (_ : Unit) t => va_P (dC, dI) vwCl [(h0, .inr (10, [g0_length, g0_text, g0_itemMany, g0_items, g0_balls, g0_outs, g0_sightMany, g0_sights, g0_keptMany, g0_cameras, g0_callMany, g0_calls, .ref h3, .ref h2, g0_caseMany, g0_cases, g0_place, g0_numbers, g0_xs, g0_ys, g0_zs, g0_us, g0_vs, g0_ws, g0_touchTick, g0_touchHalf, .ref h1, .ref h4])), (h1, .inl (k1, 9, .inr (.inl ru.2.1))), (h2, .inl (k2, 4, .inl c2)), (h3, .inl (k3, 4, .inl c3)), (h4, .inl (k4, 81, .inr (.inl ru.2.2)))] t.heap ∧ va_K (dC, dI) vwCl [(k1, .long), (k2, .int), (k3, .int), (k4, .long)] t ∧ va_D A [(h0, .inr (10, [g0_length, g0_text, g0_itemMany, g0_items, g0_balls, g0_outs, g0_sightMany, g0_sights, g0_keptMany, g0_cameras, g0_callMany, g0_calls, .ref h3, .ref h2, g0_caseMany, g0_cases, g0_place, g0_numbers, g0_xs, g0_ys, g0_zs, g0_us, g0_vs, g0_ws, g0_touchTick, g0_touchHalf, .ref h1, .ref h4])), (h1, .inl (k1, 9, .inr (.inl ru.2.1))), (h2, .inl (k2, 4, .inl c2)), (h3, .inl (k3, 4, .inl c3)), (h4, .inl (k4, 81, .inr (.inl ru.2.2)))]) A) ([.ref h0, .int a1, .int a2, .int a3] : List Value).toArray s 0 0 A) (F0 m 0 ls []) := by
    clear hHe hLe
    refine lv_iload_n hx hb dX10_when_0 rfl (lv_at hl 1 rfl) ?_
    refine lv_i2l (v := a1.toInt64) hx hb dX10_when_1 rfl ?_
    refine lv_lconst (v := (0 : Int64)) hx hb dX10_when_2 (by decide) ?_
    refine lv_ldc2 (v := (7 : Int64)) hx hb hown (hts (.constantLong RX10 241 (7 : Int64)) (by decide +kernel)) dX10_when_3 ?_
    obtain ⟨q6, hc6, hrun⟩ := ob_e hrun
    refine wz_csz (va_runS (As := [.long a1.toInt64, .long (0 : Int64), .long (7 : Int64)]) (rest := []) ⟨hx, hb, hml, hown, hts⟩ (tX10_in l dC dI N a1.toInt64 ((0 : Int64)) ((7 : Int64)) q6 hc6) (va_cwS 3 hts gX10_when_X10_in rfl rfl rfl (by decide +kernel) ⟨Nat.le_of_ble_eq_true rfl, Nat.le_of_ble_eq_true rfl⟩) (wz_pSr (hP.sub (ws' := []) [] rfl) (hK.sub (tys' := []) [] rfl)) rfl rfl hl.1 rfl (lv_room (Nat.le_of_ble_eq_true rfl)) dX10_when_6 ⟨Nat.zero_le _, Nat.zero_le _⟩) (fun hz6 => ?_)
    refine lv_if_eq (tgt := 36) hx hb dX10_when_9 (by decide) (fun cc => ?_) (fun cc => ?_)
    · have hrun := oi_t hrun cc
      refine lv_iconst (v := (-1 : Int32)) hx hb dX10_when_36 (by decide) ?_
      cases hrun
      have hP9 : va_P (dC, dI) vwCl [(h0, .inr (10, [g0_length, g0_text, g0_itemMany, g0_items, g0_balls, g0_outs, g0_sightMany, g0_sights, g0_keptMany, g0_cameras, g0_callMany, g0_calls, .ref h3, .ref h2, g0_caseMany, g0_cases, g0_place, g0_numbers, g0_xs, g0_ys, g0_zs, g0_us, g0_vs, g0_ws, g0_touchTick, g0_touchHalf, .ref h1, .ref h4])), (h1, .inl (k1, 9, .inr (.inl c1))), (h2, .inl (k2, 4, .inl c2)), (h3, .inl (k3, 4, .inl c3)), (h4, .inl (k4, 81, .inr (.inl c4)))] H := hP
      have hD9 : va_D A [(h0, .inr (10, [g0_length, g0_text, g0_itemMany, g0_items, g0_balls, g0_outs, g0_sightMany, g0_sights, g0_keptMany, g0_cameras, g0_callMany, g0_calls, .ref h3, .ref h2, g0_caseMany, g0_cases, g0_place, g0_numbers, g0_xs, g0_ys, g0_zs, g0_us, g0_vs, g0_ws, g0_touchTick, g0_touchHalf, .ref h1, .ref h4])), (h1, .inl (k1, 9, .inr (.inl c1))), (h2, .inl (k2, 4, .inl c2)), (h3, .inl (k3, 4, .inl c3)), (h4, .inl (k4, 81, .inr (.inl c4)))] := hD
      exact W.iret hx hb hr (fun t ht hW => ⟨⟨_, (), rfl, rfl, by rw [ht]; exact hP9, va_K.moved hW.alike hK, hD9⟩, hS.F ht⟩) hS.2.2 dX10_when_37
    · have hrun := oi_f hrun cc
      refine lv_iload_n hx hb dX10_when_12 rfl (lv_at hl 2 rfl) ?_
      refine lv_i2l (v := a2.toInt64) hx hb dX10_when_13 rfl ?_
      refine lv_lconst (v := (0 : Int64)) hx hb dX10_when_14 (by decide) ?_
      refine lv_ldc2 (v := (8 : Int64)) hx hb hown (hts (.constantLong RX10 74 (8 : Int64)) (by decide +kernel)) dX10_when_15 ?_
      obtain ⟨q18, hc18, hrun⟩ := ob_e hrun
      refine wz_csz (va_runS (As := [.long a2.toInt64, .long (0 : Int64), .long (8 : Int64)]) (rest := []) ⟨hx, hb, hml, hown, hts⟩ (tX10_in l dC dI N a2.toInt64 ((0 : Int64)) ((8 : Int64)) q18 hc18) (va_cwS 3 hts gX10_when_X10_in rfl rfl rfl (by decide +kernel) ⟨Nat.le_of_ble_eq_true rfl, Nat.le_of_ble_eq_true rfl⟩) (wz_pSr (hP.sub (ws' := []) [] rfl) (hK.sub (tys' := []) [] rfl)) rfl rfl hl.1 rfl (lv_room (Nat.le_of_ble_eq_true rfl)) dX10_when_18 ⟨Nat.zero_le _, Nat.zero_le _⟩) (fun hz18 => ?_)
      refine lv_if_eq (tgt := 36) hx hb dX10_when_21 (by decide) (fun cc => ?_) (fun cc => ?_)
      · have hrun := oi_t hrun cc
        refine lv_iconst (v := (-1 : Int32)) hx hb dX10_when_36 (by decide) ?_
        cases hrun
        have hP9 : va_P (dC, dI) vwCl [(h0, .inr (10, [g0_length, g0_text, g0_itemMany, g0_items, g0_balls, g0_outs, g0_sightMany, g0_sights, g0_keptMany, g0_cameras, g0_callMany, g0_calls, .ref h3, .ref h2, g0_caseMany, g0_cases, g0_place, g0_numbers, g0_xs, g0_ys, g0_zs, g0_us, g0_vs, g0_ws, g0_touchTick, g0_touchHalf, .ref h1, .ref h4])), (h1, .inl (k1, 9, .inr (.inl c1))), (h2, .inl (k2, 4, .inl c2)), (h3, .inl (k3, 4, .inl c3)), (h4, .inl (k4, 81, .inr (.inl c4)))] H := hP
        have hD9 : va_D A [(h0, .inr (10, [g0_length, g0_text, g0_itemMany, g0_items, g0_balls, g0_outs, g0_sightMany, g0_sights, g0_keptMany, g0_cameras, g0_callMany, g0_calls, .ref h3, .ref h2, g0_caseMany, g0_cases, g0_place, g0_numbers, g0_xs, g0_ys, g0_zs, g0_us, g0_vs, g0_ws, g0_touchTick, g0_touchHalf, .ref h1, .ref h4])), (h1, .inl (k1, 9, .inr (.inl c1))), (h2, .inl (k2, 4, .inl c2)), (h3, .inl (k3, 4, .inl c3)), (h4, .inl (k4, 81, .inr (.inl c4)))] := hD
        exact W.iret hx hb hr (fun t ht hW => ⟨⟨_, (), rfl, rfl, by rw [ht]; exact hP9, va_K.moved hW.alike hK, hD9⟩, hS.F ht⟩) hS.2.2 dX10_when_37
      · have hrun := oi_f hrun cc
        refine lv_iload_n hx hb dX10_when_24 rfl (lv_at hl 3 rfl) ?_
        refine lv_i2l (v := a3.toInt64) hx hb dX10_when_25 rfl ?_
        refine lv_lconst (v := (0 : Int64)) hx hb dX10_when_26 (by decide) ?_
        refine lv_ldc2 (v := (3 : Int64)) hx hb hown (hts (.constantLong RX10 162 (3 : Int64)) (by decide +kernel)) dX10_when_27 ?_
        obtain ⟨q30, hc30, hrun⟩ := ob_e hrun
        refine wz_csz (va_runS (As := [.long a3.toInt64, .long (0 : Int64), .long (3 : Int64)]) (rest := []) ⟨hx, hb, hml, hown, hts⟩ (tX10_in l dC dI N a3.toInt64 ((0 : Int64)) ((3 : Int64)) q30 hc30) (va_cwS 3 hts gX10_when_X10_in rfl rfl rfl (by decide +kernel) ⟨Nat.le_of_ble_eq_true rfl, Nat.le_of_ble_eq_true rfl⟩) (wz_pSr (hP.sub (ws' := []) [] rfl) (hK.sub (tys' := []) [] rfl)) rfl rfl hl.1 rfl (lv_room (Nat.le_of_ble_eq_true rfl)) dX10_when_30 ⟨Nat.zero_le _, Nat.zero_le _⟩) (fun hz30 => ?_)
        refine lv_if_ne (tgt := 38) hx hb dX10_when_33 (by decide) (fun cc => ?_) (fun cc => ?_)
        · have hrun := oi_t hrun cc
          refine lv_aload_n hx hb dX10_when_38 rfl (lv_at hl 0 rfl) ?_
          obtain ⟨q39, hc39, hrun⟩ := ob_e hrun
          refine wz_csz (va_runV (As := []) (rest := []) ⟨hx, hb, hml, hown, hts⟩ (tX10_areShares l dC dI h0 h3 k3 (g0_length) (g0_text) (g0_itemMany) (g0_items) (g0_balls) (g0_outs) (g0_sightMany) (g0_sights) (g0_keptMany) (g0_cameras) (g0_callMany) (g0_calls) (.ref h2) (g0_caseMany) (g0_cases) (g0_place) (g0_numbers) (g0_xs) (g0_ys) (g0_zs) (g0_us) (g0_vs) (g0_ws) (g0_touchTick) (g0_touchHalf) (.ref h1) (.ref h4) N c3 q39 hc39) (cwV 0 hts gX10_when_X10_areShares rfl rfl rfl (by decide +kernel) ⟨Nat.le_of_ble_eq_true rfl, Nat.le_of_ble_eq_true rfl⟩) (wz_pVr (hP.sub (ws' := [(h0, .inr (10, [g0_length, g0_text, g0_itemMany, g0_items, g0_balls, g0_outs, g0_sightMany, g0_sights, g0_keptMany, g0_cameras, g0_callMany, g0_calls, .ref h3, .ref h2, g0_caseMany, g0_cases, g0_place, g0_numbers, g0_xs, g0_ys, g0_zs, g0_us, g0_vs, g0_ws, g0_touchTick, g0_touchHalf, .ref h1, .ref h4])), (h3, .inl (k3, 4, .inl c3))]) [0, 3] rfl) (hK.sub (tys' := [(k3, .int)]) [2] rfl) (va_recv hK hP (ci := 10) (q0 := 0) rfl rfl)) rfl rfl hl.1 rfl (lv_room (Nat.le_of_ble_eq_true rfl)) dX10_when_39 ⟨Nat.zero_le _, Nat.zero_le _⟩) (fun hz39 => ?_)
          refine lv_if_ne (tgt := 48) hx hb dX10_when_42 (by decide) (fun cc => ?_) (fun cc => ?_)
          · have hrun := oi_t hrun cc
            refine lv_aload_n hx hb dX10_when_48 rfl (lv_at hl 0 rfl) ?_
            obtain ⟨q49, hc49, hrun⟩ := ob_e hrun
            refine wz_cqv (WC := [(h0, .inr (10, [g0_length, g0_text, g0_itemMany, g0_items, g0_balls, g0_outs, g0_sightMany, g0_sights, g0_keptMany, g0_cameras, g0_callMany, g0_calls, .ref h3, .ref h2, g0_caseMany, g0_cases, g0_place, g0_numbers, g0_xs, g0_ys, g0_zs, g0_us, g0_vs, g0_ws, g0_touchTick, g0_touchHalf, .ref h1, .ref h4])), (h1, .inl (k1, 9, .inr (.inl c1))), (h2, .inl (k2, 4, .inl c2)), (h3, .inl (k3, 4, .inl c3)), (h4, .inl (k4, 81, .inr (.inl c4)))]) (WR := []) (W1 := [(h0, .inr (10, [g0_length, g0_text, g0_itemMany, g0_items, g0_balls, g0_outs, g0_sightMany, g0_sights, g0_keptMany, g0_cameras, g0_callMany, g0_calls, .ref h3, .ref h2, g0_caseMany, g0_cases, g0_place, g0_numbers, g0_xs, g0_ys, g0_zs, g0_us, g0_vs, g0_ws, g0_touchTick, g0_touchHalf, .ref h1, .ref h4])), (h1, .inl (k1, 9, .inr (.inl q49.1))), (h2, .inl (k2, 4, .inl c2)), (h3, .inl (k3, 4, .inl c3)), (h4, .inl (k4, 81, .inr (.inl q49.2)))]) (va_runV (As := []) (rest := []) ⟨hx, hb, hml, hown, hts⟩ (tX10_layWorths l dC dI H.size h0 h1 h2 h3 h4 k1 k2 k3 k4 (g0_length) (g0_text) (g0_itemMany) (g0_items) (g0_balls) (g0_outs) (g0_sightMany) (g0_sights) (g0_keptMany) (g0_cameras) (g0_callMany) (g0_calls) (g0_caseMany) (g0_cases) (g0_place) (g0_numbers) (g0_xs) (g0_ys) (g0_zs) (g0_us) (g0_vs) (g0_ws) (g0_touchTick) (g0_touchHalf) N c1 c2 c3 c4 q49 hc49) (cwV 0 hts gX10_when_X10_layWorths rfl rfl rfl (by decide +kernel) ⟨Nat.le_of_ble_eq_true rfl, Nat.le_of_ble_eq_true rfl⟩) (wz_pVw (hP.sub (ws' := [(h0, .inr (10, [g0_length, g0_text, g0_itemMany, g0_items, g0_balls, g0_outs, g0_sightMany, g0_sights, g0_keptMany, g0_cameras, g0_callMany, g0_calls, .ref h3, .ref h2, g0_caseMany, g0_cases, g0_place, g0_numbers, g0_xs, g0_ys, g0_zs, g0_us, g0_vs, g0_ws, g0_touchTick, g0_touchHalf, .ref h1, .ref h4])), (h1, .inl (k1, 9, .inr (.inl c1))), (h2, .inl (k2, 4, .inl c2)), (h3, .inl (k3, 4, .inl c3)), (h4, .inl (k4, 81, .inr (.inl c4)))]) [0, 1, 2, 3, 4] rfl) (hK.sub (tys' := [(k1, .long), (k2, .int), (k3, .int), (k4, .long)]) [0, 1, 2, 3] rfl) (hD.sub (ws' := [(h0, .inr (10, [g0_length, g0_text, g0_itemMany, g0_items, g0_balls, g0_outs, g0_sightMany, g0_sights, g0_keptMany, g0_cameras, g0_callMany, g0_calls, .ref h3, .ref h2, g0_caseMany, g0_cases, g0_place, g0_numbers, g0_xs, g0_ys, g0_zs, g0_us, g0_vs, g0_ws, g0_touchTick, g0_touchHalf, .ref h1, .ref h4])), (h1, .inl (k1, 9, .inr (.inl c1))), (h2, .inl (k2, 4, .inl c2)), (h3, .inl (k3, 4, .inl c3)), (h4, .inl (k4, 81, .inr (.inl c4)))]) [0, 1, 2, 3, 4] (by decide) rfl) (va_recv hK hP (ci := 10) (q0 := 0) rfl rfl)) rfl rfl hl.1 rfl (lv_room (Nat.le_of_ble_eq_true rfl)) dX10_when_49 ⟨Nat.zero_le _, Nat.zero_le _⟩) hP hD hS hA [0, 1, 2, 3, 4] [] rfl rfl (by decide) (by decide) (fun H locs hP hD hS => ?_)
            have hP : va_P (dC, dI) vwCl [(h0, .inr (10, [g0_length, g0_text, g0_itemMany, g0_items, g0_balls, g0_outs, g0_sightMany, g0_sights, g0_keptMany, g0_cameras, g0_callMany, g0_calls, .ref h3, .ref h2, g0_caseMany, g0_cases, g0_place, g0_numbers, g0_xs, g0_ys, g0_zs, g0_us, g0_vs, g0_ws, g0_touchTick, g0_touchHalf, .ref h1, .ref h4])), (h1, .inl (k1, 9, .inr (.inl q49.1))), (h2, .inl (k2, 4, .inl c2)), (h3, .inl (k3, 4, .inl c3)), (h4, .inl (k4, 81, .inr (.inl q49.2)))] H := hP
            have hD : va_D A [(h0, .inr (10, [g0_length, g0_text, g0_itemMany, g0_items, g0_balls, g0_outs, g0_sightMany, g0_sights, g0_keptMany, g0_cameras, g0_callMany, g0_calls, .ref h3, .ref h2, g0_caseMany, g0_cases, g0_place, g0_numbers, g0_xs, g0_ys, g0_zs, g0_us, g0_vs, g0_ws, g0_touchTick, g0_touchHalf, .ref h1, .ref h4])), (h1, .inl (k1, 9, .inr (.inl q49.1))), (h2, .inl (k2, 4, .inl c2)), (h3, .inl (k3, 4, .inl c3)), (h4, .inl (k4, 81, .inr (.inl q49.2)))] := hD
            refine lv_iload_n hx hb dX10_when_52 rfl (lv_at hl 2 rfl) ?_
            refine lv_if_le (tgt := 86) hx hb dX10_when_53 (by decide) (fun cc => ?_) (fun cc => ?_)
            · have hrun := oi_t hrun cc
              refine lv_iconst (v := (0 : Int32)) hx hb dX10_when_86 (by decide) ?_
              cases hrun
              have hP9 : va_P (dC, dI) vwCl [(h0, .inr (10, [g0_length, g0_text, g0_itemMany, g0_items, g0_balls, g0_outs, g0_sightMany, g0_sights, g0_keptMany, g0_cameras, g0_callMany, g0_calls, .ref h3, .ref h2, g0_caseMany, g0_cases, g0_place, g0_numbers, g0_xs, g0_ys, g0_zs, g0_us, g0_vs, g0_ws, g0_touchTick, g0_touchHalf, .ref h1, .ref h4])), (h1, .inl (k1, 9, .inr (.inl q49.1))), (h2, .inl (k2, 4, .inl c2)), (h3, .inl (k3, 4, .inl c3)), (h4, .inl (k4, 81, .inr (.inl q49.2)))] H := hP
              have hD9 : va_D A [(h0, .inr (10, [g0_length, g0_text, g0_itemMany, g0_items, g0_balls, g0_outs, g0_sightMany, g0_sights, g0_keptMany, g0_cameras, g0_callMany, g0_calls, .ref h3, .ref h2, g0_caseMany, g0_cases, g0_place, g0_numbers, g0_xs, g0_ys, g0_zs, g0_us, g0_vs, g0_ws, g0_touchTick, g0_touchHalf, .ref h1, .ref h4])), (h1, .inl (k1, 9, .inr (.inl q49.1))), (h2, .inl (k2, 4, .inl c2)), (h3, .inl (k3, 4, .inl c3)), (h4, .inl (k4, 81, .inr (.inl q49.2)))] := hD
              exact W.iret hx hb hr (fun t ht hW => ⟨⟨_, (), rfl, rfl, by rw [ht]; exact hP9, va_K.moved hW.alike hK, hD9⟩, hS.F ht⟩) hS.2.2 dX10_when_87
            · have hrun := oi_f hrun cc
              refine lv_aload_n hx hb dX10_when_56 rfl (lv_at hl 0 rfl) ?_
              refine lv_iload_n hx hb dX10_when_57 rfl (lv_at hl 1 rfl) ?_
              refine lv_iload_n hx hb dX10_when_58 rfl (lv_at hl 2 rfl) ?_
              refine lv_iload_n hx hb dX10_when_59 rfl (lv_at hl 3 rfl) ?_
              obtain ⟨q60, hc60, hrun⟩ := ob_e hrun
              refine wz_csl (va_runV (As := [.int a1, .int a2, .int a3]) (rest := []) ⟨hx, hb, hml, hown, hts⟩ (tX10_asked l dC dI h0 h1 h2 h4 k1 k2 k4 (g0_length) (g0_text) (g0_itemMany) (g0_items) (g0_balls) (g0_outs) (g0_sightMany) (g0_sights) (g0_keptMany) (g0_cameras) (g0_callMany) (g0_calls) (.ref h3) (g0_caseMany) (g0_cases) (g0_place) (g0_numbers) (g0_xs) (g0_ys) (g0_zs) (g0_us) (g0_vs) (g0_ws) (g0_touchTick) (g0_touchHalf) N a1 a2 a3 q49.1 c2 q49.2 q60 hc60) (cwV 3 hts gX10_when_X10_asked rfl rfl rfl (by decide +kernel) ⟨Nat.le_of_ble_eq_true rfl, Nat.le_of_ble_eq_true rfl⟩) (wz_pVr (hP.sub (ws' := [(h0, .inr (10, [g0_length, g0_text, g0_itemMany, g0_items, g0_balls, g0_outs, g0_sightMany, g0_sights, g0_keptMany, g0_cameras, g0_callMany, g0_calls, .ref h3, .ref h2, g0_caseMany, g0_cases, g0_place, g0_numbers, g0_xs, g0_ys, g0_zs, g0_us, g0_vs, g0_ws, g0_touchTick, g0_touchHalf, .ref h1, .ref h4])), (h1, .inl (k1, 9, .inr (.inl q49.1))), (h2, .inl (k2, 4, .inl c2)), (h4, .inl (k4, 81, .inr (.inl q49.2)))]) [0, 1, 2, 4] rfl) (hK.sub (tys' := [(k1, .long), (k2, .int), (k4, .long)]) [0, 1, 3] rfl) (va_recv hK hP (ci := 10) (q0 := 0) rfl rfl)) rfl rfl hl.1 rfl (lv_room (Nat.le_of_ble_eq_true rfl)) dX10_when_60 ⟨Nat.zero_le _, Nat.zero_le _⟩) ?_
              refine lv_ldc2 (v := (10 : Int64)) hx hb hown (hts (.constantLong RX10 168 (10 : Int64)) (by decide +kernel)) dX10_when_63 ?_
              refine lv_aload_n hx hb dX10_when_66 rfl (lv_at hl 0 rfl) ?_
              refine va_get (D := (dC, dI)) (ci := 10) (v := .ref h4) (C := RX10) (T := TX10) (N := 28) hx hb hts hinX10 hown hK hP 0 rfl rfl 27 (by decide) (hts (.fieldLink RX10 71 "WasItOutModel" "worths" "[J") (by decide +kernel)) (fun _ h9 => h9) rfl dX10_when_67 ?_
              refine lv_bipush (v := (9 : Int32)) hx hb dX10_when_70 (by decide) ?_
              refine lv_iload_n hx hb dX10_when_72 rfl (lv_at hl 1 rfl) ?_
              refine lv_imul hx hb dX10_when_73 ?_
              refine lv_iload_n hx hb dX10_when_74 rfl (lv_at hl 2 rfl) ?_
              refine lv_iadd hx hb dX10_when_75 ?_
              obtain ⟨hi, hrun⟩ := oi_x hrun
              refine va_lald hx hb hK hP 4 3 rfl rfl hi dX10_when_76 ?_
              refine lv_lmul hx hb dX10_when_77 ?_
              refine W.lcmp hx hb dX10_when_78 ?_
              refine lv_if_le (tgt := 86) hx hb dX10_when_79 (by decide) (fun cc => ?_) (fun cc => ?_)
              · have hrun := oi_t hrun cc
                refine lv_iconst (v := (0 : Int32)) hx hb dX10_when_86 (by decide) ?_
                cases hrun
                have hP9 : va_P (dC, dI) vwCl [(h0, .inr (10, [g0_length, g0_text, g0_itemMany, g0_items, g0_balls, g0_outs, g0_sightMany, g0_sights, g0_keptMany, g0_cameras, g0_callMany, g0_calls, .ref h3, .ref h2, g0_caseMany, g0_cases, g0_place, g0_numbers, g0_xs, g0_ys, g0_zs, g0_us, g0_vs, g0_ws, g0_touchTick, g0_touchHalf, .ref h1, .ref h4])), (h1, .inl (k1, 9, .inr (.inl q49.1))), (h2, .inl (k2, 4, .inl c2)), (h3, .inl (k3, 4, .inl c3)), (h4, .inl (k4, 81, .inr (.inl q49.2)))] H := hP
                have hD9 : va_D A [(h0, .inr (10, [g0_length, g0_text, g0_itemMany, g0_items, g0_balls, g0_outs, g0_sightMany, g0_sights, g0_keptMany, g0_cameras, g0_callMany, g0_calls, .ref h3, .ref h2, g0_caseMany, g0_cases, g0_place, g0_numbers, g0_xs, g0_ys, g0_zs, g0_us, g0_vs, g0_ws, g0_touchTick, g0_touchHalf, .ref h1, .ref h4])), (h1, .inl (k1, 9, .inr (.inl q49.1))), (h2, .inl (k2, 4, .inl c2)), (h3, .inl (k3, 4, .inl c3)), (h4, .inl (k4, 81, .inr (.inl q49.2)))] := hD
                exact W.iret hx hb hr (fun t ht hW => ⟨⟨_, (), rfl, rfl, by rw [ht]; exact hP9, va_K.moved hW.alike hK, hD9⟩, hS.F ht⟩) hS.2.2 dX10_when_87
              · have hrun := oi_f hrun cc
                refine lv_iconst (v := (1 : Int32)) hx hb dX10_when_82 (by decide) ?_
                refine lv_goto (tgt := 87) hx hb dX10_when_83 (by decide) ?_
                cases hrun
                have hP9 : va_P (dC, dI) vwCl [(h0, .inr (10, [g0_length, g0_text, g0_itemMany, g0_items, g0_balls, g0_outs, g0_sightMany, g0_sights, g0_keptMany, g0_cameras, g0_callMany, g0_calls, .ref h3, .ref h2, g0_caseMany, g0_cases, g0_place, g0_numbers, g0_xs, g0_ys, g0_zs, g0_us, g0_vs, g0_ws, g0_touchTick, g0_touchHalf, .ref h1, .ref h4])), (h1, .inl (k1, 9, .inr (.inl q49.1))), (h2, .inl (k2, 4, .inl c2)), (h3, .inl (k3, 4, .inl c3)), (h4, .inl (k4, 81, .inr (.inl q49.2)))] H := hP
                have hD9 : va_D A [(h0, .inr (10, [g0_length, g0_text, g0_itemMany, g0_items, g0_balls, g0_outs, g0_sightMany, g0_sights, g0_keptMany, g0_cameras, g0_callMany, g0_calls, .ref h3, .ref h2, g0_caseMany, g0_cases, g0_place, g0_numbers, g0_xs, g0_ys, g0_zs, g0_us, g0_vs, g0_ws, g0_touchTick, g0_touchHalf, .ref h1, .ref h4])), (h1, .inl (k1, 9, .inr (.inl q49.1))), (h2, .inl (k2, 4, .inl c2)), (h3, .inl (k3, 4, .inl c3)), (h4, .inl (k4, 81, .inr (.inl q49.2)))] := hD
                exact W.iret hx hb hr (fun t ht hW => ⟨⟨_, (), rfl, rfl, by rw [ht]; exact hP9, va_K.moved hW.alike hK, hD9⟩, hS.F ht⟩) hS.2.2 dX10_when_87
          · have hrun := oi_n hrun cc
            refine lv_bipush (v := (-2 : Int32)) hx hb dX10_when_45 (by decide) ?_
            cases hrun
            have hP9 : va_P (dC, dI) vwCl [(h0, .inr (10, [g0_length, g0_text, g0_itemMany, g0_items, g0_balls, g0_outs, g0_sightMany, g0_sights, g0_keptMany, g0_cameras, g0_callMany, g0_calls, .ref h3, .ref h2, g0_caseMany, g0_cases, g0_place, g0_numbers, g0_xs, g0_ys, g0_zs, g0_us, g0_vs, g0_ws, g0_touchTick, g0_touchHalf, .ref h1, .ref h4])), (h1, .inl (k1, 9, .inr (.inl c1))), (h2, .inl (k2, 4, .inl c2)), (h3, .inl (k3, 4, .inl c3)), (h4, .inl (k4, 81, .inr (.inl c4)))] H := hP
            have hD9 : va_D A [(h0, .inr (10, [g0_length, g0_text, g0_itemMany, g0_items, g0_balls, g0_outs, g0_sightMany, g0_sights, g0_keptMany, g0_cameras, g0_callMany, g0_calls, .ref h3, .ref h2, g0_caseMany, g0_cases, g0_place, g0_numbers, g0_xs, g0_ys, g0_zs, g0_us, g0_vs, g0_ws, g0_touchTick, g0_touchHalf, .ref h1, .ref h4])), (h1, .inl (k1, 9, .inr (.inl c1))), (h2, .inl (k2, 4, .inl c2)), (h3, .inl (k3, 4, .inl c3)), (h4, .inl (k4, 81, .inr (.inl c4)))] := hD
            exact W.iret hx hb hr (fun t ht hW => ⟨⟨_, (), rfl, rfl, by rw [ht]; exact hP9, va_K.moved hW.alike hK, hD9⟩, hS.F ht⟩) hS.2.2 dX10_when_47
        · have hrun := oi_n hrun cc
          refine lv_iconst (v := (-1 : Int32)) hx hb dX10_when_36 (by decide) ?_
          cases hrun
          have hP9 : va_P (dC, dI) vwCl [(h0, .inr (10, [g0_length, g0_text, g0_itemMany, g0_items, g0_balls, g0_outs, g0_sightMany, g0_sights, g0_keptMany, g0_cameras, g0_callMany, g0_calls, .ref h3, .ref h2, g0_caseMany, g0_cases, g0_place, g0_numbers, g0_xs, g0_ys, g0_zs, g0_us, g0_vs, g0_ws, g0_touchTick, g0_touchHalf, .ref h1, .ref h4])), (h1, .inl (k1, 9, .inr (.inl c1))), (h2, .inl (k2, 4, .inl c2)), (h3, .inl (k3, 4, .inl c3)), (h4, .inl (k4, 81, .inr (.inl c4)))] H := hP
          have hD9 : va_D A [(h0, .inr (10, [g0_length, g0_text, g0_itemMany, g0_items, g0_balls, g0_outs, g0_sightMany, g0_sights, g0_keptMany, g0_cameras, g0_callMany, g0_calls, .ref h3, .ref h2, g0_caseMany, g0_cases, g0_place, g0_numbers, g0_xs, g0_ys, g0_zs, g0_us, g0_vs, g0_ws, g0_touchTick, g0_touchHalf, .ref h1, .ref h4])), (h1, .inl (k1, 9, .inr (.inl c1))), (h2, .inl (k2, 4, .inl c2)), (h3, .inl (k3, 4, .inl c3)), (h4, .inl (k4, 81, .inr (.inl c4)))] := hD
          exact W.iret hx hb hr (fun t ht hW => ⟨⟨_, (), rfl, rfl, by rw [ht]; exact hP9, va_K.moved hW.alike hK, hD9⟩, hS.F ht⟩) hS.2.2 dX10_when_37
  rw [hHe, hLe] at key
  exact key
set_option maxHeartbeats 4000000 in
set_option maxRecDepth 100000 in
theorem tX10_worth (l : Launch) (dC : Nat → ClassId) (dI : Nat → Nat → Nat) (sz : Nat) (h0 h1 h2 h3 h4 : Nat) (k1 k2 k3 k4 : ClassId) (g0_length g0_text g0_itemMany g0_items g0_balls g0_outs g0_sightMany g0_sights g0_keptMany g0_cameras g0_callMany g0_calls g0_caseMany g0_cases g0_place g0_numbers g0_xs g0_ys g0_zs g0_us g0_vs g0_ws g0_touchTick g0_touchHalf : Value) (N : Nat) (a1 : Int32) (a2 : Int32) (a3 : Int32) (c1 : Nat → Int64) (c2 : Nat → Int32) (c3 : Nat → Int32) (c4 : Nat → Int64) (ru : Int64 × (Nat → Int64) × (Nat → Int64)) (hm : fX10_worth N a1 a2 a3 c1 c2 c3 c4 = some ru) : Met l yX10_worth wsX10_worth ({ frames := 2, cells := 0, slots := 0, locals := 52 } : Room) (va_Pc [.ref h0, .int a1, .int a2, .int a3] (fun U => U.heap.size = sz ∧ va_P (dC, dI) vwCl [(h0, .inr (10, [g0_length, g0_text, g0_itemMany, g0_items, g0_balls, g0_outs, g0_sightMany, g0_sights, g0_keptMany, g0_cameras, g0_callMany, g0_calls, .ref h3, .ref h2, g0_caseMany, g0_cases, g0_place, g0_numbers, g0_xs, g0_ys, g0_zs, g0_us, g0_vs, g0_ws, g0_touchTick, g0_touchHalf, .ref h1, .ref h4])), (h1, .inl (k1, 9, .inr (.inl c1))), (h2, .inl (k2, 4, .inl c2)), (h3, .inl (k3, 4, .inl c3)), (h4, .inl (k4, 81, .inr (.inl c4)))] U.heap ∧ va_K (dC, dI) vwCl [(k1, .long), (k2, .int), (k3, .int), (k4, .long)] U ∧ va_D (fun _ => True) [(h0, .inr (10, [g0_length, g0_text, g0_itemMany, g0_items, g0_balls, g0_outs, g0_sightMany, g0_sights, g0_keptMany, g0_cameras, g0_callMany, g0_calls, .ref h3, .ref h2, g0_caseMany, g0_cases, g0_place, g0_numbers, g0_xs, g0_ys, g0_zs, g0_us, g0_vs, g0_ws, g0_touchTick, g0_touchHalf, .ref h1, .ref h4])), (h1, .inl (k1, 9, .inr (.inl c1))), (h2, .inl (k2, 4, .inl c2)), (h3, .inl (k3, 4, .inl c3)), (h4, .inl (k4, 81, .inr (.inl c4)))])) (va_Ql (fun r (_ : Unit) => r = ru.1) (fun (_ : Unit) t => va_P (dC, dI) vwCl [(h0, .inr (10, [g0_length, g0_text, g0_itemMany, g0_items, g0_balls, g0_outs, g0_sightMany, g0_sights, g0_keptMany, g0_cameras, g0_callMany, g0_calls, .ref h3, .ref h2, g0_caseMany, g0_cases, g0_place, g0_numbers, g0_xs, g0_ys, g0_zs, g0_us, g0_vs, g0_ws, g0_touchTick, g0_touchHalf, .ref h1, .ref h4])), (h1, .inl (k1, 9, .inr (.inl ru.2.1))), (h2, .inl (k2, 4, .inl c2)), (h3, .inl (k3, 4, .inl c3)), (h4, .inl (k4, 81, .inr (.inl ru.2.2)))] t.heap ∧ va_K (dC, dI) vwCl [(k1, .long), (k2, .int), (k3, .int), (k4, .long)] t ∧ va_D (va_A [(h0, .inr (10, [g0_length, g0_text, g0_itemMany, g0_items, g0_balls, g0_outs, g0_sightMany, g0_sights, g0_keptMany, g0_cameras, g0_callMany, g0_calls, .ref h3, .ref h2, g0_caseMany, g0_cases, g0_place, g0_numbers, g0_xs, g0_ys, g0_zs, g0_us, g0_vs, g0_ws, g0_touchTick, g0_touchHalf, .ref h1, .ref h4])), (h1, .inl (k1, 9, .inr (.inl c1))), (h2, .inl (k2, 4, .inl c2)), (h3, .inl (k3, 4, .inl c3)), (h4, .inl (k4, 81, .inr (.inl c4)))] sz) [(h0, .inr (10, [g0_length, g0_text, g0_itemMany, g0_items, g0_balls, g0_outs, g0_sightMany, g0_sights, g0_keptMany, g0_cameras, g0_callMany, g0_calls, .ref h3, .ref h2, g0_caseMany, g0_cases, g0_place, g0_numbers, g0_xs, g0_ys, g0_zs, g0_us, g0_vs, g0_ws, g0_touchTick, g0_touchHalf, .ref h1, .ref h4])), (h1, .inl (k1, 9, .inr (.inl ru.2.1))), (h2, .inl (k2, 4, .inl c2)), (h3, .inl (k3, 4, .inl c3)), (h4, .inl (k4, 81, .inr (.inl ru.2.2)))]) (va_A [(h0, .inr (10, [g0_length, g0_text, g0_itemMany, g0_items, g0_balls, g0_outs, g0_sightMany, g0_sights, g0_keptMany, g0_cameras, g0_callMany, g0_calls, .ref h3, .ref h2, g0_caseMany, g0_cases, g0_place, g0_numbers, g0_xs, g0_ys, g0_zs, g0_us, g0_vs, g0_ws, g0_touchTick, g0_touchHalf, .ref h1, .ref h4])), (h1, .inl (k1, 9, .inr (.inl c1))), (h2, .inl (k2, 4, .inl c2)), (h3, .inl (k3, 4, .inl c3)), (h4, .inl (k4, 81, .inr (.inl c4)))] sz)) 0 0 (va_A [(h0, .inr (10, [g0_length, g0_text, g0_itemMany, g0_items, g0_balls, g0_outs, g0_sightMany, g0_sights, g0_keptMany, g0_cameras, g0_callMany, g0_calls, .ref h3, .ref h2, g0_caseMany, g0_cases, g0_place, g0_numbers, g0_xs, g0_ys, g0_zs, g0_us, g0_vs, g0_ws, g0_touchTick, g0_touchHalf, .ref h1, .ref h4])), (h1, .inl (k1, 9, .inr (.inl c1))), (h2, .inl (k2, 4, .inl c2)), (h3, .inl (k3, 4, .inl c3)), (h4, .inl (k4, 81, .inr (.inl c4)))] sz) := by
  refine Met.ofW (cc := cX10_worth) (maxL := 6) (ret := (some .long)) (by decide) rfl ?_
  intro p e s m args below meth c s₁ B hml hv
  obtain ⟨rfl, hsz, hP, hK, hD0⟩ := hv
  have hx := B.exec
  have hb := B.bytes
  have hr := B.returns
  have hts := atoms_spec (ws := wsX10_worth) B.pre
  have hown : s.vm.findClass RX10 = some m.cls := findClass_of_methodNamed B.named
  have hlocks := B.notSynchronized
  subst hsz
  have hD := hD0.self (sz := s.heap.size)
  generalize hAe : va_A [(h0, .inr (10, [g0_length, g0_text, g0_itemMany, g0_items, g0_balls, g0_outs, g0_sightMany, g0_sights, g0_keptMany, g0_cameras, g0_callMany, g0_calls, .ref h3, .ref h2, g0_caseMany, g0_cases, g0_place, g0_numbers, g0_xs, g0_ys, g0_zs, g0_us, g0_vs, g0_ws, g0_touchTick, g0_touchHalf, .ref h1, .ref h4])), (h1, .inl (k1, 9, .inr (.inl c1))), (h2, .inl (k2, 4, .inl c2)), (h3, .inl (k3, 4, .inl c3)), (h4, .inl (k4, 81, .inr (.inl c4)))] s.heap.size = A at hD ⊢
  have hA : ∀ q : Nat, s.heap.size ≤ q → A q := fun q h => by rw [← hAe]; exact Or.inr h
  have hS : va_S A s.heap s.heap [] := va_S.rf
  have hinX10 : ∀ w ∈ wsX100, w ∈ wsX10_worth := by decide +kernel
  have hl := lv_entry ([.ref h0, .int a1, .int a2, .int a3]) (n := 6) (Nat.le_of_ble_eq_true rfl)
  rw [lg_entry_eq]
  generalize (lg_sl ([.ref h0, .int a1, .int a2, .int a3]) ++ List.replicate (6 - (lg_sl ([.ref h0, .int a1, .int a2, .int a3])).length) Slot.unset).toArray = ls at hl ⊢
  have hl : lv_has ls 6 [(0, .ref h0), (1, .int a1), (2, .int a2), (3, .int a3)] := hl
  have hrun := hm
  rw [fX10_worth] at hrun
  obtain ⟨H, hHe⟩ : ∃ H, H = s.heap := ⟨_, rfl⟩
  obtain ⟨locs, hLe⟩ : ∃ locs : List Loc, locs = [] := ⟨_, rfl⟩
  rw [← hHe] at hP
  have hS : va_S A s.heap H locs := by rw [hHe, hLe]; exact hS
  have key : W p l e (headSpec wsX10_worth ({ frames := 2, cells := 0, slots := 0, locals := 52 } : Room)).room s m ([.ref h0, .int a1, .int a2, .int a3] : List Value).toArray below meth c H locs 0 0 (MQ below (va_Ql (fun r (_ : Unit) => r = ru.1) (fun (_ : Unit) t => va_P (dC, dI) vwCl [(h0, .inr (10, [g0_length, g0_text, g0_itemMany, g0_items, g0_balls, g0_outs, g0_sightMany, g0_sights, g0_keptMany, g0_cameras, g0_callMany, g0_calls, .ref h3, .ref h2, g0_caseMany, g0_cases, g0_place, g0_numbers, g0_xs, g0_ys, g0_zs, g0_us, g0_vs, g0_ws, g0_touchTick, g0_touchHalf, .ref h1, .ref h4])), (h1, .inl (k1, 9, .inr (.inl ru.2.1))), (h2, .inl (k2, 4, .inl c2)), (h3, .inl (k3, 4, .inl c3)), (h4, .inl (k4, 81, .inr (.inl ru.2.2)))] t.heap ∧ va_K (dC, dI) vwCl [(k1, .long), (k2, .int), (k3, .int), (k4, .long)] t ∧ va_D A [(h0, .inr (10, [g0_length, g0_text, g0_itemMany, g0_items, g0_balls, g0_outs, g0_sightMany, g0_sights, g0_keptMany, g0_cameras, g0_callMany, g0_calls, .ref h3, .ref h2, g0_caseMany, g0_cases, g0_place, g0_numbers, g0_xs, g0_ys, g0_zs, g0_us, g0_vs, g0_ws, g0_touchTick, g0_touchHalf, .ref h1, .ref h4])), (h1, .inl (k1, 9, .inr (.inl ru.2.1))), (h2, .inl (k2, 4, .inl c2)), (h3, .inl (k3, 4, .inl c3)), (h4, .inl (k4, 81, .inr (.inl ru.2.2)))]) A) ([.ref h0, .int a1, .int a2, .int a3] : List Value).toArray s 0 0 A) (F0 m 0 ls []) := by
    clear hHe hLe
    refine lv_iload_n hx hb dX10_worth_0 rfl (lv_at hl 1 rfl) ?_
    refine lv_i2l (v := a1.toInt64) hx hb dX10_worth_1 rfl ?_
    refine lv_lconst (v := (0 : Int64)) hx hb dX10_worth_2 (by decide) ?_
    refine lv_ldc2 (v := (8 : Int64)) hx hb hown (hts (.constantLong RX10 74 (8 : Int64)) (by decide +kernel)) dX10_worth_3 ?_
    obtain ⟨q6, hc6, hrun⟩ := ob_e hrun
    refine wz_csz (va_runS (As := [.long a1.toInt64, .long (0 : Int64), .long (8 : Int64)]) (rest := []) ⟨hx, hb, hml, hown, hts⟩ (tX10_in l dC dI N a1.toInt64 ((0 : Int64)) ((8 : Int64)) q6 hc6) (va_cwS 3 hts gX10_worth_X10_in rfl rfl rfl (by decide +kernel) ⟨Nat.le_of_ble_eq_true rfl, Nat.le_of_ble_eq_true rfl⟩) (wz_pSr (hP.sub (ws' := []) [] rfl) (hK.sub (tys' := []) [] rfl)) rfl rfl hl.1 rfl (lv_room (Nat.le_of_ble_eq_true rfl)) dX10_worth_6 ⟨Nat.zero_le _, Nat.zero_le _⟩) (fun hz6 => ?_)
    refine lv_if_eq (tgt := 34) hx hb dX10_worth_9 (by decide) (fun cc => ?_) (fun cc => ?_)
    · have hrun := oi_t hrun cc
      refine lv_ldc2 (v := (-1 : Int64)) hx hb hown (hts (.constantLong RX10 199 (-1 : Int64)) (by decide +kernel)) dX10_worth_34 ?_
      cases hrun
      have hP9 : va_P (dC, dI) vwCl [(h0, .inr (10, [g0_length, g0_text, g0_itemMany, g0_items, g0_balls, g0_outs, g0_sightMany, g0_sights, g0_keptMany, g0_cameras, g0_callMany, g0_calls, .ref h3, .ref h2, g0_caseMany, g0_cases, g0_place, g0_numbers, g0_xs, g0_ys, g0_zs, g0_us, g0_vs, g0_ws, g0_touchTick, g0_touchHalf, .ref h1, .ref h4])), (h1, .inl (k1, 9, .inr (.inl c1))), (h2, .inl (k2, 4, .inl c2)), (h3, .inl (k3, 4, .inl c3)), (h4, .inl (k4, 81, .inr (.inl c4)))] H := hP
      have hD9 : va_D A [(h0, .inr (10, [g0_length, g0_text, g0_itemMany, g0_items, g0_balls, g0_outs, g0_sightMany, g0_sights, g0_keptMany, g0_cameras, g0_callMany, g0_calls, .ref h3, .ref h2, g0_caseMany, g0_cases, g0_place, g0_numbers, g0_xs, g0_ys, g0_zs, g0_us, g0_vs, g0_ws, g0_touchTick, g0_touchHalf, .ref h1, .ref h4])), (h1, .inl (k1, 9, .inr (.inl c1))), (h2, .inl (k2, 4, .inl c2)), (h3, .inl (k3, 4, .inl c3)), (h4, .inl (k4, 81, .inr (.inl c4)))] := hD
      exact W.lret hx hb hr (fun t ht hW => ⟨⟨_, (), rfl, rfl, by rw [ht]; exact hP9, va_K.moved hW.alike hK, hD9⟩, hS.F ht⟩) hS.2.2 dX10_worth_37
    · have hrun := oi_f hrun cc
      refine lv_iload_n hx hb dX10_worth_12 rfl (lv_at hl 2 rfl) ?_
      refine lv_i2l (v := a2.toInt64) hx hb dX10_worth_13 rfl ?_
      refine lv_lconst (v := (0 : Int64)) hx hb dX10_worth_14 (by decide) ?_
      refine lv_ldc2 (v := (8 : Int64)) hx hb hown (hts (.constantLong RX10 74 (8 : Int64)) (by decide +kernel)) dX10_worth_15 ?_
      obtain ⟨q18, hc18, hrun⟩ := ob_e hrun
      refine wz_csz (va_runS (As := [.long a2.toInt64, .long (0 : Int64), .long (8 : Int64)]) (rest := []) ⟨hx, hb, hml, hown, hts⟩ (tX10_in l dC dI N a2.toInt64 ((0 : Int64)) ((8 : Int64)) q18 hc18) (va_cwS 3 hts gX10_worth_X10_in rfl rfl rfl (by decide +kernel) ⟨Nat.le_of_ble_eq_true rfl, Nat.le_of_ble_eq_true rfl⟩) (wz_pSr (hP.sub (ws' := []) [] rfl) (hK.sub (tys' := []) [] rfl)) rfl rfl hl.1 rfl (lv_room (Nat.le_of_ble_eq_true rfl)) dX10_worth_18 ⟨Nat.zero_le _, Nat.zero_le _⟩) (fun hz18 => ?_)
      refine lv_if_eq (tgt := 34) hx hb dX10_worth_21 (by decide) (fun cc => ?_) (fun cc => ?_)
      · have hrun := oi_t hrun cc
        refine lv_ldc2 (v := (-1 : Int64)) hx hb hown (hts (.constantLong RX10 199 (-1 : Int64)) (by decide +kernel)) dX10_worth_34 ?_
        cases hrun
        have hP9 : va_P (dC, dI) vwCl [(h0, .inr (10, [g0_length, g0_text, g0_itemMany, g0_items, g0_balls, g0_outs, g0_sightMany, g0_sights, g0_keptMany, g0_cameras, g0_callMany, g0_calls, .ref h3, .ref h2, g0_caseMany, g0_cases, g0_place, g0_numbers, g0_xs, g0_ys, g0_zs, g0_us, g0_vs, g0_ws, g0_touchTick, g0_touchHalf, .ref h1, .ref h4])), (h1, .inl (k1, 9, .inr (.inl c1))), (h2, .inl (k2, 4, .inl c2)), (h3, .inl (k3, 4, .inl c3)), (h4, .inl (k4, 81, .inr (.inl c4)))] H := hP
        have hD9 : va_D A [(h0, .inr (10, [g0_length, g0_text, g0_itemMany, g0_items, g0_balls, g0_outs, g0_sightMany, g0_sights, g0_keptMany, g0_cameras, g0_callMany, g0_calls, .ref h3, .ref h2, g0_caseMany, g0_cases, g0_place, g0_numbers, g0_xs, g0_ys, g0_zs, g0_us, g0_vs, g0_ws, g0_touchTick, g0_touchHalf, .ref h1, .ref h4])), (h1, .inl (k1, 9, .inr (.inl c1))), (h2, .inl (k2, 4, .inl c2)), (h3, .inl (k3, 4, .inl c3)), (h4, .inl (k4, 81, .inr (.inl c4)))] := hD
        exact W.lret hx hb hr (fun t ht hW => ⟨⟨_, (), rfl, rfl, by rw [ht]; exact hP9, va_K.moved hW.alike hK, hD9⟩, hS.F ht⟩) hS.2.2 dX10_worth_37
      · have hrun := oi_f hrun cc
        refine lv_iload_n hx hb dX10_worth_24 rfl (lv_at hl 3 rfl) ?_
        refine lv_i2l (v := a3.toInt64) hx hb dX10_worth_25 rfl ?_
        refine lv_lconst (v := (0 : Int64)) hx hb dX10_worth_26 (by decide) ?_
        refine lv_lconst (v := (1 : Int64)) hx hb dX10_worth_27 (by decide) ?_
        obtain ⟨q28, hc28, hrun⟩ := ob_e hrun
        refine wz_csz (va_runS (As := [.long a3.toInt64, .long (0 : Int64), .long (1 : Int64)]) (rest := []) ⟨hx, hb, hml, hown, hts⟩ (tX10_in l dC dI N a3.toInt64 ((0 : Int64)) ((1 : Int64)) q28 hc28) (va_cwS 3 hts gX10_worth_X10_in rfl rfl rfl (by decide +kernel) ⟨Nat.le_of_ble_eq_true rfl, Nat.le_of_ble_eq_true rfl⟩) (wz_pSr (hP.sub (ws' := []) [] rfl) (hK.sub (tys' := []) [] rfl)) rfl rfl hl.1 rfl (lv_room (Nat.le_of_ble_eq_true rfl)) dX10_worth_28 ⟨Nat.zero_le _, Nat.zero_le _⟩) (fun hz28 => ?_)
        refine lv_if_ne (tgt := 38) hx hb dX10_worth_31 (by decide) (fun cc => ?_) (fun cc => ?_)
        · have hrun := oi_t hrun cc
          refine lv_aload_n hx hb dX10_worth_38 rfl (lv_at hl 0 rfl) ?_
          obtain ⟨q39, hc39, hrun⟩ := ob_e hrun
          refine wz_csz (va_runV (As := []) (rest := []) ⟨hx, hb, hml, hown, hts⟩ (tX10_areShares l dC dI h0 h3 k3 (g0_length) (g0_text) (g0_itemMany) (g0_items) (g0_balls) (g0_outs) (g0_sightMany) (g0_sights) (g0_keptMany) (g0_cameras) (g0_callMany) (g0_calls) (.ref h2) (g0_caseMany) (g0_cases) (g0_place) (g0_numbers) (g0_xs) (g0_ys) (g0_zs) (g0_us) (g0_vs) (g0_ws) (g0_touchTick) (g0_touchHalf) (.ref h1) (.ref h4) N c3 q39 hc39) (cwV 0 hts gX10_worth_X10_areShares rfl rfl rfl (by decide +kernel) ⟨Nat.le_of_ble_eq_true rfl, Nat.le_of_ble_eq_true rfl⟩) (wz_pVr (hP.sub (ws' := [(h0, .inr (10, [g0_length, g0_text, g0_itemMany, g0_items, g0_balls, g0_outs, g0_sightMany, g0_sights, g0_keptMany, g0_cameras, g0_callMany, g0_calls, .ref h3, .ref h2, g0_caseMany, g0_cases, g0_place, g0_numbers, g0_xs, g0_ys, g0_zs, g0_us, g0_vs, g0_ws, g0_touchTick, g0_touchHalf, .ref h1, .ref h4])), (h3, .inl (k3, 4, .inl c3))]) [0, 3] rfl) (hK.sub (tys' := [(k3, .int)]) [2] rfl) (va_recv hK hP (ci := 10) (q0 := 0) rfl rfl)) rfl rfl hl.1 rfl (lv_room (Nat.le_of_ble_eq_true rfl)) dX10_worth_39 ⟨Nat.zero_le _, Nat.zero_le _⟩) (fun hz39 => ?_)
          refine lv_if_ne (tgt := 49) hx hb dX10_worth_42 (by decide) (fun cc => ?_) (fun cc => ?_)
          · have hrun := oi_t hrun cc
            refine lv_aload_n hx hb dX10_worth_49 rfl (lv_at hl 0 rfl) ?_
            obtain ⟨q50, hc50, hrun⟩ := ob_e hrun
            refine wz_cqv (WC := [(h0, .inr (10, [g0_length, g0_text, g0_itemMany, g0_items, g0_balls, g0_outs, g0_sightMany, g0_sights, g0_keptMany, g0_cameras, g0_callMany, g0_calls, .ref h3, .ref h2, g0_caseMany, g0_cases, g0_place, g0_numbers, g0_xs, g0_ys, g0_zs, g0_us, g0_vs, g0_ws, g0_touchTick, g0_touchHalf, .ref h1, .ref h4])), (h1, .inl (k1, 9, .inr (.inl c1))), (h2, .inl (k2, 4, .inl c2)), (h3, .inl (k3, 4, .inl c3)), (h4, .inl (k4, 81, .inr (.inl c4)))]) (WR := []) (W1 := [(h0, .inr (10, [g0_length, g0_text, g0_itemMany, g0_items, g0_balls, g0_outs, g0_sightMany, g0_sights, g0_keptMany, g0_cameras, g0_callMany, g0_calls, .ref h3, .ref h2, g0_caseMany, g0_cases, g0_place, g0_numbers, g0_xs, g0_ys, g0_zs, g0_us, g0_vs, g0_ws, g0_touchTick, g0_touchHalf, .ref h1, .ref h4])), (h1, .inl (k1, 9, .inr (.inl q50.1))), (h2, .inl (k2, 4, .inl c2)), (h3, .inl (k3, 4, .inl c3)), (h4, .inl (k4, 81, .inr (.inl q50.2)))]) (va_runV (As := []) (rest := []) ⟨hx, hb, hml, hown, hts⟩ (tX10_layWorths l dC dI H.size h0 h1 h2 h3 h4 k1 k2 k3 k4 (g0_length) (g0_text) (g0_itemMany) (g0_items) (g0_balls) (g0_outs) (g0_sightMany) (g0_sights) (g0_keptMany) (g0_cameras) (g0_callMany) (g0_calls) (g0_caseMany) (g0_cases) (g0_place) (g0_numbers) (g0_xs) (g0_ys) (g0_zs) (g0_us) (g0_vs) (g0_ws) (g0_touchTick) (g0_touchHalf) N c1 c2 c3 c4 q50 hc50) (cwV 0 hts gX10_worth_X10_layWorths rfl rfl rfl (by decide +kernel) ⟨Nat.le_of_ble_eq_true rfl, Nat.le_of_ble_eq_true rfl⟩) (wz_pVw (hP.sub (ws' := [(h0, .inr (10, [g0_length, g0_text, g0_itemMany, g0_items, g0_balls, g0_outs, g0_sightMany, g0_sights, g0_keptMany, g0_cameras, g0_callMany, g0_calls, .ref h3, .ref h2, g0_caseMany, g0_cases, g0_place, g0_numbers, g0_xs, g0_ys, g0_zs, g0_us, g0_vs, g0_ws, g0_touchTick, g0_touchHalf, .ref h1, .ref h4])), (h1, .inl (k1, 9, .inr (.inl c1))), (h2, .inl (k2, 4, .inl c2)), (h3, .inl (k3, 4, .inl c3)), (h4, .inl (k4, 81, .inr (.inl c4)))]) [0, 1, 2, 3, 4] rfl) (hK.sub (tys' := [(k1, .long), (k2, .int), (k3, .int), (k4, .long)]) [0, 1, 2, 3] rfl) (hD.sub (ws' := [(h0, .inr (10, [g0_length, g0_text, g0_itemMany, g0_items, g0_balls, g0_outs, g0_sightMany, g0_sights, g0_keptMany, g0_cameras, g0_callMany, g0_calls, .ref h3, .ref h2, g0_caseMany, g0_cases, g0_place, g0_numbers, g0_xs, g0_ys, g0_zs, g0_us, g0_vs, g0_ws, g0_touchTick, g0_touchHalf, .ref h1, .ref h4])), (h1, .inl (k1, 9, .inr (.inl c1))), (h2, .inl (k2, 4, .inl c2)), (h3, .inl (k3, 4, .inl c3)), (h4, .inl (k4, 81, .inr (.inl c4)))]) [0, 1, 2, 3, 4] (by decide) rfl) (va_recv hK hP (ci := 10) (q0 := 0) rfl rfl)) rfl rfl hl.1 rfl (lv_room (Nat.le_of_ble_eq_true rfl)) dX10_worth_50 ⟨Nat.zero_le _, Nat.zero_le _⟩) hP hD hS hA [0, 1, 2, 3, 4] [] rfl rfl (by decide) (by decide) (fun H locs hP hD hS => ?_)
            have hP : va_P (dC, dI) vwCl [(h0, .inr (10, [g0_length, g0_text, g0_itemMany, g0_items, g0_balls, g0_outs, g0_sightMany, g0_sights, g0_keptMany, g0_cameras, g0_callMany, g0_calls, .ref h3, .ref h2, g0_caseMany, g0_cases, g0_place, g0_numbers, g0_xs, g0_ys, g0_zs, g0_us, g0_vs, g0_ws, g0_touchTick, g0_touchHalf, .ref h1, .ref h4])), (h1, .inl (k1, 9, .inr (.inl q50.1))), (h2, .inl (k2, 4, .inl c2)), (h3, .inl (k3, 4, .inl c3)), (h4, .inl (k4, 81, .inr (.inl q50.2)))] H := hP
            have hD : va_D A [(h0, .inr (10, [g0_length, g0_text, g0_itemMany, g0_items, g0_balls, g0_outs, g0_sightMany, g0_sights, g0_keptMany, g0_cameras, g0_callMany, g0_calls, .ref h3, .ref h2, g0_caseMany, g0_cases, g0_place, g0_numbers, g0_xs, g0_ys, g0_zs, g0_us, g0_vs, g0_ws, g0_touchTick, g0_touchHalf, .ref h1, .ref h4])), (h1, .inl (k1, 9, .inr (.inl q50.1))), (h2, .inl (k2, 4, .inl c2)), (h3, .inl (k3, 4, .inl c3)), (h4, .inl (k4, 81, .inr (.inl q50.2)))] := hD
            refine lv_aload_n hx hb dX10_worth_53 rfl (lv_at hl 0 rfl) ?_
            refine va_get (D := (dC, dI)) (ci := 10) (v := .ref h1) (C := RX10) (T := TX10) (N := 28) hx hb hts hinX10 hown hK hP 0 rfl rfl 26 (by decide) (hts (.fieldLink RX10 67 "WasItOutModel" "powers" "[J") (by decide +kernel)) (fun _ h9 => h9) rfl dX10_worth_54 ?_
            refine lv_iload_n hx hb dX10_worth_57 rfl (lv_at hl 1 rfl) ?_
            obtain ⟨hi, hrun⟩ := oi_x hrun
            refine va_lald hx hb hK hP 1 0 rfl rfl hi dX10_worth_58 ?_
            refine lv_aload_n hx hb dX10_worth_59 rfl (lv_at hl 0 rfl) ?_
            refine va_get (D := (dC, dI)) (ci := 10) (v := .ref h4) (C := RX10) (T := TX10) (N := 28) hx hb hts hinX10 hown hK hP 0 rfl rfl 27 (by decide) (hts (.fieldLink RX10 71 "WasItOutModel" "worths" "[J") (by decide +kernel)) (fun _ h9 => h9) rfl dX10_worth_60 ?_
            refine lv_bipush (v := (9 : Int32)) hx hb dX10_worth_63 (by decide) ?_
            refine lv_iload_n hx hb dX10_worth_65 rfl (lv_at hl 1 rfl) ?_
            refine lv_imul hx hb dX10_worth_66 ?_
            refine lv_iload_n hx hb dX10_worth_67 rfl (lv_at hl 2 rfl) ?_
            refine lv_iadd hx hb dX10_worth_68 ?_
            obtain ⟨hi, hrun⟩ := oi_x hrun
            refine va_lald hx hb hK hP 4 3 rfl rfl hi dX10_worth_69 ?_
            obtain ⟨q70, hc70, hrun⟩ := ob_e hrun
            refine wz_csl (va_runS (As := [.long (q50.1 a1.toNatClampNeg), .long (q50.2 (((9 : Int32) * a1) + a2).toNatClampNeg)]) (rest := []) ⟨hx, hb, hml, hown, hts⟩ (tX10_common l dC dI N ((q50.1 a1.toNatClampNeg)) ((q50.2 (((9 : Int32) * a1) + a2).toNatClampNeg)) q70 hc70) (va_cwS 2 hts gX10_worth_X10_common rfl rfl rfl (by decide +kernel) ⟨Nat.le_of_ble_eq_true rfl, Nat.le_of_ble_eq_true rfl⟩) (wz_pSr (hP.sub (ws' := []) [] rfl) (hK.sub (tys' := []) [] rfl)) rfl rfl hl.1 rfl (lv_room (Nat.le_of_ble_eq_true rfl)) dX10_worth_70 ⟨Nat.zero_le _, Nat.zero_le _⟩) ?_
            refine lv_lstore (lv' := [(4, .long q70), (0, .ref h0), (1, .int a1), (2, .int a2), (3, .int a3)]) hx hb dX10_worth_73 hl (by decide) rfl (fun ls hl => ?_)
            refine lv_iload_n hx hb dX10_worth_75 rfl (lv_at hl 4 rfl) ?_
            refine lv_if_ne (tgt := 96) hx hb dX10_worth_76 (by decide) (fun cc => ?_) (fun cc => ?_)
            · have hrun := oi_t hrun cc
              refine lv_aload_n hx hb dX10_worth_96 rfl (lv_at hl 1 rfl) ?_
              refine va_get (D := (dC, dI)) (ci := 10) (v := .ref h1) (C := RX10) (T := TX10) (N := 28) hx hb hts hinX10 hown hK hP 0 rfl rfl 26 (by decide) (hts (.fieldLink RX10 67 "WasItOutModel" "powers" "[J") (by decide +kernel)) (fun _ h9 => h9) rfl dX10_worth_97 ?_
              refine lv_iload_n hx hb dX10_worth_100 rfl (lv_at hl 2 rfl) ?_
              obtain ⟨hi, hrun⟩ := oi_x hrun
              refine va_lald hx hb hK hP 1 0 rfl rfl hi dX10_worth_101 ?_
              refine lv_lload hx hb dX10_worth_102 (lv_at hl 0 rfl) ?_
              obtain ⟨hne, hrun⟩ := oi_g hrun
              refine lv_ldiv hx hb dX10_worth_104 hne ?_
              cases hrun
              have hP9 : va_P (dC, dI) vwCl [(h0, .inr (10, [g0_length, g0_text, g0_itemMany, g0_items, g0_balls, g0_outs, g0_sightMany, g0_sights, g0_keptMany, g0_cameras, g0_callMany, g0_calls, .ref h3, .ref h2, g0_caseMany, g0_cases, g0_place, g0_numbers, g0_xs, g0_ys, g0_zs, g0_us, g0_vs, g0_ws, g0_touchTick, g0_touchHalf, .ref h1, .ref h4])), (h1, .inl (k1, 9, .inr (.inl q50.1))), (h2, .inl (k2, 4, .inl c2)), (h3, .inl (k3, 4, .inl c3)), (h4, .inl (k4, 81, .inr (.inl q50.2)))] H := hP
              have hD9 : va_D A [(h0, .inr (10, [g0_length, g0_text, g0_itemMany, g0_items, g0_balls, g0_outs, g0_sightMany, g0_sights, g0_keptMany, g0_cameras, g0_callMany, g0_calls, .ref h3, .ref h2, g0_caseMany, g0_cases, g0_place, g0_numbers, g0_xs, g0_ys, g0_zs, g0_us, g0_vs, g0_ws, g0_touchTick, g0_touchHalf, .ref h1, .ref h4])), (h1, .inl (k1, 9, .inr (.inl q50.1))), (h2, .inl (k2, 4, .inl c2)), (h3, .inl (k3, 4, .inl c3)), (h4, .inl (k4, 81, .inr (.inl q50.2)))] := hD
              exact W.lret hx hb hr (fun t ht hW => ⟨⟨_, (), rfl, rfl, by rw [ht]; exact hP9, va_K.moved hW.alike hK, hD9⟩, hS.F ht⟩) hS.2.2 dX10_worth_105
            · have hrun := oi_n hrun cc
              refine lv_aload_n hx hb dX10_worth_79 rfl (lv_at hl 1 rfl) ?_
              refine va_get (D := (dC, dI)) (ci := 10) (v := .ref h4) (C := RX10) (T := TX10) (N := 28) hx hb hts hinX10 hown hK hP 0 rfl rfl 27 (by decide) (hts (.fieldLink RX10 71 "WasItOutModel" "worths" "[J") (by decide +kernel)) (fun _ h9 => h9) rfl dX10_worth_80 ?_
              refine lv_bipush (v := (9 : Int32)) hx hb dX10_worth_83 (by decide) ?_
              refine lv_iload_n hx hb dX10_worth_85 rfl (lv_at hl 2 rfl) ?_
              refine lv_imul hx hb dX10_worth_86 ?_
              refine lv_iload_n hx hb dX10_worth_87 rfl (lv_at hl 3 rfl) ?_
              refine lv_iadd hx hb dX10_worth_88 ?_
              obtain ⟨hi, hrun⟩ := oi_x hrun
              refine va_lald hx hb hK hP 4 3 rfl rfl hi dX10_worth_89 ?_
              refine lv_lload hx hb dX10_worth_90 (lv_at hl 0 rfl) ?_
              obtain ⟨hne, hrun⟩ := oi_g hrun
              refine lv_ldiv hx hb dX10_worth_92 hne ?_
              refine lv_goto (tgt := 105) hx hb dX10_worth_93 (by decide) ?_
              cases hrun
              have hP9 : va_P (dC, dI) vwCl [(h0, .inr (10, [g0_length, g0_text, g0_itemMany, g0_items, g0_balls, g0_outs, g0_sightMany, g0_sights, g0_keptMany, g0_cameras, g0_callMany, g0_calls, .ref h3, .ref h2, g0_caseMany, g0_cases, g0_place, g0_numbers, g0_xs, g0_ys, g0_zs, g0_us, g0_vs, g0_ws, g0_touchTick, g0_touchHalf, .ref h1, .ref h4])), (h1, .inl (k1, 9, .inr (.inl q50.1))), (h2, .inl (k2, 4, .inl c2)), (h3, .inl (k3, 4, .inl c3)), (h4, .inl (k4, 81, .inr (.inl q50.2)))] H := hP
              have hD9 : va_D A [(h0, .inr (10, [g0_length, g0_text, g0_itemMany, g0_items, g0_balls, g0_outs, g0_sightMany, g0_sights, g0_keptMany, g0_cameras, g0_callMany, g0_calls, .ref h3, .ref h2, g0_caseMany, g0_cases, g0_place, g0_numbers, g0_xs, g0_ys, g0_zs, g0_us, g0_vs, g0_ws, g0_touchTick, g0_touchHalf, .ref h1, .ref h4])), (h1, .inl (k1, 9, .inr (.inl q50.1))), (h2, .inl (k2, 4, .inl c2)), (h3, .inl (k3, 4, .inl c3)), (h4, .inl (k4, 81, .inr (.inl q50.2)))] := hD
              exact W.lret hx hb hr (fun t ht hW => ⟨⟨_, (), rfl, rfl, by rw [ht]; exact hP9, va_K.moved hW.alike hK, hD9⟩, hS.F ht⟩) hS.2.2 dX10_worth_105
          · have hrun := oi_n hrun cc
            refine lv_ldc2 (v := (-2 : Int64)) hx hb hown (hts (.constantLong RX10 232 (-2 : Int64)) (by decide +kernel)) dX10_worth_45 ?_
            cases hrun
            have hP9 : va_P (dC, dI) vwCl [(h0, .inr (10, [g0_length, g0_text, g0_itemMany, g0_items, g0_balls, g0_outs, g0_sightMany, g0_sights, g0_keptMany, g0_cameras, g0_callMany, g0_calls, .ref h3, .ref h2, g0_caseMany, g0_cases, g0_place, g0_numbers, g0_xs, g0_ys, g0_zs, g0_us, g0_vs, g0_ws, g0_touchTick, g0_touchHalf, .ref h1, .ref h4])), (h1, .inl (k1, 9, .inr (.inl c1))), (h2, .inl (k2, 4, .inl c2)), (h3, .inl (k3, 4, .inl c3)), (h4, .inl (k4, 81, .inr (.inl c4)))] H := hP
            have hD9 : va_D A [(h0, .inr (10, [g0_length, g0_text, g0_itemMany, g0_items, g0_balls, g0_outs, g0_sightMany, g0_sights, g0_keptMany, g0_cameras, g0_callMany, g0_calls, .ref h3, .ref h2, g0_caseMany, g0_cases, g0_place, g0_numbers, g0_xs, g0_ys, g0_zs, g0_us, g0_vs, g0_ws, g0_touchTick, g0_touchHalf, .ref h1, .ref h4])), (h1, .inl (k1, 9, .inr (.inl c1))), (h2, .inl (k2, 4, .inl c2)), (h3, .inl (k3, 4, .inl c3)), (h4, .inl (k4, 81, .inr (.inl c4)))] := hD
            exact W.lret hx hb hr (fun t ht hW => ⟨⟨_, (), rfl, rfl, by rw [ht]; exact hP9, va_K.moved hW.alike hK, hD9⟩, hS.F ht⟩) hS.2.2 dX10_worth_48
        · have hrun := oi_n hrun cc
          refine lv_ldc2 (v := (-1 : Int64)) hx hb hown (hts (.constantLong RX10 199 (-1 : Int64)) (by decide +kernel)) dX10_worth_34 ?_
          cases hrun
          have hP9 : va_P (dC, dI) vwCl [(h0, .inr (10, [g0_length, g0_text, g0_itemMany, g0_items, g0_balls, g0_outs, g0_sightMany, g0_sights, g0_keptMany, g0_cameras, g0_callMany, g0_calls, .ref h3, .ref h2, g0_caseMany, g0_cases, g0_place, g0_numbers, g0_xs, g0_ys, g0_zs, g0_us, g0_vs, g0_ws, g0_touchTick, g0_touchHalf, .ref h1, .ref h4])), (h1, .inl (k1, 9, .inr (.inl c1))), (h2, .inl (k2, 4, .inl c2)), (h3, .inl (k3, 4, .inl c3)), (h4, .inl (k4, 81, .inr (.inl c4)))] H := hP
          have hD9 : va_D A [(h0, .inr (10, [g0_length, g0_text, g0_itemMany, g0_items, g0_balls, g0_outs, g0_sightMany, g0_sights, g0_keptMany, g0_cameras, g0_callMany, g0_calls, .ref h3, .ref h2, g0_caseMany, g0_cases, g0_place, g0_numbers, g0_xs, g0_ys, g0_zs, g0_us, g0_vs, g0_ws, g0_touchTick, g0_touchHalf, .ref h1, .ref h4])), (h1, .inl (k1, 9, .inr (.inl c1))), (h2, .inl (k2, 4, .inl c2)), (h3, .inl (k3, 4, .inl c3)), (h4, .inl (k4, 81, .inr (.inl c4)))] := hD
          exact W.lret hx hb hr (fun t ht hW => ⟨⟨_, (), rfl, rfl, by rw [ht]; exact hP9, va_K.moved hW.alike hK, hD9⟩, hS.F ht⟩) hS.2.2 dX10_worth_37
  rw [hHe, hLe] at key
  exact key
