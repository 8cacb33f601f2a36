set_option maxHeartbeats 4000000 in
set_option maxRecDepth 100000 in
theorem tX0_tenths (l : Launch) (dC : Nat → ClassId) (dI : Nat → Nat → Nat) (h0 : Nat) (k0 : ClassId) (n0 : Nat) (N : Nat) (a1 : Int32) (c0 : Nat → Int32) (ru : Int32) (hm : fX0_tenths N n0 a1 c0 = some ru) : Met l yX0_tenths wsX0_tenths ({ frames := 0, cells := 0, slots := 0, locals := 0 } : Room) (va_Pc [.ref h0, .int a1] (fun U => va_P (dC, dI) vwCl [(h0, .inl (k0, n0, .inl c0))] U.heap ∧ va_K (dC, dI) vwCl [(k0, .int)] U)) (vp_Si (fun r => r = ru)) 0 0 (fun _ => False) := by
  refine Met.ofW (cc := cX0_tenths) (maxL := 2) (ret := (some .int)) (by decide) rfl ?_
  intro p e s m args below meth c s₁ B hml hv
  obtain ⟨rfl, hP, hK⟩ := hv
  have hx := B.exec
  have hb := B.bytes
  have hr := B.returns
  have hts := atoms_spec (ws := wsX0_tenths) B.pre
  have hown : s.vm.findClass RX0 = some m.cls := findClass_of_methodNamed B.named
  have hlocks := B.notSynchronized
  have hl := lv_entry ([.ref h0, .int a1]) (n := 2) (Nat.le_of_ble_eq_true rfl)
  rw [lg_entry_eq]
  generalize (lg_sl ([.ref h0, .int a1]) ++ List.replicate (2 - (lg_sl ([.ref h0, .int a1])).length) Slot.unset).toArray = ls at hl ⊢
  have hl : lv_has ls 2 [(0, .ref h0), (1, .int a1)] := hl
  have hrun := hm
  rw [fX0_tenths] at hrun
  refine lv_iload_n hx hb dX0_tenths_0 rfl (lv_at hl 1 rfl) ?_
  refine lv_if_lt (tgt := 16) hx hb dX0_tenths_1 (by decide) (fun cc => ?_) (fun cc => ?_)
  · have hrun := oi_t hrun cc
    refine lv_iconst (v := (0 : Int32)) hx hb dX0_tenths_16 (by decide) ?_
    exact W.iret hx hb hr (fun t ht _ => ⟨_, rfl, Option.some.inj hrun, ht⟩) (fun _ h => by cases h) dX0_tenths_17
  · have hrun := oi_f hrun cc
    refine lv_iload_n hx hb dX0_tenths_4 rfl (lv_at hl 1 rfl) ?_
    refine lv_aload_n hx hb dX0_tenths_5 rfl (lv_at hl 0 rfl) ?_
    refine va_alen (v := (Int32.ofNat n0)) hx hb hK hP 0 0 rfl rfl (by first | rfl | decide) dX0_tenths_6 ?_
    refine lv_icmp_ge (tgt := 16) hx hb dX0_tenths_7 (by decide) (fun cc => ?_) (fun cc => ?_)
    · have hrun := oi_t hrun cc
      refine lv_iconst (v := (0 : Int32)) hx hb dX0_tenths_16 (by decide) ?_
      exact W.iret hx hb hr (fun t ht _ => ⟨_, rfl, Option.some.inj hrun, ht⟩) (fun _ h => by cases h) dX0_tenths_17
    · have hrun := oi_f hrun cc
      refine lv_aload_n hx hb dX0_tenths_10 rfl (lv_at hl 0 rfl) ?_
      refine lv_iload_n hx hb dX0_tenths_11 rfl (lv_at hl 1 rfl) ?_
      obtain ⟨hi, hrun⟩ := oi_x hrun
      refine va_iald hx hb hK hP 0 0 rfl rfl hi dX0_tenths_12 ?_
      refine lv_goto (tgt := 17) hx hb dX0_tenths_13 (by decide) ?_
      exact W.iret hx hb hr (fun t ht _ => ⟨_, rfl, Option.some.inj hrun, ht⟩) (fun _ h => by cases h) dX0_tenths_17
set_option maxHeartbeats 4000000 in
set_option maxRecDepth 100000 in
theorem tX0_scaleOf (l : Launch) (dC : Nat → ClassId) (dI : Nat → Nat → Nat) (t : Nat → Nat) (h0 h1 : Nat) (k1 : ClassId) (g0_comes g0_right g0_worths g0_known : Value) (N : Nat) (a1 : Int32) (c1 : Nat → Int64) (ru : Int64) (hm : fX0_scaleOf N a1 c1 = some ru) : Met l yX0_scaleOf wsX0_scaleOf ({ frames := 1, cells := 0, slots := 0, locals := 22 } : Room) (va_Pc [.ref h0, .int a1] (fun U => va_P (dC, dI) vwCl [(h0, .inr (0, [g0_comes, g0_right, g0_worths, .ref h1, g0_known])), (h1, .inl (k1, 9, .inr (.inl c1)))] U.heap ∧ va_K (dC, dI) vwCl [(k1, .long)] U ∧ gG t (fun _ => False) U U.heap)) (vp_Sl (fun r => r = ru)) 0 0 (fun _ => False) := by
  refine Met.ofW (cc := cX0_scaleOf) (maxL := 2) (ret := (some .long)) (by decide) rfl ?_
  intro p e s m args below meth c s₁ B hml hv
  obtain ⟨rfl, hP, hK, hG⟩ := hv
  have hx := B.exec
  have hb := B.bytes
  have hr := B.returns
  have hts := atoms_spec (ws := wsX0_scaleOf) B.pre
  have hown : s.vm.findClass RX0 = some m.cls := findClass_of_methodNamed B.named
  have hlocks := B.notSynchronized
  have hinX0 : ∀ w ∈ wsX00, w ∈ wsX0_scaleOf := by decide +kernel
  have hl := lv_entry ([.ref h0, .int a1]) (n := 2) (Nat.le_of_ble_eq_true rfl)
  rw [lg_entry_eq]
  generalize (lg_sl ([.ref h0, .int a1]) ++ List.replicate (2 - (lg_sl ([.ref h0, .int a1])).length) Slot.unset).toArray = ls at hl ⊢
  have hl : lv_has ls 2 [(0, .ref h0), (1, .int a1)] := hl
  have hrun := hm
  rw [fX0_scaleOf] at hrun
  refine lv_iload_n hx hb dX0_scaleOf_0 rfl (lv_at hl 1 rfl) ?_
  refine lv_iconst (v := (0 : Int32)) hx hb dX0_scaleOf_1 (by decide) ?_
  refine lv_bipush (v := (8 : Int32)) hx hb dX0_scaleOf_2 (by decide) ?_
  obtain ⟨q4, hc4, hrun⟩ := ob_e hrun
  refine wz_csz (va_runSN (As := [.int a1, .int (0 : Int32), .int (8 : Int32)]) (rest := []) ⟨hx, hb, hml, hown, hts⟩ (tX9_within l dC dI N a1 ((0 : Int32)) ((8 : Int32)) q4 hc4) ⟨va_cnB 3 hts gX0_scaleOf_X9_within_n62 rfl rfl rfl hG.n0 (hts (.initialized RX9) (by decide +kernel)) (by decide +kernel) ⟨Nat.le_of_ble_eq_true rfl, Nat.le_of_ble_eq_true rfl⟩, hts (.static yX9_within) (by decide +kernel), trivial⟩ (wz_pSr (hP.sub (ws' := []) [] rfl) (hK.sub (tys' := []) [] rfl)) rfl rfl hl.1 rfl (lv_room (Nat.le_of_ble_eq_true rfl)) dX0_scaleOf_4 ⟨Nat.zero_le _, Nat.zero_le _⟩) (fun hz4 => ?_)
  refine lv_if_eq (tgt := 19) hx hb dX0_scaleOf_7 (by decide) (fun cc => ?_) (fun cc => ?_)
  · have hrun := oi_t hrun cc
    refine lv_lconst (v := (1 : Int64)) hx hb dX0_scaleOf_19 (by decide) ?_
    exact W.lret hx hb hr (fun t ht _ => ⟨_, rfl, Option.some.inj hrun, ht⟩) (fun _ h => by cases h) dX0_scaleOf_20
  · have hrun := oi_f hrun cc
    refine lv_aload_n hx hb dX0_scaleOf_10 rfl (lv_at hl 0 rfl) ?_
    refine va_get (D := (dC, dI)) (ci := 0) (v := .ref h1) (C := RX0) (T := TX0) (N := 5) hx hb hts hinX0 hown hK hP 0 rfl rfl 3 (by decide) (hts (.fieldLink RX0 20 "WasItOut$Asks" "scales" "[J") (by decide +kernel)) (fun _ h9 => h9) rfl dX0_scaleOf_11 ?_
    refine lv_iload_n hx hb dX0_scaleOf_14 rfl (lv_at hl 1 rfl) ?_
    obtain ⟨hi, hrun⟩ := oi_x hrun
    refine va_lald hx hb hK hP 1 0 rfl rfl hi dX0_scaleOf_15 ?_
    refine lv_goto (tgt := 20) hx hb dX0_scaleOf_16 (by decide) ?_
    exact W.lret hx hb hr (fun t ht _ => ⟨_, rfl, Option.some.inj hrun, ht⟩) (fun _ h => by cases h) dX0_scaleOf_20
set_option maxHeartbeats 4000000 in
set_option maxRecDepth 100000 in
theorem tX0_worthOf (l : Launch) (dC : Nat → ClassId) (dI : Nat → Nat → Nat) (t : Nat → Nat) (h0 h1 : Nat) (k1 : ClassId) (g0_comes g0_right g0_scales g0_known : Value) (N : Nat) (a1 : Int32) (a2 : Int32) (c1 : Nat → Int64) (ru : Int64) (hm : fX0_worthOf N a1 a2 c1 = some ru) : Met l yX0_worthOf wsX0_worthOf ({ frames := 1, cells := 0, slots := 0, locals := 22 } : Room) (va_Pc [.ref h0, .int a1, .int a2] (fun U => va_P (dC, dI) vwCl [(h0, .inr (0, [g0_comes, g0_right, .ref h1, g0_scales, g0_known])), (h1, .inl (k1, 81, .inr (.inl c1)))] U.heap ∧ va_K (dC, dI) vwCl [(k1, .long)] U ∧ gG t (fun _ => False) U U.heap)) (vp_Sl (fun r => r = ru)) 0 0 (fun _ => False) := by
  refine Met.ofW (cc := cX0_worthOf) (maxL := 3) (ret := (some .long)) (by decide) rfl ?_
  intro p e s m args below meth c s₁ B hml hv
  obtain ⟨rfl, hP, hK, hG⟩ := hv
  have hx := B.exec
  have hb := B.bytes
  have hr := B.returns
  have hts := atoms_spec (ws := wsX0_worthOf) B.pre
  have hown : s.vm.findClass RX0 = some m.cls := findClass_of_methodNamed B.named
  have hlocks := B.notSynchronized
  have hinX0 : ∀ w ∈ wsX00, w ∈ wsX0_worthOf := by decide +kernel
  have hl := lv_entry ([.ref h0, .int a1, .int a2]) (n := 3) (Nat.le_of_ble_eq_true rfl)
  rw [lg_entry_eq]
  generalize (lg_sl ([.ref h0, .int a1, .int a2]) ++ List.replicate (3 - (lg_sl ([.ref h0, .int a1, .int a2])).length) Slot.unset).toArray = ls at hl ⊢
  have hl : lv_has ls 3 [(0, .ref h0), (1, .int a1), (2, .int a2)] := hl
  have hrun := hm
  rw [fX0_worthOf] at hrun
  refine lv_iload_n hx hb dX0_worthOf_0 rfl (lv_at hl 1 rfl) ?_
  refine lv_iconst (v := (0 : Int32)) hx hb dX0_worthOf_1 (by decide) ?_
  refine lv_bipush (v := (8 : Int32)) hx hb dX0_worthOf_2 (by decide) ?_
  obtain ⟨q4, hc4, hrun⟩ := ob_e hrun
  refine wz_csz (va_runSN (As := [.int a1, .int (0 : Int32), .int (8 : Int32)]) (rest := []) ⟨hx, hb, hml, hown, hts⟩ (tX9_within l dC dI N a1 ((0 : Int32)) ((8 : Int32)) q4 hc4) ⟨va_cnB 3 hts gX0_worthOf_X9_within_n62 rfl rfl rfl hG.n0 (hts (.initialized RX9) (by decide +kernel)) (by decide +kernel) ⟨Nat.le_of_ble_eq_true rfl, Nat.le_of_ble_eq_true rfl⟩, hts (.static yX9_within) (by decide +kernel), trivial⟩ (wz_pSr (hP.sub (ws' := []) [] rfl) (hK.sub (tys' := []) [] rfl)) rfl rfl hl.1 rfl (lv_room (Nat.le_of_ble_eq_true rfl)) dX0_worthOf_4 ⟨Nat.zero_le _, Nat.zero_le _⟩) (fun hz4 => ?_)
  refine lv_if_eq (tgt := 34) hx hb dX0_worthOf_7 (by decide) (fun cc => ?_) (fun cc => ?_)
  · have hrun := oi_t hrun cc
    refine lv_lconst (v := (0 : Int64)) hx hb dX0_worthOf_34 (by decide) ?_
    exact W.lret hx hb hr (fun t ht _ => ⟨_, rfl, Option.some.inj hrun, ht⟩) (fun _ h => by cases h) dX0_worthOf_35
  · have hrun := oi_f hrun cc
    refine lv_iload_n hx hb dX0_worthOf_10 rfl (lv_at hl 2 rfl) ?_
    refine lv_iconst (v := (0 : Int32)) hx hb dX0_worthOf_11 (by decide) ?_
    refine lv_bipush (v := (8 : Int32)) hx hb dX0_worthOf_12 (by decide) ?_
    obtain ⟨q14, hc14, hrun⟩ := ob_e hrun
    refine wz_csz (va_runSN (As := [.int a2, .int (0 : Int32), .int (8 : Int32)]) (rest := []) ⟨hx, hb, hml, hown, hts⟩ (tX9_within l dC dI N a2 ((0 : Int32)) ((8 : Int32)) q14 hc14) ⟨va_cnB 3 hts gX0_worthOf_X9_within_n62 rfl rfl rfl hG.n0 (hts (.initialized RX9) (by decide +kernel)) (by decide +kernel) ⟨Nat.le_of_ble_eq_true rfl, Nat.le_of_ble_eq_true rfl⟩, hts (.static yX9_within) (by decide +kernel), trivial⟩ (wz_pSr (hP.sub (ws' := []) [] rfl) (hK.sub (tys' := []) [] rfl)) rfl rfl hl.1 rfl (lv_room (Nat.le_of_ble_eq_true rfl)) dX0_worthOf_14 ⟨Nat.zero_le _, Nat.zero_le _⟩) (fun hz14 => ?_)
    refine lv_if_eq (tgt := 34) hx hb dX0_worthOf_17 (by decide) (fun cc => ?_) (fun cc => ?_)
    · have hrun := oi_t hrun cc
      refine lv_lconst (v := (0 : Int64)) hx hb dX0_worthOf_34 (by decide) ?_
      exact W.lret hx hb hr (fun t ht _ => ⟨_, rfl, Option.some.inj hrun, ht⟩) (fun _ h => by cases h) dX0_worthOf_35
    · have hrun := oi_f hrun cc
      refine lv_aload_n hx hb dX0_worthOf_20 rfl (lv_at hl 0 rfl) ?_
      refine va_get (D := (dC, dI)) (ci := 0) (v := .ref h1) (C := RX0) (T := TX0) (N := 5) hx hb hts hinX0 hown hK hP 0 rfl rfl 2 (by decide) (hts (.fieldLink RX0 16 "WasItOut$Asks" "worths" "[J") (by decide +kernel)) (fun _ h9 => h9) rfl dX0_worthOf_21 ?_
      refine lv_iload_n hx hb dX0_worthOf_24 rfl (lv_at hl 1 rfl) ?_
      refine lv_bipush (v := (9 : Int32)) hx hb dX0_worthOf_25 (by decide) ?_
      refine lv_imul hx hb dX0_worthOf_27 ?_
      refine lv_iload_n hx hb dX0_worthOf_28 rfl (lv_at hl 2 rfl) ?_
      refine lv_iadd hx hb dX0_worthOf_29 ?_
      obtain ⟨hi, hrun⟩ := oi_x hrun
      refine va_lald hx hb hK hP 1 0 rfl rfl hi dX0_worthOf_30 ?_
      refine lv_goto (tgt := 35) hx hb dX0_worthOf_31 (by decide) ?_
      exact W.lret hx hb hr (fun t ht _ => ⟨_, rfl, Option.some.inj hrun, ht⟩) (fun _ h => by cases h) dX0_worthOf_35
set_option maxHeartbeats 4000000 in
set_option maxRecDepth 100000 in
theorem tX0_asking (l : Launch) (dC : Nat → ClassId) (dI : Nat → Nat → Nat) (t : Nat → Nat) (h0 h1 h2 h3 : Nat) (k1 k2 k3 : ClassId) (g0_comes g0_known : Value) (N : Nat) (a1 : Int32) (a2 : Int32) (a3 : Int32) (c1 : Nat → Int32) (c2 : Nat → Int64) (c3 : Nat → Int64) (ru : Int64) (hm : fX0_asking N a1 a2 a3 c1 c2 c3 = some ru) : Met l yX0_asking wsX0_asking ({ frames := 2, cells := 0, slots := 0, locals := 44 } : Room) (va_Pc [.ref h0, .int a1, .int a2, .int a3] (fun U => va_P (dC, dI) vwCl [(h0, .inr (0, [g0_comes, .ref h1, .ref h3, .ref h2, g0_known])), (h1, .inl (k1, 4, .inl c1)), (h2, .inl (k2, 9, .inr (.inl c2))), (h3, .inl (k3, 81, .inr (.inl c3)))] U.heap ∧ va_K (dC, dI) vwCl [(k1, .int), (k2, .long), (k3, .long)] U ∧ gG t (fun _ => False) U U.heap)) (vp_Sl (fun r => r = ru)) 0 0 (fun _ => False) := by
  refine Met.ofW (cc := cX0_asking) (maxL := 6) (ret := (some .long)) (by decide) rfl ?_
  intro p e s m args below meth c s₁ B hml hv
  obtain ⟨rfl, hP, hK, hG⟩ := hv
  have hx := B.exec
  have hb := B.bytes
  have hr := B.returns
  have hts := atoms_spec (ws := wsX0_asking) B.pre
  have hown : s.vm.findClass RX0 = some m.cls := findClass_of_methodNamed B.named
  have hlocks := B.notSynchronized
  have hinX0 : ∀ w ∈ wsX00, w ∈ wsX0_asking := by decide +kernel
  have hl := lv_entry ([.ref h0, .int a1, .int a2, .int a3]) (n := 6) (Nat.le_of_ble_eq_true rfl)
  rw [lg_entry_eq]
  generalize (lg_sl ([.ref h0, .int a1, .int a2, .int a3]) ++ List.replicate (6 - (lg_sl ([.ref h0, .int a1, .int a2, .int a3])).length) Slot.unset).toArray = ls at hl ⊢
  have hl : lv_has ls 6 [(0, .ref h0), (1, .int a1), (2, .int a2), (3, .int a3)] := hl
  have hrun := hm
  rw [fX0_asking] at hrun
  refine lv_aload_n hx hb dX0_asking_0 rfl (lv_at hl 0 rfl) ?_
  refine va_get (D := (dC, dI)) (ci := 0) (v := .ref h1) (C := RX0) (T := TX0) (N := 5) hx hb hts hinX0 hown hK hP 0 rfl rfl 1 (by decide) (hts (.fieldLink RX0 13 "WasItOut$Asks" "right" "[I") (by decide +kernel)) (fun _ h9 => h9) rfl dX0_asking_1 ?_
  refine lv_iload_n hx hb dX0_asking_4 rfl (lv_at hl 3 rfl) ?_
  obtain ⟨q5, hc5, hrun⟩ := ob_e hrun
  refine wz_csi (va_runS (As := [.ref h1, .int a3]) (rest := []) ⟨hx, hb, hml, hown, hts⟩ (tX0_tenths l dC dI h1 k1 4 N a3 c1 q5 hc5) (va_cwS 2 hts gX0_asking_X0_tenths rfl rfl rfl (by decide +kernel) ⟨Nat.le_of_ble_eq_true rfl, Nat.le_of_ble_eq_true rfl⟩) (wz_pSr (hP.sub (ws' := [(h1, .inl (k1, 4, .inl c1))]) [1] rfl) (hK.sub (tys' := [(k1, .int)]) [0] rfl)) rfl rfl hl.1 rfl (lv_room (Nat.le_of_ble_eq_true rfl)) dX0_asking_5 ⟨Nat.zero_le _, Nat.zero_le _⟩) ?_
  refine lv_i2l (v := q5.toInt64) hx hb dX0_asking_8 rfl ?_
  refine lv_lstore (lv' := [(4, .long q5.toInt64), (0, .ref h0), (1, .int a1), (2, .int a2), (3, .int a3)]) hx hb dX0_asking_9 hl (by decide) rfl (fun ls hl => ?_)
  refine lv_lload hx hb dX0_asking_11 (lv_at hl 0 rfl) ?_
  refine lv_aload_n hx hb dX0_asking_13 rfl (lv_at hl 1 rfl) ?_
  refine lv_iload_n hx hb dX0_asking_14 rfl (lv_at hl 2 rfl) ?_
  obtain ⟨q15, hc15, hrun⟩ := ob_e hrun
  refine wz_csl (va_runV (As := [.int a1]) (rest := [.long q5.toInt64]) ⟨hx, hb, hml, hown, hts⟩ (tX0_scaleOf l dC dI t h0 h2 k2 (g0_comes) (.ref h1) (.ref h3) (g0_known) N a1 c2 q15 hc15) (cwV 1 hts gX0_asking_X0_scaleOf rfl rfl rfl (by decide +kernel) ⟨Nat.le_of_ble_eq_true rfl, Nat.le_of_ble_eq_true rfl⟩) (wz_pVrG (hP.sub (ws' := [(h0, .inr (0, [g0_comes, .ref h1, .ref h3, .ref h2, g0_known])), (h2, .inl (k2, 9, .inr (.inl c2)))]) [0, 2] rfl) (hK.sub (tys' := [(k2, .long)]) [1] rfl) hG va_S.rf (va_recv hK hP (ci := 0) (q0 := 0) rfl rfl)) rfl rfl hl.1 rfl (lv_room (Nat.le_of_ble_eq_true rfl)) dX0_asking_15 ⟨Nat.zero_le _, Nat.zero_le _⟩) ?_
  refine lv_aload_n hx hb dX0_asking_18 rfl (lv_at hl 1 rfl) ?_
  refine lv_iload_n hx hb dX0_asking_19 rfl (lv_at hl 2 rfl) ?_
  refine lv_iload_n hx hb dX0_asking_20 rfl (lv_at hl 3 rfl) ?_
  obtain ⟨q21, hc21, hrun⟩ := ob_e hrun
  refine wz_csl (va_runV (As := [.int a1, .int a2]) (rest := [.long q15, .long q5.toInt64]) ⟨hx, hb, hml, hown, hts⟩ (tX0_worthOf l dC dI t h0 h3 k3 (g0_comes) (.ref h1) (.ref h2) (g0_known) N a1 a2 c3 q21 hc21) (cwV 2 hts gX0_asking_X0_worthOf rfl rfl rfl (by decide +kernel) ⟨Nat.le_of_ble_eq_true rfl, Nat.le_of_ble_eq_true rfl⟩) (wz_pVrG (hP.sub (ws' := [(h0, .inr (0, [g0_comes, .ref h1, .ref h3, .ref h2, g0_known])), (h3, .inl (k3, 81, .inr (.inl c3)))]) [0, 3] rfl) (hK.sub (tys' := [(k3, .long)]) [2] rfl) hG va_S.rf (va_recv hK hP (ci := 0) (q0 := 0) rfl rfl)) rfl rfl hl.1 rfl (lv_room (Nat.le_of_ble_eq_true rfl)) dX0_asking_21 ⟨Nat.zero_le _, Nat.zero_le _⟩) ?_
  refine lv_ladd hx hb dX0_asking_24 ?_
  refine lv_lmul hx hb dX0_asking_25 ?_
  refine lv_ldc2 (v := (10 : Int64)) hx hb hown (hts (.constantLong RX0 50 (10 : Int64)) (by decide +kernel)) dX0_asking_26 ?_
  refine lv_lload hx hb dX0_asking_29 (lv_at hl 0 rfl) ?_
  refine lv_lsub hx hb dX0_asking_31 ?_
  refine lv_aload_n hx hb dX0_asking_32 rfl (lv_at hl 1 rfl) ?_
  refine lv_iload_n hx hb dX0_asking_33 rfl (lv_at hl 2 rfl) ?_
  refine lv_iload_n hx hb dX0_asking_34 rfl (lv_at hl 3 rfl) ?_
  refine lv_iconst (v := (1 : Int32)) hx hb dX0_asking_35 (by decide) ?_
  refine lv_isub hx hb dX0_asking_36 ?_
  obtain ⟨q37, hc37, hrun⟩ := ob_e hrun
  refine wz_csl (va_runV (As := [.int a1, .int (a2 - (1 : Int32))]) (rest := [.long ((10 : Int64) - q5.toInt64), .long (q5.toInt64 * (q15 + q21))]) ⟨hx, hb, hml, hown, hts⟩ (tX0_worthOf l dC dI t h0 h3 k3 (g0_comes) (.ref h1) (.ref h2) (g0_known) N a1 ((a2 - (1 : Int32))) c3 q37 hc37) (cwV 2 hts gX0_asking_X0_worthOf rfl rfl rfl (by decide +kernel) ⟨Nat.le_of_ble_eq_true rfl, Nat.le_of_ble_eq_true rfl⟩) (wz_pVrG (hP.sub (ws' := [(h0, .inr (0, [g0_comes, .ref h1, .ref h3, .ref h2, g0_known])), (h3, .inl (k3, 81, .inr (.inl c3)))]) [0, 3] rfl) (hK.sub (tys' := [(k3, .long)]) [2] rfl) hG va_S.rf (va_recv hK hP (ci := 0) (q0 := 0) rfl rfl)) rfl rfl hl.1 rfl (lv_room (Nat.le_of_ble_eq_true rfl)) dX0_asking_37 ⟨Nat.zero_le _, Nat.zero_le _⟩) ?_
  refine lv_lmul hx hb dX0_asking_40 ?_
  refine lv_ladd hx hb dX0_asking_41 ?_
  exact W.lret hx hb hr (fun t ht _ => ⟨_, rfl, Option.some.inj hrun, ht⟩) (fun _ h => by cases h) dX0_asking_42
set_option maxHeartbeats 4000000 in
set_option maxRecDepth 100000 in
theorem tX0_average (l : Launch) (dC : Nat → ClassId) (dI : Nat → Nat → Nat) (t : Nat → Nat) (h0 h1 h2 h3 h4 : Nat) (k1 k2 k3 k4 : ClassId) (g0_known : Value) (N : Nat) (a1 : Int32) (a2 : Int32) (c1 : Nat → Int32) (c2 : Nat → Int32) (c3 : Nat → Int64) (c4 : Nat → Int64) (ru : Int64) (hm : fX0_average N a1 a2 c1 c2 c3 c4 = some ru) : Met l yX0_average wsX0_average ({ frames := 3, cells := 0, slots := 0, locals := 69 } : Room) (va_Pc [.ref h0, .int a1, .int a2] (fun U => va_P (dC, dI) vwCl [(h0, .inr (0, [.ref h1, .ref h2, .ref h4, .ref h3, g0_known])), (h1, .inl (k1, 4, .inl c1)), (h2, .inl (k2, 4, .inl c2)), (h3, .inl (k3, 9, .inr (.inl c3))), (h4, .inl (k4, 81, .inr (.inl c4)))] U.heap ∧ va_K (dC, dI) vwCl [(k1, .int), (k2, .int), (k3, .long), (k4, .long)] U ∧ gG t (fun _ => False) U U.heap)) (vp_Sl (fun r => r = ru)) 0 0 (fun _ => False) := by
  refine Met.ofW (cc := cX0_average) (maxL := 8) (ret := (some .long)) (by decide) rfl ?_
  intro p e s m args below meth c s₁ B hml hv
  obtain ⟨rfl, hP, hK, hG⟩ := hv
  have hx := B.exec
  have hb := B.bytes
  have hr := B.returns
  have hts := atoms_spec (ws := wsX0_average) B.pre
  have hown : s.vm.findClass RX0 = some m.cls := findClass_of_methodNamed B.named
  have hlocks := B.notSynchronized
  have hinX0 : ∀ w ∈ wsX00, w ∈ wsX0_average := by decide +kernel
  have hl := lv_entry ([.ref h0, .int a1, .int a2]) (n := 8) (Nat.le_of_ble_eq_true rfl)
  rw [lg_entry_eq]
  generalize (lg_sl ([.ref h0, .int a1, .int a2]) ++ List.replicate (8 - (lg_sl ([.ref h0, .int a1, .int a2])).length) Slot.unset).toArray = ls at hl ⊢
  have hl : lv_has ls 8 [(0, .ref h0), (1, .int a1), (2, .int a2)] := hl
  have hrun := hm
  rw [fX0_average] at hrun
  refine lv_lconst (v := (0 : Int64)) hx hb dX0_average_0 (by decide) ?_
  refine lv_lstore_n (lv' := [(3, .long (0 : Int64)), (0, .ref h0), (1, .int a1), (2, .int a2)]) hx hb dX0_average_1 rfl hl (by decide) rfl (fun ls hl => ?_)
  refine lv_iconst (v := (0 : Int32)) hx hb dX0_average_2 (by decide) ?_
  refine lv_istore (lv' := [(5, .int (0 : Int32)), (3, .long (0 : Int64)), (0, .ref h0), (1, .int a1), (2, .int a2)]) hx hb dX0_average_3 hl (by decide) rfl (fun ls hl => ?_)
  obtain ⟨k64, ek64, hrun⟩ := jn_e hrun
  have J64 : ∀ (x3_64 : Int64) (ls : Array Slot), k64 x3_64 = some ru → lv_has ls 8 [(3, .long x3_64)] → W p l e (headSpec wsX0_average ({ frames := 3, cells := 0, slots := 0, locals := 69 } : Room)).room s m ([.ref h0, .int a1, .int a2] : List Value).toArray below meth c s.heap [] 0 0 (MQ below (vp_Sl (fun r => r = ru)) ([.ref h0, .int a1, .int a2] : List Value).toArray s 0 0 (fun _ => False)) (F0 m 64 ls []) := by
    intro x3_64 ls hrun hl
    rw [ek64] at hrun
    refine lv_lload_n hx hb dX0_average_64 rfl (lv_at hl 0 rfl) ?_
    exact W.lret hx hb hr (fun t ht _ => ⟨_, rfl, Option.some.inj hrun, ht⟩) (fun _ h => by cases h) dX0_average_65
  have L5 : ∀ (n : Nat) (x3_5 : Int64) (x5_5 : Int32) (ls : Array Slot), fX0_average_p5 N a1 a2 c1 c2 c3 c4 k64 n x3_5 x5_5 = some ru → lv_has ls 8 [(0, .ref h0), (1, .int a1), (2, .int a2), (3, .long x3_5), (5, .int x5_5)] → W p l e (headSpec wsX0_average ({ frames := 3, cells := 0, slots := 0, locals := 69 } : Room)).room s m ([.ref h0, .int a1, .int a2] : List Value).toArray below meth c s.heap [] 0 0 (MQ below (vp_Sl (fun r => r = ru)) ([.ref h0, .int a1, .int a2] : List Value).toArray s 0 0 (fun _ => False)) (F0 m 5 ls []) := by
    intro n
    induction n with
    | zero => intro x3_5 x5_5 ls hrun; rw [fX0_average_p5] at hrun; exact on_e hrun
    | succ n ih =>
      intro x3_5 x5_5 ls hrun hl
      rw [fX0_average_p5] at hrun
      refine lv_iload hx hb dX0_average_5 (lv_at hl 4 rfl) ?_
      refine lv_iconst (v := (4 : Int32)) hx hb dX0_average_7 (by decide) ?_
      refine lv_icmp_ge (tgt := 64) hx hb dX0_average_8 (by decide) (fun cc => ?_) (fun cc => ?_)
      · have hrun := oi_t hrun cc
        exact J64 x3_5 ls hrun (lv_sub hl [3] rfl)
      · have hrun := oi_f hrun cc
        refine lv_ldc2 (v := (10 : Int64)) hx hb hown (hts (.constantLong RX0 50 (10 : Int64)) (by decide +kernel)) dX0_average_11 ?_
        refine lv_aload_n hx hb dX0_average_14 rfl (lv_at hl 0 rfl) ?_
        refine lv_iload_n hx hb dX0_average_15 rfl (lv_at hl 1 rfl) ?_
        refine lv_iload_n hx hb dX0_average_16 rfl (lv_at hl 2 rfl) ?_
        obtain ⟨q17, hc17, hrun⟩ := ob_e hrun
        refine wz_csl (va_runV (As := [.int a1, .int a2]) (rest := [.long (10 : Int64)]) ⟨hx, hb, hml, hown, hts⟩ (tX0_worthOf l dC dI t h0 h4 k4 (.ref h1) (.ref h2) (.ref h3) (g0_known) N a1 a2 c4 q17 hc17) (cwV 2 hts gX0_average_X0_worthOf rfl rfl rfl (by decide +kernel) ⟨Nat.le_of_ble_eq_true rfl, Nat.le_of_ble_eq_true rfl⟩) (wz_pVrG (hP.sub (ws' := [(h0, .inr (0, [.ref h1, .ref h2, .ref h4, .ref h3, g0_known])), (h4, .inl (k4, 81, .inr (.inl c4)))]) [0, 4] rfl) (hK.sub (tys' := [(k4, .long)]) [3] rfl) hG va_S.rf (va_recv hK hP (ci := 0) (q0 := 0) rfl rfl)) rfl rfl hl.1 rfl (lv_room (Nat.le_of_ble_eq_true rfl)) dX0_average_17 ⟨Nat.zero_le _, Nat.zero_le _⟩) ?_
        refine lv_lmul hx hb dX0_average_20 ?_
        refine lv_lstore (lv' := [(6, .long ((10 : Int64) * q17)), (0, .ref h0), (1, .int a1), (2, .int a2), (3, .long x3_5), (5, .int x5_5)]) hx hb dX0_average_21 hl (by decide) rfl (fun ls hl => ?_)
        refine lv_iload_n hx hb dX0_average_23 rfl (lv_at hl 3 rfl) ?_
        obtain ⟨k42, ek42, hrun⟩ := jn_e hrun
        have J42 : ∀ (x6_42 : Int64) (ls : Array Slot), k42 x6_42 = some ru → lv_has ls 8 [(0, .ref h0), (1, .int a1), (2, .int a2), (3, .long x3_5), (5, .int x5_5), (6, .long x6_42)] → W p l e (headSpec wsX0_average ({ frames := 3, cells := 0, slots := 0, locals := 69 } : Room)).room s m ([.ref h0, .int a1, .int a2] : List Value).toArray below meth c s.heap [] 0 0 (MQ below (vp_Sl (fun r => r = ru)) ([.ref h0, .int a1, .int a2] : List Value).toArray s 0 0 (fun _ => False)) (F0 m 42 ls []) := by
          intro x6_42 ls hrun hl
          rw [ek42] at hrun
          refine lv_lload_n hx hb dX0_average_42 rfl (lv_at hl 3 rfl) ?_
          refine lv_aload_n hx hb dX0_average_43 rfl (lv_at hl 0 rfl) ?_
          refine va_get (D := (dC, dI)) (ci := 0) (v := .ref h1) (C := RX0) (T := TX0) (N := 5) hx hb hts hinX0 hown hK hP 0 rfl rfl 0 (by decide) (hts (.fieldLink RX0 9 "WasItOut$Asks" "comes" "[I") (by decide +kernel)) (fun _ h9 => h9) rfl dX0_average_44 ?_
          refine lv_iload hx hb dX0_average_47 (lv_at hl 4 rfl) ?_
          obtain ⟨q49, hc49, hrun⟩ := ob_e hrun
          refine wz_csi (va_runS (As := [.ref h1, .int x5_5]) (rest := [.long x3_5]) ⟨hx, hb, hml, hown, hts⟩ (tX0_tenths l dC dI h1 k1 4 N x5_5 c1 q49 hc49) (va_cwS 2 hts gX0_average_X0_tenths rfl rfl rfl (by decide +kernel) ⟨Nat.le_of_ble_eq_true rfl, Nat.le_of_ble_eq_true rfl⟩) (wz_pSr (hP.sub (ws' := [(h1, .inl (k1, 4, .inl c1))]) [1] rfl) (hK.sub (tys' := [(k1, .int)]) [0] rfl)) rfl rfl hl.1 rfl (lv_room (Nat.le_of_ble_eq_true rfl)) dX0_average_49 ⟨Nat.zero_le _, Nat.zero_le _⟩) ?_
          refine lv_i2l (v := q49.toInt64) hx hb dX0_average_52 rfl ?_
          refine lv_lload hx hb dX0_average_53 (lv_at hl 5 rfl) ?_
          refine lv_lmul hx hb dX0_average_55 ?_
          refine lv_ladd hx hb dX0_average_56 ?_
          refine lv_lstore_n (lv' := [(3, .long (x3_5 + (q49.toInt64 * x6_42))), (0, .ref h0), (1, .int a1), (2, .int a2), (5, .int x5_5), (6, .long x6_42)]) hx hb dX0_average_57 rfl hl (by decide) rfl (fun ls hl => ?_)
          refine lv_iinc (v := (x5_5 + (1 : Int32))) (lv' := [(5, .int (x5_5 + (1 : Int32))), (3, .long (x3_5 + (q49.toInt64 * x6_42))), (0, .ref h0), (1, .int a1), (2, .int a2), (6, .long x6_42)]) hx hb dX0_average_58 hl (k := 4) rfl rfl (by decide) rfl (fun ls hl => ?_)
          refine lv_goto (tgt := 5) hx hb dX0_average_61 (by decide) ?_
          exact ih ((x3_5 + (q49.toInt64 * x6_42))) ((x5_5 + (1 : Int32))) ls hrun (lv_sub hl [2, 3, 4, 1, 0] rfl)
        refine lv_if_le (tgt := 42) hx hb dX0_average_24 (by decide) (fun cc => ?_) (fun cc => ?_)
        · have hrun := oi_t hrun cc
          exact J42 (((10 : Int64) * q17)) ls hrun (lv_sub hl [1, 2, 3, 4, 5, 0] rfl)
        · have hrun := oi_f hrun cc
          refine lv_lload hx hb dX0_average_27 (lv_at hl 0 rfl) ?_
          refine lv_aload_n hx hb dX0_average_29 rfl (lv_at hl 1 rfl) ?_
          refine lv_iload_n hx hb dX0_average_30 rfl (lv_at hl 2 rfl) ?_
          refine lv_iload_n hx hb dX0_average_31 rfl (lv_at hl 3 rfl) ?_
          refine lv_iload hx hb dX0_average_32 (lv_at hl 5 rfl) ?_
          obtain ⟨q34, hc34, hrun⟩ := ob_e hrun
          refine wz_csl (va_runV (As := [.int a1, .int a2, .int x5_5]) (rest := [.long ((10 : Int64) * q17)]) ⟨hx, hb, hml, hown, hts⟩ (tX0_asking l dC dI t h0 h2 h3 h4 k2 k3 k4 (.ref h1) (g0_known) N a1 a2 x5_5 c2 c3 c4 q34 hc34) (cwV 3 hts gX0_average_X0_asking rfl rfl rfl (by decide +kernel) ⟨Nat.le_of_ble_eq_true rfl, Nat.le_of_ble_eq_true rfl⟩) (wz_pVrG (hP.sub (ws' := [(h0, .inr (0, [.ref h1, .ref h2, .ref h4, .ref h3, g0_known])), (h2, .inl (k2, 4, .inl c2)), (h3, .inl (k3, 9, .inr (.inl c3))), (h4, .inl (k4, 81, .inr (.inl c4)))]) [0, 2, 3, 4] rfl) (hK.sub (tys' := [(k2, .int), (k3, .long), (k4, .long)]) [1, 2, 3] rfl) hG va_S.rf (va_recv hK hP (ci := 0) (q0 := 0) rfl rfl)) rfl rfl hl.1 rfl (lv_room (Nat.le_of_ble_eq_true rfl)) dX0_average_34 ⟨Nat.zero_le _, Nat.zero_le _⟩) ?_
          refine va_mmax_long hx hb (hml.trans hl.1.symm) hown (hts (.methodLink RX0 57 Lib.MathLoose.max_long.x) (by decide +kernel)) (hts (.static Lib.MathLoose.max_long.x) (by decide +kernel)) (hts (.initialized "java/lang/Math") (by decide +kernel)) (hts (.code Lib.MathLoose.max_long.x Lib.MathLoose.max_long.code 4 (some .long)) (by decide +kernel)) (Nat.le_of_ble_eq_true rfl) (Nat.le_of_ble_eq_true rfl) (Nat.zero_le _) (Nat.zero_le _) dX0_average_37 ?_
          refine lv_lstore (lv' := [(6, .long (if q34 < ((10 : Int64) * q17) then ((10 : Int64) * q17) else q34)), (0, .ref h0), (1, .int a1), (2, .int a2), (3, .long x3_5), (5, .int x5_5)]) hx hb dX0_average_40 hl (by decide) rfl (fun ls hl => ?_)
          exact J42 ((if q34 < ((10 : Int64) * q17) then ((10 : Int64) * q17) else q34)) ls hrun (lv_sub hl [1, 2, 3, 4, 5, 0] rfl)
  exact L5 N ((0 : Int64)) ((0 : Int32)) ls hrun (lv_sub hl [2, 3, 4, 1, 0] rfl)
set_option maxHeartbeats 4000000 in
set_option maxRecDepth 100000 in
theorem tX0_commonDivisor (l : Launch) (dC : Nat → ClassId) (dI : Nat → Nat → Nat) (N : Nat) (a0 : Int64) (a2 : Int64)  (ru : Int64) (hm : fX0_commonDivisor N a0 a2 = some ru) : Met l yX0_commonDivisor wsX0_commonDivisor ({ frames := 0, cells := 0, slots := 0, locals := 0 } : Room) (va_Pc [.long a0, .long a2] (fun U => va_P (dC, dI) vwCl [] U.heap ∧ va_K (dC, dI) vwCl [] U)) (vp_Sl (fun r => r = ru)) 0 0 (fun _ => False) := by
  refine Met.ofW (cc := cX0_commonDivisor) (maxL := 7) (ret := (some .long)) (by decide) rfl ?_
  intro p e s m args below meth c s₁ B hml hv
  obtain ⟨rfl, hP, hK⟩ := hv
  have hx := B.exec
  have hb := B.bytes
  have hr := B.returns
  have hts := atoms_spec (ws := wsX0_commonDivisor) B.pre
  have hown : s.vm.findClass RX0 = some m.cls := findClass_of_methodNamed B.named
  have hlocks := B.notSynchronized
  have hl := lv_entry ([.long a0, .long a2]) (n := 7) (Nat.le_of_ble_eq_true rfl)
  rw [lg_entry_eq]
  generalize (lg_sl ([.long a0, .long a2]) ++ List.replicate (7 - (lg_sl ([.long a0, .long a2])).length) Slot.unset).toArray = ls at hl ⊢
  have hl : lv_has ls 7 [(0, .long a0), (2, .long a2)] := hl
  have hrun := hm
  rw [fX0_commonDivisor] at hrun
  refine lv_iconst (v := (0 : Int32)) hx hb dX0_commonDivisor_0 (by decide) ?_
  refine lv_istore (lv' := [(4, .int (0 : Int32)), (0, .long a0), (2, .long a2)]) hx hb dX0_commonDivisor_1 hl (by decide) rfl (fun ls hl => ?_)
  obtain ⟨k33, ek33, hrun⟩ := jn_e hrun
  have J33 : ∀ (x0_33 : Int64) (ls : Array Slot), k33 x0_33 = some ru → lv_has ls 7 [(0, .long x0_33)] → W p l e (headSpec wsX0_commonDivisor ({ frames := 0, cells := 0, slots := 0, locals := 0 } : Room)).room s m ([.long a0, .long a2] : List Value).toArray below meth c s.heap [] 0 0 (MQ below (vp_Sl (fun r => r = ru)) ([.long a0, .long a2] : List Value).toArray s 0 0 (fun _ => False)) (F0 m 33 ls []) := by
    intro x0_33 ls hrun hl
    rw [ek33] at hrun
    refine lv_lload_n hx hb dX0_commonDivisor_33 rfl (lv_at hl 0 rfl) ?_
    exact W.lret hx hb hr (fun t ht _ => ⟨_, rfl, Option.some.inj hrun, ht⟩) (fun _ h => by cases h) dX0_commonDivisor_34
  have L3 : ∀ (n : Nat) (x0_3 : Int64) (x2_3 : Int64) (x4_3 : Int32) (ls : Array Slot), fX0_commonDivisor_p3 N  k33 n x0_3 x2_3 x4_3 = some ru → lv_has ls 7 [(0, .long x0_3), (2, .long x2_3), (4, .int x4_3)] → W p l e (headSpec wsX0_commonDivisor ({ frames := 0, cells := 0, slots := 0, locals := 0 } : Room)).room s m ([.long a0, .long a2] : List Value).toArray below meth c s.heap [] 0 0 (MQ below (vp_Sl (fun r => r = ru)) ([.long a0, .long a2] : List Value).toArray s 0 0 (fun _ => False)) (F0 m 3 ls []) := by
    intro n
    induction n with
    | zero => intro x0_3 x2_3 x4_3 ls hrun; rw [fX0_commonDivisor_p3] at hrun; exact on_e hrun
    | succ n ih =>
      intro x0_3 x2_3 x4_3 ls hrun hl
      rw [fX0_commonDivisor_p3] at hrun
      refine lv_iload hx hb dX0_commonDivisor_3 (lv_at hl 2 rfl) ?_
      refine lv_sipush (v := (200 : Int32)) hx hb dX0_commonDivisor_5 (by decide) ?_
      refine lv_icmp_ge (tgt := 33) hx hb dX0_commonDivisor_8 (by decide) (fun cc => ?_) (fun cc => ?_)
      · have hrun := oi_t hrun cc
        exact J33 x0_3 ls hrun (lv_sub hl [0] rfl)
      · have hrun := oi_f hrun cc
        refine lv_lload_n hx hb dX0_commonDivisor_11 rfl (lv_at hl 1 rfl) ?_
        refine lv_lconst (v := (0 : Int64)) hx hb dX0_commonDivisor_12 (by decide) ?_
        refine W.lcmp hx hb dX0_commonDivisor_13 ?_
        refine lv_if_eq (tgt := 33) hx hb dX0_commonDivisor_14 (by decide) (fun cc => ?_) (fun cc => ?_)
        · have hrun := oi_t hrun cc
          exact J33 x0_3 ls hrun (lv_sub hl [0] rfl)
        · have hrun := oi_f hrun cc
          refine lv_lload_n hx hb dX0_commonDivisor_17 rfl (lv_at hl 0 rfl) ?_
          refine lv_lload_n hx hb dX0_commonDivisor_18 rfl (lv_at hl 1 rfl) ?_
          obtain ⟨hne, hrun⟩ := oi_g hrun
          refine lv_lrem hx hb dX0_commonDivisor_19 hne ?_
          refine lv_lstore (lv' := [(5, .long (x0_3 - x0_3 / x2_3 * x2_3)), (0, .long x0_3), (2, .long x2_3), (4, .int x4_3)]) hx hb dX0_commonDivisor_20 hl (by decide) rfl (fun ls hl => ?_)
          refine lv_lload_n hx hb dX0_commonDivisor_22 rfl (lv_at hl 2 rfl) ?_
          refine lv_lstore_n (lv' := [(0, .long x2_3), (5, .long (x0_3 - x0_3 / x2_3 * x2_3)), (2, .long x2_3), (4, .int x4_3)]) hx hb dX0_commonDivisor_23 rfl hl (by decide) rfl (fun ls hl => ?_)
          refine lv_lload hx hb dX0_commonDivisor_24 (lv_at hl 1 rfl) ?_
          refine lv_lstore_n (lv' := [(2, .long (x0_3 - x0_3 / x2_3 * x2_3)), (0, .long x2_3), (5, .long (x0_3 - x0_3 / x2_3 * x2_3)), (4, .int x4_3)]) hx hb dX0_commonDivisor_26 rfl hl (by decide) rfl (fun ls hl => ?_)
          refine lv_iinc (v := (x4_3 + (1 : Int32))) (lv' := [(4, .int (x4_3 + (1 : Int32))), (2, .long (x0_3 - x0_3 / x2_3 * x2_3)), (0, .long x2_3), (5, .long (x0_3 - x0_3 / x2_3 * x2_3))]) hx hb dX0_commonDivisor_27 hl (k := 3) rfl rfl (by decide) rfl (fun ls hl => ?_)
          refine lv_goto (tgt := 3) hx hb dX0_commonDivisor_30 (by decide) ?_
          exact ih x2_3 ((x0_3 - x0_3 / x2_3 * x2_3)) ((x4_3 + (1 : Int32))) ls hrun (lv_sub hl [2, 1, 0] rfl)
  exact L3 N a0 a2 ((0 : Int32)) ls hrun (lv_sub hl [1, 2, 0] rfl)
set_option maxHeartbeats 4000000 in
set_option maxRecDepth 100000 in
theorem tX0_learn (l : Launch) (dC : Nat → ClassId) (dI : Nat → Nat → Nat) (t : Nat → Nat) (sz : Nat) (h0 h1 h2 h3 h4 : Nat) (k1 k2 k3 k4 : ClassId) (N : Nat)  (v0_known : Int32) (c1 : Nat → Int32) (c2 : Nat → Int32) (c3 : Nat → Int64) (c4 : Nat → Int64) (ru : (Int32) × (Nat → Int64) × (Nat → Int64)) (hm : fX0_learn N v0_known c1 c2 c3 c4 = some ru) : Met l yX0_learn wsX0_learn ({ frames := 4, cells := 0, slots := 0, locals := 96 } : Room) (va_Pc [.ref h0] (fun U => U.heap.size = sz ∧ va_P (dC, dI) vwCl [(h0, .inr (0, [.ref h1, .ref h2, .ref h4, .ref h3, .int v0_known])), (h1, .inl (k1, 4, .inl c1)), (h2, .inl (k2, 4, .inl c2)), (h3, .inl (k3, 9, .inr (.inl c3))), (h4, .inl (k4, 81, .inr (.inl c4)))] U.heap ∧ va_K (dC, dI) vwCl [(k1, .int), (k2, .int), (k3, .long), (k4, .long)] U ∧ va_D (fun _ => True) [(h0, .inr (0, [.ref h1, .ref h2, .ref h4, .ref h3, .int v0_known])), (h1, .inl (k1, 4, .inl c1)), (h2, .inl (k2, 4, .inl c2)), (h3, .inl (k3, 9, .inr (.inl c3))), (h4, .inl (k4, 81, .inr (.inl c4)))] ∧ gG t (va_A [(h0, .inr (0, [.ref h1, .ref h2, .ref h4, .ref h3, .int v0_known])), (h1, .inl (k1, 4, .inl c1)), (h2, .inl (k2, 4, .inl c2)), (h3, .inl (k3, 9, .inr (.inl c3))), (h4, .inl (k4, 81, .inr (.inl c4)))] sz) U U.heap)) (va_Qv (fun (_ : Unit) => True) (fun (_ : Unit) t => va_P (dC, dI) vwCl [(h0, .inr (0, [.ref h1, .ref h2, .ref h4, .ref h3, .int ru.1])), (h1, .inl (k1, 4, .inl c1)), (h2, .inl (k2, 4, .inl c2)), (h3, .inl (k3, 9, .inr (.inl ru.2.1))), (h4, .inl (k4, 81, .inr (.inl ru.2.2)))] t.heap ∧ va_K (dC, dI) vwCl [(k1, .int), (k2, .int), (k3, .long), (k4, .long)] t ∧ va_D (va_A [(h0, .inr (0, [.ref h1, .ref h2, .ref h4, .ref h3, .int v0_known])), (h1, .inl (k1, 4, .inl c1)), (h2, .inl (k2, 4, .inl c2)), (h3, .inl (k3, 9, .inr (.inl c3))), (h4, .inl (k4, 81, .inr (.inl c4)))] sz) [(h0, .inr (0, [.ref h1, .ref h2, .ref h4, .ref h3, .int ru.1])), (h1, .inl (k1, 4, .inl c1)), (h2, .inl (k2, 4, .inl c2)), (h3, .inl (k3, 9, .inr (.inl ru.2.1))), (h4, .inl (k4, 81, .inr (.inl ru.2.2)))]) (va_A [(h0, .inr (0, [.ref h1, .ref h2, .ref h4, .ref h3, .int v0_known])), (h1, .inl (k1, 4, .inl c1)), (h2, .inl (k2, 4, .inl c2)), (h3, .inl (k3, 9, .inr (.inl c3))), (h4, .inl (k4, 81, .inr (.inl c4)))] sz)) 0 0 (va_A [(h0, .inr (0, [.ref h1, .ref h2, .ref h4, .ref h3, .int v0_known])), (h1, .inl (k1, 4, .inl c1)), (h2, .inl (k2, 4, .inl c2)), (h3, .inl (k3, 9, .inr (.inl c3))), (h4, .inl (k4, 81, .inr (.inl c4)))] sz) := by
  refine Met.ofW (cc := cX0_learn) (maxL := 5) (ret := none) (by decide) rfl ?_
  intro p e s m args below meth c s₁ B hml hv
  obtain ⟨rfl, hsz, hP, hK, hD0, hG⟩ := hv
  have hx := B.exec
  have hb := B.bytes
  have hr := B.returns
  have hts := atoms_spec (ws := wsX0_learn) B.pre
  have hown : s.vm.findClass RX0 = some m.cls := findClass_of_methodNamed B.named
  have hlocks := B.notSynchronized
  subst hsz
  have hD := hD0.self (sz := s.heap.size)
  generalize hAe : va_A [(h0, .inr (0, [.ref h1, .ref h2, .ref h4, .ref h3, .int v0_known])), (h1, .inl (k1, 4, .inl c1)), (h2, .inl (k2, 4, .inl c2)), (h3, .inl (k3, 9, .inr (.inl c3))), (h4, .inl (k4, 81, .inr (.inl c4)))] s.heap.size = A at hD hG ⊢
  have hA : ∀ q : Nat, s.heap.size ≤ q → A q := fun q h => by rw [← hAe]; exact Or.inr h
  have hS : va_S A s.heap s.heap [] := va_S.rf
  have hinX0 : ∀ w ∈ wsX00, w ∈ wsX0_learn := by decide +kernel
  have hl := lv_entry ([.ref h0]) (n := 5) (Nat.le_of_ble_eq_true rfl)
  rw [lg_entry_eq]
  generalize (lg_sl ([.ref h0]) ++ List.replicate (5 - (lg_sl ([.ref h0])).length) Slot.unset).toArray = ls at hl ⊢
  have hl : lv_has ls 5 [(0, .ref h0)] := hl
  have hrun := hm
  rw [fX0_learn] at hrun
  obtain ⟨H, hHe⟩ : ∃ H, H = s.heap := ⟨_, rfl⟩
  obtain ⟨locs, hLe⟩ : ∃ locs : List Loc, locs = [] := ⟨_, rfl⟩
  rw [← hHe] at hP
  have hS : va_S A s.heap H locs := by rw [hHe, hLe]; exact hS
  have key : W p l e (headSpec wsX0_learn ({ frames := 4, cells := 0, slots := 0, locals := 96 } : Room)).room s m ([.ref h0] : List Value).toArray below meth c H locs 0 0 (MQ below (va_Qv (fun (_ : Unit) => True) (fun (_ : Unit) t => va_P (dC, dI) vwCl [(h0, .inr (0, [.ref h1, .ref h2, .ref h4, .ref h3, .int ru.1])), (h1, .inl (k1, 4, .inl c1)), (h2, .inl (k2, 4, .inl c2)), (h3, .inl (k3, 9, .inr (.inl ru.2.1))), (h4, .inl (k4, 81, .inr (.inl ru.2.2)))] t.heap ∧ va_K (dC, dI) vwCl [(k1, .int), (k2, .int), (k3, .long), (k4, .long)] t ∧ va_D A [(h0, .inr (0, [.ref h1, .ref h2, .ref h4, .ref h3, .int ru.1])), (h1, .inl (k1, 4, .inl c1)), (h2, .inl (k2, 4, .inl c2)), (h3, .inl (k3, 9, .inr (.inl ru.2.1))), (h4, .inl (k4, 81, .inr (.inl ru.2.2)))]) A) ([.ref h0] : List Value).toArray s 0 0 A) (F0 m 0 ls []) := by
    clear hHe hLe
    refine lv_aload_n hx hb dX0_learn_0 rfl (lv_at hl 0 rfl) ?_
    refine va_get (D := (dC, dI)) (ci := 0) (v := .int v0_known) (C := RX0) (T := TX0) (N := 5) hx hb hts hinX0 hown hK hP 0 rfl rfl 4 (by decide) (hts (.fieldLink RX0 27 "WasItOut$Asks" "known" "Z") (by decide +kernel)) (fun _ h9 => h9) rfl dX0_learn_1 ?_
    refine lv_if_eq (tgt := 8) hx hb dX0_learn_4 (by decide) (fun cc => ?_) (fun cc => ?_)
    · have hrun := oi_t hrun cc
      refine lv_aload_n hx hb dX0_learn_8 rfl (lv_at hl 0 rfl) ?_
      refine lv_iconst (v := (1 : Int32)) hx hb dX0_learn_9 (by decide) ?_
      refine va_put (D := (dC, dI)) (ci := 0) (v := .int (1 : Int32)) (ty := .boolean) (C := RX0) (T := TX0) (N := 5) hx hb hts hinX0 tyX0 tyX0_ok nmX0 hown hK hP hD hS 0 rfl rfl 4 (by decide) (hts (.fieldLink RX0 27 "WasItOut$Asks" "known" "Z") (by decide +kernel)) (fun _ h9 => h9) rfl (by decide +kernel) rfl rfl (Nat.le_of_ble_eq_true rfl) dX0_learn_10 (fun H locs hP hD hS => ?_)
      have hP : va_P (dC, dI) vwCl [(h0, .inr (0, [.ref h1, .ref h2, .ref h4, .ref h3, .int (1 : Int32)])), (h1, .inl (k1, 4, .inl c1)), (h2, .inl (k2, 4, .inl c2)), (h3, .inl (k3, 9, .inr (.inl c3))), (h4, .inl (k4, 81, .inr (.inl c4)))] H := hP
      have hD : va_D A [(h0, .inr (0, [.ref h1, .ref h2, .ref h4, .ref h3, .int (1 : Int32)])), (h1, .inl (k1, 4, .inl c1)), (h2, .inl (k2, 4, .inl c2)), (h3, .inl (k3, 9, .inr (.inl c3))), (h4, .inl (k4, 81, .inr (.inl c4)))] := hD
      refine lv_lconst (v := (1 : Int64)) hx hb dX0_learn_13 (by decide) ?_
      refine lv_lstore_n (lv' := [(1, .long (1 : Int64)), (0, .ref h0)]) hx hb dX0_learn_14 rfl hl (by decide) rfl (fun ls hl => ?_)
      refine lv_iconst (v := (0 : Int32)) hx hb dX0_learn_15 (by decide) ?_
      refine lv_istore_n (lv' := [(3, .int (0 : Int32)), (1, .long (1 : Int64)), (0, .ref h0)]) hx hb dX0_learn_16 rfl hl (by decide) rfl (fun ls hl => ?_)
      obtain ⟨k87, ek87, hrun⟩ := jn_e hrun
      have J87 : ∀ (c3_87 : Nat → Int64) (c4_87 : Nat → Int64) (ls : Array Slot) (H : Heap) (locs : List Loc), k87 c3_87 c4_87 = some ru → va_P (dC, dI) vwCl [(h0, .inr (0, [.ref h1, .ref h2, .ref h4, .ref h3, .int (1 : Int32)])), (h1, .inl (k1, 4, .inl c1)), (h2, .inl (k2, 4, .inl c2)), (h3, .inl (k3, 9, .inr (.inl c3_87))), (h4, .inl (k4, 81, .inr (.inl c4_87)))] H → va_D A [(h0, .inr (0, [.ref h1, .ref h2, .ref h4, .ref h3, .int (1 : Int32)])), (h1, .inl (k1, 4, .inl c1)), (h2, .inl (k2, 4, .inl c2)), (h3, .inl (k3, 9, .inr (.inl c3_87))), (h4, .inl (k4, 81, .inr (.inl c4_87)))] → va_S A s.heap H locs → lv_has ls 5 [] → W p l e (headSpec wsX0_learn ({ frames := 4, cells := 0, slots := 0, locals := 96 } : Room)).room s m ([.ref h0] : List Value).toArray below meth c H locs 0 0 (MQ below (va_Qv (fun (_ : Unit) => True) (fun (_ : Unit) t => va_P (dC, dI) vwCl [(h0, .inr (0, [.ref h1, .ref h2, .ref h4, .ref h3, .int ru.1])), (h1, .inl (k1, 4, .inl c1)), (h2, .inl (k2, 4, .inl c2)), (h3, .inl (k3, 9, .inr (.inl ru.2.1))), (h4, .inl (k4, 81, .inr (.inl ru.2.2)))] t.heap ∧ va_K (dC, dI) vwCl [(k1, .int), (k2, .int), (k3, .long), (k4, .long)] t ∧ va_D A [(h0, .inr (0, [.ref h1, .ref h2, .ref h4, .ref h3, .int ru.1])), (h1, .inl (k1, 4, .inl c1)), (h2, .inl (k2, 4, .inl c2)), (h3, .inl (k3, 9, .inr (.inl ru.2.1))), (h4, .inl (k4, 81, .inr (.inl ru.2.2)))]) A) ([.ref h0] : List Value).toArray s 0 0 A) (F0 m 87 ls []) := by
        intro c3_87 c4_87 ls H locs hrun hP hD hS hl
        rw [ek87] at hrun
        cases hrun
        have hP9 : va_P (dC, dI) vwCl [(h0, .inr (0, [.ref h1, .ref h2, .ref h4, .ref h3, .int (1 : Int32)])), (h1, .inl (k1, 4, .inl c1)), (h2, .inl (k2, 4, .inl c2)), (h3, .inl (k3, 9, .inr (.inl c3_87))), (h4, .inl (k4, 81, .inr (.inl c4_87)))] H := hP
        have hD9 : va_D A [(h0, .inr (0, [.ref h1, .ref h2, .ref h4, .ref h3, .int (1 : Int32)])), (h1, .inl (k1, 4, .inl c1)), (h2, .inl (k2, 4, .inl c2)), (h3, .inl (k3, 9, .inr (.inl c3_87))), (h4, .inl (k4, 81, .inr (.inl c4_87)))] := hD
        exact W.vret hx hb hr (fun t ht hW => ⟨⟨(), rfl, trivial, by rw [ht]; exact hP9, va_K.moved hW.alike hK, hD9⟩, hS.F ht⟩) hS.2.2 dX0_learn_87
      have L17 : ∀ (n : Nat) (x1_17 : Int64) (x3_17 : Int32) (c3_17 : Nat → Int64) (c4_17 : Nat → Int64) (ls : Array Slot) (H : Heap) (locs : List Loc), fX0_learn_p17 N c1 c2 k87 n x1_17 x3_17 c3_17 c4_17 = some ru → va_P (dC, dI) vwCl [(h0, .inr (0, [.ref h1, .ref h2, .ref h4, .ref h3, .int (1 : Int32)])), (h1, .inl (k1, 4, .inl c1)), (h2, .inl (k2, 4, .inl c2)), (h3, .inl (k3, 9, .inr (.inl c3_17))), (h4, .inl (k4, 81, .inr (.inl c4_17)))] H → va_D A [(h0, .inr (0, [.ref h1, .ref h2, .ref h4, .ref h3, .int (1 : Int32)])), (h1, .inl (k1, 4, .inl c1)), (h2, .inl (k2, 4, .inl c2)), (h3, .inl (k3, 9, .inr (.inl c3_17))), (h4, .inl (k4, 81, .inr (.inl c4_17)))] → va_S A s.heap H locs → lv_has ls 5 [(0, .ref h0), (1, .long x1_17), (3, .int x3_17)] → W p l e (headSpec wsX0_learn ({ frames := 4, cells := 0, slots := 0, locals := 96 } : Room)).room s m ([.ref h0] : List Value).toArray below meth c H locs 0 0 (MQ below (va_Qv (fun (_ : Unit) => True) (fun (_ : Unit) t => va_P (dC, dI) vwCl [(h0, .inr (0, [.ref h1, .ref h2, .ref h4, .ref h3, .int ru.1])), (h1, .inl (k1, 4, .inl c1)), (h2, .inl (k2, 4, .inl c2)), (h3, .inl (k3, 9, .inr (.inl ru.2.1))), (h4, .inl (k4, 81, .inr (.inl ru.2.2)))] t.heap ∧ va_K (dC, dI) vwCl [(k1, .int), (k2, .int), (k3, .long), (k4, .long)] t ∧ va_D A [(h0, .inr (0, [.ref h1, .ref h2, .ref h4, .ref h3, .int ru.1])), (h1, .inl (k1, 4, .inl c1)), (h2, .inl (k2, 4, .inl c2)), (h3, .inl (k3, 9, .inr (.inl ru.2.1))), (h4, .inl (k4, 81, .inr (.inl ru.2.2)))]) A) ([.ref h0] : List Value).toArray s 0 0 A) (F0 m 17 ls []) := by
        intro n
        induction n with
        | zero => intro x1_17 x3_17 c3_17 c4_17 ls H locs hrun; rw [fX0_learn_p17] at hrun; exact on_e hrun
        | succ n ih =>
          intro x1_17 x3_17 c3_17 c4_17 ls H locs hrun hP hD hS hl
          rw [fX0_learn_p17] at hrun
          refine lv_iload_n hx hb dX0_learn_17 rfl (lv_at hl 2 rfl) ?_
          refine lv_bipush (v := (9 : Int32)) hx hb dX0_learn_18 (by decide) ?_
          refine lv_icmp_ge (tgt := 87) hx hb dX0_learn_20 (by decide) (fun cc => ?_) (fun cc => ?_)
          · have hrun := oi_t hrun cc
            exact J87 c3_17 c4_17 ls H locs hrun hP hD hS (lv_sub hl [] rfl)
          · have hrun := oi_f hrun cc
            refine lv_aload_n hx hb dX0_learn_23 rfl (lv_at hl 0 rfl) ?_
            refine va_get (D := (dC, dI)) (ci := 0) (v := .ref h3) (C := RX0) (T := TX0) (N := 5) hx hb hts hinX0 hown hK hP 0 rfl rfl 3 (by decide) (hts (.fieldLink RX0 20 "WasItOut$Asks" "scales" "[J") (by decide +kernel)) (fun _ h9 => h9) rfl dX0_learn_24 ?_
            refine lv_iload_n hx hb dX0_learn_27 rfl (lv_at hl 2 rfl) ?_
            refine lv_lload_n hx hb dX0_learn_28 rfl (lv_at hl 1 rfl) ?_
            obtain ⟨hi, hrun⟩ := oi_x hrun
            refine va_last hx hb hK hP hD hS 3 2 rfl rfl hi dX0_learn_29 (fun H locs hP hD hS => ?_)
            have hP : va_P (dC, dI) vwCl [(h0, .inr (0, [.ref h1, .ref h2, .ref h4, .ref h3, .int (1 : Int32)])), (h1, .inl (k1, 4, .inl c1)), (h2, .inl (k2, 4, .inl c2)), (h3, .inl (k3, 9, .inr (.inl (vp_updL c3_17 x3_17.toNatClampNeg x1_17)))), (h4, .inl (k4, 81, .inr (.inl c4_17)))] H := hP
            have hD : va_D A [(h0, .inr (0, [.ref h1, .ref h2, .ref h4, .ref h3, .int (1 : Int32)])), (h1, .inl (k1, 4, .inl c1)), (h2, .inl (k2, 4, .inl c2)), (h3, .inl (k3, 9, .inr (.inl (vp_updL c3_17 x3_17.toNatClampNeg x1_17)))), (h4, .inl (k4, 81, .inr (.inl c4_17)))] := hD
            refine lv_lload_n hx hb dX0_learn_30 rfl (lv_at hl 1 rfl) ?_
            refine lv_ldc2 (v := (100 : Int64)) hx hb hown (hts (.constantLong RX0 52 (100 : Int64)) (by decide +kernel)) dX0_learn_31 ?_
            refine lv_lmul hx hb dX0_learn_34 ?_
            refine lv_lstore_n (lv' := [(1, .long (x1_17 * (100 : Int64))), (0, .ref h0), (3, .int x3_17)]) hx hb dX0_learn_35 rfl hl (by decide) rfl (fun ls hl => ?_)
            refine lv_iconst (v := (0 : Int32)) hx hb dX0_learn_36 (by decide) ?_
            refine lv_istore (lv' := [(4, .int (0 : Int32)), (1, .long (x1_17 * (100 : Int64))), (0, .ref h0), (3, .int x3_17)]) hx hb dX0_learn_37 hl (by decide) rfl (fun ls hl => ?_)
            obtain ⟨k81, ek81, hrun⟩ := jn_e hrun
            have J81 : ∀ (c4_81 : Nat → Int64) (ls : Array Slot) (H : Heap) (locs : List Loc), k81 c4_81 = some ru → va_P (dC, dI) vwCl [(h0, .inr (0, [.ref h1, .ref h2, .ref h4, .ref h3, .int (1 : Int32)])), (h1, .inl (k1, 4, .inl c1)), (h2, .inl (k2, 4, .inl c2)), (h3, .inl (k3, 9, .inr (.inl (vp_updL c3_17 x3_17.toNatClampNeg x1_17)))), (h4, .inl (k4, 81, .inr (.inl c4_81)))] H → va_D A [(h0, .inr (0, [.ref h1, .ref h2, .ref h4, .ref h3, .int (1 : Int32)])), (h1, .inl (k1, 4, .inl c1)), (h2, .inl (k2, 4, .inl c2)), (h3, .inl (k3, 9, .inr (.inl (vp_updL c3_17 x3_17.toNatClampNeg x1_17)))), (h4, .inl (k4, 81, .inr (.inl c4_81)))] → va_S A s.heap H locs → lv_has ls 5 [(0, .ref h0), (1, .long (x1_17 * (100 : Int64))), (3, .int x3_17)] → W p l e (headSpec wsX0_learn ({ frames := 4, cells := 0, slots := 0, locals := 96 } : Room)).room s m ([.ref h0] : List Value).toArray below meth c H locs 0 0 (MQ below (va_Qv (fun (_ : Unit) => True) (fun (_ : Unit) t => va_P (dC, dI) vwCl [(h0, .inr (0, [.ref h1, .ref h2, .ref h4, .ref h3, .int ru.1])), (h1, .inl (k1, 4, .inl c1)), (h2, .inl (k2, 4, .inl c2)), (h3, .inl (k3, 9, .inr (.inl ru.2.1))), (h4, .inl (k4, 81, .inr (.inl ru.2.2)))] t.heap ∧ va_K (dC, dI) vwCl [(k1, .int), (k2, .int), (k3, .long), (k4, .long)] t ∧ va_D A [(h0, .inr (0, [.ref h1, .ref h2, .ref h4, .ref h3, .int ru.1])), (h1, .inl (k1, 4, .inl c1)), (h2, .inl (k2, 4, .inl c2)), (h3, .inl (k3, 9, .inr (.inl ru.2.1))), (h4, .inl (k4, 81, .inr (.inl ru.2.2)))]) A) ([.ref h0] : List Value).toArray s 0 0 A) (F0 m 81 ls []) := by
              intro c4_81 ls H locs hrun hP hD hS hl
              rw [ek81] at hrun
              refine lv_iinc (v := (x3_17 + (1 : Int32))) (lv' := [(3, .int (x3_17 + (1 : Int32))), (0, .ref h0), (1, .long (x1_17 * (100 : Int64)))]) hx hb dX0_learn_81 hl (k := 2) rfl rfl (by decide) rfl (fun ls hl => ?_)
              refine lv_goto (tgt := 17) hx hb dX0_learn_84 (by decide) ?_
              exact ih ((x1_17 * (100 : Int64))) ((x3_17 + (1 : Int32))) ((vp_updL c3_17 x3_17.toNatClampNeg x1_17)) c4_81 ls H locs hrun hP hD hS (lv_sub hl [1, 2, 0] rfl)
            have L39 : ∀ (n : Nat) (x4_39 : Int32) (c4_39 : Nat → Int64) (ls : Array Slot) (H : Heap) (locs : List Loc), fX0_learn_p39 N ((x1_17 * (100 : Int64))) x3_17 c1 c2 ((vp_updL c3_17 x3_17.toNatClampNeg x1_17)) k81 n x4_39 c4_39 = some ru → va_P (dC, dI) vwCl [(h0, .inr (0, [.ref h1, .ref h2, .ref h4, .ref h3, .int (1 : Int32)])), (h1, .inl (k1, 4, .inl c1)), (h2, .inl (k2, 4, .inl c2)), (h3, .inl (k3, 9, .inr (.inl (vp_updL c3_17 x3_17.toNatClampNeg x1_17)))), (h4, .inl (k4, 81, .inr (.inl c4_39)))] H → va_D A [(h0, .inr (0, [.ref h1, .ref h2, .ref h4, .ref h3, .int (1 : Int32)])), (h1, .inl (k1, 4, .inl c1)), (h2, .inl (k2, 4, .inl c2)), (h3, .inl (k3, 9, .inr (.inl (vp_updL c3_17 x3_17.toNatClampNeg x1_17)))), (h4, .inl (k4, 81, .inr (.inl c4_39)))] → va_S A s.heap H locs → lv_has ls 5 [(0, .ref h0), (1, .long (x1_17 * (100 : Int64))), (3, .int x3_17), (4, .int x4_39)] → W p l e (headSpec wsX0_learn ({ frames := 4, cells := 0, slots := 0, locals := 96 } : Room)).room s m ([.ref h0] : List Value).toArray below meth c H locs 0 0 (MQ below (va_Qv (fun (_ : Unit) => True) (fun (_ : Unit) t => va_P (dC, dI) vwCl [(h0, .inr (0, [.ref h1, .ref h2, .ref h4, .ref h3, .int ru.1])), (h1, .inl (k1, 4, .inl c1)), (h2, .inl (k2, 4, .inl c2)), (h3, .inl (k3, 9, .inr (.inl ru.2.1))), (h4, .inl (k4, 81, .inr (.inl ru.2.2)))] t.heap ∧ va_K (dC, dI) vwCl [(k1, .int), (k2, .int), (k3, .long), (k4, .long)] t ∧ va_D A [(h0, .inr (0, [.ref h1, .ref h2, .ref h4, .ref h3, .int ru.1])), (h1, .inl (k1, 4, .inl c1)), (h2, .inl (k2, 4, .inl c2)), (h3, .inl (k3, 9, .inr (.inl ru.2.1))), (h4, .inl (k4, 81, .inr (.inl ru.2.2)))]) A) ([.ref h0] : List Value).toArray s 0 0 A) (F0 m 39 ls []) := by
              intro n
              induction n with
              | zero => intro x4_39 c4_39 ls H locs hrun; rw [fX0_learn_p39] at hrun; exact on_e hrun
              | succ n ih =>
                intro x4_39 c4_39 ls H locs hrun hP hD hS hl
                rw [fX0_learn_p39] at hrun
                refine lv_iload hx hb dX0_learn_39 (lv_at hl 3 rfl) ?_
                refine lv_bipush (v := (9 : Int32)) hx hb dX0_learn_41 (by decide) ?_
                refine lv_icmp_ge (tgt := 81) hx hb dX0_learn_43 (by decide) (fun cc => ?_) (fun cc => ?_)
                · have hrun := oi_t hrun cc
                  exact J81 c4_39 ls H locs hrun hP hD hS (lv_sub hl [0, 1, 2] rfl)
                · have hrun := oi_f hrun cc
                  refine lv_aload_n hx hb dX0_learn_46 rfl (lv_at hl 0 rfl) ?_
                  refine va_get (D := (dC, dI)) (ci := 0) (v := .ref h4) (C := RX0) (T := TX0) (N := 5) hx hb hts hinX0 hown hK hP 0 rfl rfl 2 (by decide) (hts (.fieldLink RX0 16 "WasItOut$Asks" "worths" "[J") (by decide +kernel)) (fun _ h9 => h9) rfl dX0_learn_47 ?_
                  refine lv_iload_n hx hb dX0_learn_50 rfl (lv_at hl 2 rfl) ?_
                  refine lv_bipush (v := (9 : Int32)) hx hb dX0_learn_51 (by decide) ?_
                  refine lv_imul hx hb dX0_learn_53 ?_
                  refine lv_iload hx hb dX0_learn_54 (lv_at hl 3 rfl) ?_
                  refine lv_iadd hx hb dX0_learn_56 ?_
                  refine lv_iload_n hx hb dX0_learn_57 rfl (lv_at hl 2 rfl) ?_
                  obtain ⟨k74, ek74, hrun⟩ := jn_e hrun
                  have J74 : ∀ (z0_74 : Int64) (ls : Array Slot) (H : Heap) (locs : List Loc), k74 z0_74 = some ru → va_P (dC, dI) vwCl [(h0, .inr (0, [.ref h1, .ref h2, .ref h4, .ref h3, .int (1 : Int32)])), (h1, .inl (k1, 4, .inl c1)), (h2, .inl (k2, 4, .inl c2)), (h3, .inl (k3, 9, .inr (.inl (vp_updL c3_17 x3_17.toNatClampNeg x1_17)))), (h4, .inl (k4, 81, .inr (.inl c4_39)))] H → va_D A [(h0, .inr (0, [.ref h1, .ref h2, .ref h4, .ref h3, .int (1 : Int32)])), (h1, .inl (k1, 4, .inl c1)), (h2, .inl (k2, 4, .inl c2)), (h3, .inl (k3, 9, .inr (.inl (vp_updL c3_17 x3_17.toNatClampNeg x1_17)))), (h4, .inl (k4, 81, .inr (.inl c4_39)))] → va_S A s.heap H locs → lv_has ls 5 [(0, .ref h0), (1, .long (x1_17 * (100 : Int64))), (3, .int x3_17), (4, .int x4_39)] → W p l e (headSpec wsX0_learn ({ frames := 4, cells := 0, slots := 0, locals := 96 } : Room)).room s m ([.ref h0] : List Value).toArray below meth c H locs 0 0 (MQ below (va_Qv (fun (_ : Unit) => True) (fun (_ : Unit) t => va_P (dC, dI) vwCl [(h0, .inr (0, [.ref h1, .ref h2, .ref h4, .ref h3, .int ru.1])), (h1, .inl (k1, 4, .inl c1)), (h2, .inl (k2, 4, .inl c2)), (h3, .inl (k3, 9, .inr (.inl ru.2.1))), (h4, .inl (k4, 81, .inr (.inl ru.2.2)))] t.heap ∧ va_K (dC, dI) vwCl [(k1, .int), (k2, .int), (k3, .long), (k4, .long)] t ∧ va_D A [(h0, .inr (0, [.ref h1, .ref h2, .ref h4, .ref h3, .int ru.1])), (h1, .inl (k1, 4, .inl c1)), (h2, .inl (k2, 4, .inl c2)), (h3, .inl (k3, 9, .inr (.inl ru.2.1))), (h4, .inl (k4, 81, .inr (.inl ru.2.2)))]) A) ([.ref h0] : List Value).toArray s 0 0 A) (F0 m 74 ls [.long z0_74, .int ((x3_17 * (9 : Int32)) + x4_39), .ref h4]) := by
                    intro z0_74 ls H locs hrun hP hD hS hl
                    rw [ek74] at hrun
                    obtain ⟨hi, hrun⟩ := oi_x hrun
                    refine va_last hx hb hK hP hD hS 4 3 rfl rfl hi dX0_learn_74 (fun H locs hP hD hS => ?_)
                    have hP : va_P (dC, dI) vwCl [(h0, .inr (0, [.ref h1, .ref h2, .ref h4, .ref h3, .int (1 : Int32)])), (h1, .inl (k1, 4, .inl c1)), (h2, .inl (k2, 4, .inl c2)), (h3, .inl (k3, 9, .inr (.inl (vp_updL c3_17 x3_17.toNatClampNeg x1_17)))), (h4, .inl (k4, 81, .inr (.inl (vp_updL c4_39 ((x3_17 * (9 : Int32)) + x4_39).toNatClampNeg z0_74))))] H := hP
                    have hD : va_D A [(h0, .inr (0, [.ref h1, .ref h2, .ref h4, .ref h3, .int (1 : Int32)])), (h1, .inl (k1, 4, .inl c1)), (h2, .inl (k2, 4, .inl c2)), (h3, .inl (k3, 9, .inr (.inl (vp_updL c3_17 x3_17.toNatClampNeg x1_17)))), (h4, .inl (k4, 81, .inr (.inl (vp_updL c4_39 ((x3_17 * (9 : Int32)) + x4_39).toNatClampNeg z0_74))))] := hD
                    refine lv_iinc (v := (x4_39 + (1 : Int32))) (lv' := [(4, .int (x4_39 + (1 : Int32))), (0, .ref h0), (1, .long (x1_17 * (100 : Int64))), (3, .int x3_17)]) hx hb dX0_learn_75 hl (k := 3) rfl rfl (by decide) rfl (fun ls hl => ?_)
                    refine lv_goto (tgt := 39) hx hb dX0_learn_78 (by decide) ?_
                    exact ih ((x4_39 + (1 : Int32))) ((vp_updL c4_39 ((x3_17 * (9 : Int32)) + x4_39).toNatClampNeg z0_74)) ls H locs hrun hP hD hS (lv_sub hl [1, 2, 3, 0] rfl)
                  refine lv_if_ne (tgt := 65) hx hb dX0_learn_58 (by decide) (fun cc => ?_) (fun cc => ?_)
                  · have hrun := oi_t hrun cc
                    refine lv_aload_n hx hb dX0_learn_65 rfl (lv_at hl 0 rfl) ?_
                    refine lv_iload_n hx hb dX0_learn_66 rfl (lv_at hl 2 rfl) ?_
                    refine lv_iconst (v := (1 : Int32)) hx hb dX0_learn_67 (by decide) ?_
                    refine lv_isub hx hb dX0_learn_68 ?_
                    refine lv_iload hx hb dX0_learn_69 (lv_at hl 3 rfl) ?_
                    obtain ⟨q71, hc71, hrun⟩ := ob_e hrun
                    refine wz_csl (va_runV (As := [.int (x3_17 - (1 : Int32)), .int x4_39]) (rest := [.int ((x3_17 * (9 : Int32)) + x4_39), .ref h4]) ⟨hx, hb, hml, hown, hts⟩ (tX0_average l dC dI t h0 h1 h2 h3 h4 k1 k2 k3 k4 (.int (1 : Int32)) N ((x3_17 - (1 : Int32))) x4_39 c1 c2 ((vp_updL c3_17 x3_17.toNatClampNeg x1_17)) c4_39 q71 hc71) (cwV 2 hts gX0_learn_X0_average rfl rfl rfl (by decide +kernel) ⟨Nat.le_of_ble_eq_true rfl, Nat.le_of_ble_eq_true rfl⟩) (wz_pVrG (hP.sub (ws' := [(h0, .inr (0, [.ref h1, .ref h2, .ref h4, .ref h3, .int (1 : Int32)])), (h1, .inl (k1, 4, .inl c1)), (h2, .inl (k2, 4, .inl c2)), (h3, .inl (k3, 9, .inr (.inl (vp_updL c3_17 x3_17.toNatClampNeg x1_17)))), (h4, .inl (k4, 81, .inr (.inl c4_39)))]) [0, 1, 2, 3, 4] rfl) (hK.sub (tys' := [(k1, .int), (k2, .int), (k3, .long), (k4, .long)]) [0, 1, 2, 3] rfl) hG hS (va_recv hK hP (ci := 0) (q0 := 0) rfl rfl)) rfl rfl hl.1 rfl (lv_room (Nat.le_of_ble_eq_true rfl)) dX0_learn_71 ⟨Nat.zero_le _, Nat.zero_le _⟩) ?_
                    exact J74 q71 ls H locs hrun hP hD hS hl
                  · have hrun := oi_n hrun cc
                    refine lv_lconst (v := (0 : Int64)) hx hb dX0_learn_61 (by decide) ?_
                    refine lv_goto (tgt := 74) hx hb dX0_learn_62 (by decide) ?_
                    exact J74 ((0 : Int64)) ls H locs hrun hP hD hS hl
            exact L39 N ((0 : Int32)) c4_17 ls H locs hrun hP hD hS (lv_sub hl [2, 1, 3, 0] rfl)
      exact L17 N ((1 : Int64)) ((0 : Int32)) c3 c4 ls H locs hrun hP hD hS (lv_sub hl [2, 1, 0] rfl)
    · have hrun := oi_f hrun cc
      cases hrun
      have hP9 : va_P (dC, dI) vwCl [(h0, .inr (0, [.ref h1, .ref h2, .ref h4, .ref h3, .int v0_known])), (h1, .inl (k1, 4, .inl c1)), (h2, .inl (k2, 4, .inl c2)), (h3, .inl (k3, 9, .inr (.inl c3))), (h4, .inl (k4, 81, .inr (.inl c4)))] H := hP
      have hD9 : va_D A [(h0, .inr (0, [.ref h1, .ref h2, .ref h4, .ref h3, .int v0_known])), (h1, .inl (k1, 4, .inl c1)), (h2, .inl (k2, 4, .inl c2)), (h3, .inl (k3, 9, .inr (.inl c3))), (h4, .inl (k4, 81, .inr (.inl c4)))] := hD
      exact W.vret hx hb hr (fun t ht hW => ⟨⟨(), rfl, trivial, by rw [ht]; exact hP9, va_K.moved hW.alike hK, hD9⟩, hS.F ht⟩) hS.2.2 dX0_learn_7
  rw [hHe, hLe] at key
  exact key
set_option maxHeartbeats 4000000 in
set_option maxRecDepth 100000 in
theorem tX0_fraction (l : Launch) (dC : Nat → ClassId) (dI : Nat → Nat → Nat) (t : Nat → Nat) (sz : Nat) (h0 h1 h2 h3 h4 : Nat) (k1 k2 k3 k4 : ClassId) (N : Nat) (a1 : Int32) (a2 : Int32) (a3 : Int32) (v0_known : Int32) (c1 : Nat → Int32) (c2 : Nat → Int32) (c3 : Nat → Int64) (c4 : Nat → Int64) (ru : Int64 × (Int32) × (Nat → Int64) × (Nat → Int64)) (hm : fX0_fraction N a1 a2 a3 v0_known c1 c2 c3 c4 = some ru) : Met l yX0_fraction wsX0_fraction ({ frames := 5, cells := 0, slots := 0, locals := 120 } : Room) (va_Pc [.ref h0, .int a1, .int a2, .int a3] (fun U => U.heap.size = sz ∧ va_P (dC, dI) vwCl [(h0, .inr (0, [.ref h1, .ref h2, .ref h4, .ref h3, .int v0_known])), (h1, .inl (k1, 4, .inl c1)), (h2, .inl (k2, 4, .inl c2)), (h3, .inl (k3, 9, .inr (.inl c3))), (h4, .inl (k4, 81, .inr (.inl c4)))] U.heap ∧ va_K (dC, dI) vwCl [(k1, .int), (k2, .int), (k3, .long), (k4, .long)] U ∧ va_D (fun _ => True) [(h0, .inr (0, [.ref h1, .ref h2, .ref h4, .ref h3, .int v0_known])), (h1, .inl (k1, 4, .inl c1)), (h2, .inl (k2, 4, .inl c2)), (h3, .inl (k3, 9, .inr (.inl c3))), (h4, .inl (k4, 81, .inr (.inl c4)))] ∧ gG t (va_A [(h0, .inr (0, [.ref h1, .ref h2, .ref h4, .ref h3, .int v0_known])), (h1, .inl (k1, 4, .inl c1)), (h2, .inl (k2, 4, .inl c2)), (h3, .inl (k3, 9, .inr (.inl c3))), (h4, .inl (k4, 81, .inr (.inl c4)))] sz) U U.heap)) (va_Ql (fun r (_ : Unit) => r = ru.1) (fun (_ : Unit) t => va_P (dC, dI) vwCl [(h0, .inr (0, [.ref h1, .ref h2, .ref h4, .ref h3, .int ru.2.1])), (h1, .inl (k1, 4, .inl c1)), (h2, .inl (k2, 4, .inl c2)), (h3, .inl (k3, 9, .inr (.inl ru.2.2.1))), (h4, .inl (k4, 81, .inr (.inl ru.2.2.2)))] t.heap ∧ va_K (dC, dI) vwCl [(k1, .int), (k2, .int), (k3, .long), (k4, .long)] t ∧ va_D (va_A [(h0, .inr (0, [.ref h1, .ref h2, .ref h4, .ref h3, .int v0_known])), (h1, .inl (k1, 4, .inl c1)), (h2, .inl (k2, 4, .inl c2)), (h3, .inl (k3, 9, .inr (.inl c3))), (h4, .inl (k4, 81, .inr (.inl c4)))] sz) [(h0, .inr (0, [.ref h1, .ref h2, .ref h4, .ref h3, .int ru.2.1])), (h1, .inl (k1, 4, .inl c1)), (h2, .inl (k2, 4, .inl c2)), (h3, .inl (k3, 9, .inr (.inl ru.2.2.1))), (h4, .inl (k4, 81, .inr (.inl ru.2.2.2)))]) (va_A [(h0, .inr (0, [.ref h1, .ref h2, .ref h4, .ref h3, .int v0_known])), (h1, .inl (k1, 4, .inl c1)), (h2, .inl (k2, 4, .inl c2)), (h3, .inl (k3, 9, .inr (.inl c3))), (h4, .inl (k4, 81, .inr (.inl c4)))] sz)) 0 0 (va_A [(h0, .inr (0, [.ref h1, .ref h2, .ref h4, .ref h3, .int v0_known])), (h1, .inl (k1, 4, .inl c1)), (h2, .inl (k2, 4, .inl c2)), (h3, .inl (k3, 9, .inr (.inl c3))), (h4, .inl (k4, 81, .inr (.inl c4)))] sz) := by
  refine Met.ofW (cc := cX0_fraction) (maxL := 10) (ret := (some .long)) (by decide) rfl ?_
  intro p e s m args below meth c s₁ B hml hv
  obtain ⟨rfl, hsz, hP, hK, hD0, hG⟩ := hv
  have hx := B.exec
  have hb := B.bytes
  have hr := B.returns
  have hts := atoms_spec (ws := wsX0_fraction) B.pre
  have hown : s.vm.findClass RX0 = some m.cls := findClass_of_methodNamed B.named
  have hlocks := B.notSynchronized
  subst hsz
  have hD := hD0.self (sz := s.heap.size)
  generalize hAe : va_A [(h0, .inr (0, [.ref h1, .ref h2, .ref h4, .ref h3, .int v0_known])), (h1, .inl (k1, 4, .inl c1)), (h2, .inl (k2, 4, .inl c2)), (h3, .inl (k3, 9, .inr (.inl c3))), (h4, .inl (k4, 81, .inr (.inl c4)))] s.heap.size = A at hD hG ⊢
  have hA : ∀ q : Nat, s.heap.size ≤ q → A q := fun q h => by rw [← hAe]; exact Or.inr h
  have hS : va_S A s.heap s.heap [] := va_S.rf
  have hl := lv_entry ([.ref h0, .int a1, .int a2, .int a3]) (n := 10) (Nat.le_of_ble_eq_true rfl)
  rw [lg_entry_eq]
  generalize (lg_sl ([.ref h0, .int a1, .int a2, .int a3]) ++ List.replicate (10 - (lg_sl ([.ref h0, .int a1, .int a2, .int a3])).length) Slot.unset).toArray = ls at hl ⊢
  have hl : lv_has ls 10 [(0, .ref h0), (1, .int a1), (2, .int a2), (3, .int a3)] := hl
  have hrun := hm
  rw [fX0_fraction] at hrun
  obtain ⟨H, hHe⟩ : ∃ H, H = s.heap := ⟨_, rfl⟩
  obtain ⟨locs, hLe⟩ : ∃ locs : List Loc, locs = [] := ⟨_, rfl⟩
  rw [← hHe] at hP
  have hS : va_S A s.heap H locs := by rw [hHe, hLe]; exact hS
  have key : W p l e (headSpec wsX0_fraction ({ frames := 5, cells := 0, slots := 0, locals := 120 } : Room)).room s m ([.ref h0, .int a1, .int a2, .int a3] : List Value).toArray below meth c H locs 0 0 (MQ below (va_Ql (fun r (_ : Unit) => r = ru.1) (fun (_ : Unit) t => va_P (dC, dI) vwCl [(h0, .inr (0, [.ref h1, .ref h2, .ref h4, .ref h3, .int ru.2.1])), (h1, .inl (k1, 4, .inl c1)), (h2, .inl (k2, 4, .inl c2)), (h3, .inl (k3, 9, .inr (.inl ru.2.2.1))), (h4, .inl (k4, 81, .inr (.inl ru.2.2.2)))] t.heap ∧ va_K (dC, dI) vwCl [(k1, .int), (k2, .int), (k3, .long), (k4, .long)] t ∧ va_D A [(h0, .inr (0, [.ref h1, .ref h2, .ref h4, .ref h3, .int ru.2.1])), (h1, .inl (k1, 4, .inl c1)), (h2, .inl (k2, 4, .inl c2)), (h3, .inl (k3, 9, .inr (.inl ru.2.2.1))), (h4, .inl (k4, 81, .inr (.inl ru.2.2.2)))]) A) ([.ref h0, .int a1, .int a2, .int a3] : List Value).toArray s 0 0 A) (F0 m 0 ls []) := by
    clear hHe hLe
    refine lv_aload_n hx hb dX0_fraction_0 rfl (lv_at hl 0 rfl) ?_
    obtain ⟨q1, hc1, hrun⟩ := ob_e hrun
    refine wz_cqv (WC := [(h0, .inr (0, [.ref h1, .ref h2, .ref h4, .ref h3, .int v0_known])), (h1, .inl (k1, 4, .inl c1)), (h2, .inl (k2, 4, .inl c2)), (h3, .inl (k3, 9, .inr (.inl c3))), (h4, .inl (k4, 81, .inr (.inl c4)))]) (WR := []) (W1 := [(h0, .inr (0, [.ref h1, .ref h2, .ref h4, .ref h3, .int q1.1])), (h1, .inl (k1, 4, .inl c1)), (h2, .inl (k2, 4, .inl c2)), (h3, .inl (k3, 9, .inr (.inl q1.2.1))), (h4, .inl (k4, 81, .inr (.inl q1.2.2)))]) (va_runV (As := []) (rest := []) ⟨hx, hb, hml, hown, hts⟩ (tX0_learn l dC dI t H.size h0 h1 h2 h3 h4 k1 k2 k3 k4 N v0_known c1 c2 c3 c4 q1 hc1) (cwV 0 hts gX0_fraction_X0_learn rfl rfl rfl (by decide +kernel) ⟨Nat.le_of_ble_eq_true rfl, Nat.le_of_ble_eq_true rfl⟩) (wz_pVwG (hP.sub (ws' := [(h0, .inr (0, [.ref h1, .ref h2, .ref h4, .ref h3, .int v0_known])), (h1, .inl (k1, 4, .inl c1)), (h2, .inl (k2, 4, .inl c2)), (h3, .inl (k3, 9, .inr (.inl c3))), (h4, .inl (k4, 81, .inr (.inl c4)))]) [0, 1, 2, 3, 4] rfl) (hK.sub (tys' := [(k1, .int), (k2, .int), (k3, .long), (k4, .long)]) [0, 1, 2, 3] rfl) (hD.sub (ws' := [(h0, .inr (0, [.ref h1, .ref h2, .ref h4, .ref h3, .int v0_known])), (h1, .inl (k1, 4, .inl c1)), (h2, .inl (k2, 4, .inl c2)), (h3, .inl (k3, 9, .inr (.inl c3))), (h4, .inl (k4, 81, .inr (.inl c4)))]) [0, 1, 2, 3, 4] (by decide) rfl) hG hS (va_free (wc := [(h0, .inr (0, [.ref h1, .ref h2, .ref h4, .ref h3, .int v0_known])), (h1, .inl (k1, 4, .inl c1)), (h2, .inl (k2, 4, .inl c2)), (h3, .inl (k3, 9, .inr (.inl c3))), (h4, .inl (k4, 81, .inr (.inl c4)))]) hD hS hA [0, 1, 2, 3, 4] rfl) (va_recv hK hP (ci := 0) (q0 := 0) rfl rfl)) rfl rfl hl.1 rfl (lv_room (Nat.le_of_ble_eq_true rfl)) dX0_fraction_1 ⟨Nat.zero_le _, Nat.zero_le _⟩) hP hD hS hA [0, 1, 2, 3, 4] [] rfl rfl (by decide) (by decide) (fun H locs hP hD hS => ?_)
    have hP : va_P (dC, dI) vwCl [(h0, .inr (0, [.ref h1, .ref h2, .ref h4, .ref h3, .int q1.1])), (h1, .inl (k1, 4, .inl c1)), (h2, .inl (k2, 4, .inl c2)), (h3, .inl (k3, 9, .inr (.inl q1.2.1))), (h4, .inl (k4, 81, .inr (.inl q1.2.2)))] H := hP
    have hD : va_D A [(h0, .inr (0, [.ref h1, .ref h2, .ref h4, .ref h3, .int q1.1])), (h1, .inl (k1, 4, .inl c1)), (h2, .inl (k2, 4, .inl c2)), (h3, .inl (k3, 9, .inr (.inl q1.2.1))), (h4, .inl (k4, 81, .inr (.inl q1.2.2)))] := hD
    refine lv_aload_n hx hb dX0_fraction_4 rfl (lv_at hl 0 rfl) ?_
    refine lv_iload_n hx hb dX0_fraction_5 rfl (lv_at hl 1 rfl) ?_
    refine lv_iload_n hx hb dX0_fraction_6 rfl (lv_at hl 2 rfl) ?_
    obtain ⟨q7, hc7, hrun⟩ := ob_e hrun
    refine wz_csl (va_runV (As := [.int a1, .int a2]) (rest := []) ⟨hx, hb, hml, hown, hts⟩ (tX0_worthOf l dC dI t h0 h4 k4 (.ref h1) (.ref h2) (.ref h3) (.int q1.1) N a1 a2 q1.2.2 q7 hc7) (cwV 2 hts gX0_fraction_X0_worthOf rfl rfl rfl (by decide +kernel) ⟨Nat.le_of_ble_eq_true rfl, Nat.le_of_ble_eq_true rfl⟩) (wz_pVrG (hP.sub (ws' := [(h0, .inr (0, [.ref h1, .ref h2, .ref h4, .ref h3, .int q1.1])), (h4, .inl (k4, 81, .inr (.inl q1.2.2)))]) [0, 4] rfl) (hK.sub (tys' := [(k4, .long)]) [3] rfl) hG hS (va_recv hK hP (ci := 0) (q0 := 0) rfl rfl)) rfl rfl hl.1 rfl (lv_room (Nat.le_of_ble_eq_true rfl)) dX0_fraction_7 ⟨Nat.zero_le _, Nat.zero_le _⟩) ?_
    refine lv_lstore (lv' := [(4, .long q7), (0, .ref h0), (1, .int a1), (2, .int a2), (3, .int a3)]) hx hb dX0_fraction_10 hl (by decide) rfl (fun ls hl => ?_)
    refine lv_aload_n hx hb dX0_fraction_12 rfl (lv_at hl 1 rfl) ?_
    refine lv_iload_n hx hb dX0_fraction_13 rfl (lv_at hl 2 rfl) ?_
    obtain ⟨q14, hc14, hrun⟩ := ob_e hrun
    refine wz_csl (va_runV (As := [.int a1]) (rest := []) ⟨hx, hb, hml, hown, hts⟩ (tX0_scaleOf l dC dI t h0 h3 k3 (.ref h1) (.ref h2) (.ref h4) (.int q1.1) N a1 q1.2.1 q14 hc14) (cwV 1 hts gX0_fraction_X0_scaleOf rfl rfl rfl (by decide +kernel) ⟨Nat.le_of_ble_eq_true rfl, Nat.le_of_ble_eq_true rfl⟩) (wz_pVrG (hP.sub (ws' := [(h0, .inr (0, [.ref h1, .ref h2, .ref h4, .ref h3, .int q1.1])), (h3, .inl (k3, 9, .inr (.inl q1.2.1)))]) [0, 3] rfl) (hK.sub (tys' := [(k3, .long)]) [2] rfl) hG hS (va_recv hK hP (ci := 0) (q0 := 0) rfl rfl)) rfl rfl hl.1 rfl (lv_room (Nat.le_of_ble_eq_true rfl)) dX0_fraction_14 ⟨Nat.zero_le _, Nat.zero_le _⟩) ?_
    refine lv_lstore (lv' := [(6, .long q14), (4, .long q7), (0, .ref h0), (1, .int a1), (2, .int a2), (3, .int a3)]) hx hb dX0_fraction_17 hl (by decide) rfl (fun ls hl => ?_)
    refine lv_lload hx hb dX0_fraction_19 (lv_at hl 1 rfl) ?_
    refine lv_lload hx hb dX0_fraction_21 (lv_at hl 0 rfl) ?_
    obtain ⟨q23, hc23, hrun⟩ := ob_e hrun
    refine wz_csl (va_runS (As := [.long q7, .long q14]) (rest := []) ⟨hx, hb, hml, hown, hts⟩ (tX0_commonDivisor l dC dI N q7 q14 q23 hc23) (va_cwS 2 hts gX0_fraction_X0_commonDivisor rfl rfl rfl (by decide +kernel) ⟨Nat.le_of_ble_eq_true rfl, Nat.le_of_ble_eq_true rfl⟩) (wz_pSr (hP.sub (ws' := []) [] rfl) (hK.sub (tys' := []) [] rfl)) rfl rfl hl.1 rfl (lv_room (Nat.le_of_ble_eq_true rfl)) dX0_fraction_23 ⟨Nat.zero_le _, Nat.zero_le _⟩) ?_
    refine lv_lstore (lv' := [(8, .long q23), (6, .long q14), (4, .long q7), (0, .ref h0), (1, .int a1), (2, .int a2), (3, .int a3)]) hx hb dX0_fraction_26 hl (by decide) rfl (fun ls hl => ?_)
    refine lv_lload hx hb dX0_fraction_28 (lv_at hl 0 rfl) ?_
    refine lv_lconst (v := (1 : Int64)) hx hb dX0_fraction_30 (by decide) ?_
    refine W.lcmp hx hb dX0_fraction_31 ?_
    refine lv_if_ge (tgt := 38) hx hb dX0_fraction_32 (by decide) (fun cc => ?_) (fun cc => ?_)
    · have hrun := oi_t hrun cc
      refine lv_iload_n hx hb dX0_fraction_38 rfl (lv_at hl 6 rfl) ?_
      refine lv_if_ne (tgt := 50) hx hb dX0_fraction_39 (by decide) (fun cc => ?_) (fun cc => ?_)
      · have hrun := oi_t hrun cc
        refine lv_lload hx hb dX0_fraction_50 (lv_at hl 1 rfl) ?_
        refine lv_lload hx hb dX0_fraction_52 (lv_at hl 0 rfl) ?_
        obtain ⟨hne, hrun⟩ := oi_g hrun
        refine lv_ldiv hx hb dX0_fraction_54 hne ?_
        cases hrun
        have hP9 : va_P (dC, dI) vwCl [(h0, .inr (0, [.ref h1, .ref h2, .ref h4, .ref h3, .int q1.1])), (h1, .inl (k1, 4, .inl c1)), (h2, .inl (k2, 4, .inl c2)), (h3, .inl (k3, 9, .inr (.inl q1.2.1))), (h4, .inl (k4, 81, .inr (.inl q1.2.2)))] H := hP
        have hD9 : va_D A [(h0, .inr (0, [.ref h1, .ref h2, .ref h4, .ref h3, .int q1.1])), (h1, .inl (k1, 4, .inl c1)), (h2, .inl (k2, 4, .inl c2)), (h3, .inl (k3, 9, .inr (.inl q1.2.1))), (h4, .inl (k4, 81, .inr (.inl q1.2.2)))] := hD
        exact W.lret hx hb hr (fun t ht hW => ⟨⟨_, (), rfl, rfl, by rw [ht]; exact hP9, va_K.moved hW.alike hK, hD9⟩, hS.F ht⟩) hS.2.2 dX0_fraction_55
      · have hrun := oi_n hrun cc
        refine lv_lload hx hb dX0_fraction_42 (lv_at hl 2 rfl) ?_
        refine lv_lload hx hb dX0_fraction_44 (lv_at hl 0 rfl) ?_
        obtain ⟨hne, hrun⟩ := oi_g hrun
        refine lv_ldiv hx hb dX0_fraction_46 hne ?_
        refine lv_goto (tgt := 55) hx hb dX0_fraction_47 (by decide) ?_
        cases hrun
        have hP9 : va_P (dC, dI) vwCl [(h0, .inr (0, [.ref h1, .ref h2, .ref h4, .ref h3, .int q1.1])), (h1, .inl (k1, 4, .inl c1)), (h2, .inl (k2, 4, .inl c2)), (h3, .inl (k3, 9, .inr (.inl q1.2.1))), (h4, .inl (k4, 81, .inr (.inl q1.2.2)))] H := hP
        have hD9 : va_D A [(h0, .inr (0, [.ref h1, .ref h2, .ref h4, .ref h3, .int q1.1])), (h1, .inl (k1, 4, .inl c1)), (h2, .inl (k2, 4, .inl c2)), (h3, .inl (k3, 9, .inr (.inl q1.2.1))), (h4, .inl (k4, 81, .inr (.inl q1.2.2)))] := hD
        exact W.lret hx hb hr (fun t ht hW => ⟨⟨_, (), rfl, rfl, by rw [ht]; exact hP9, va_K.moved hW.alike hK, hD9⟩, hS.F ht⟩) hS.2.2 dX0_fraction_55
    · have hrun := oi_f hrun cc
      refine lv_iload_n hx hb dX0_fraction_35 rfl (lv_at hl 6 rfl) ?_
      refine lv_i2l (v := a3.toInt64) hx hb dX0_fraction_36 rfl ?_
      cases hrun
      have hP9 : va_P (dC, dI) vwCl [(h0, .inr (0, [.ref h1, .ref h2, .ref h4, .ref h3, .int q1.1])), (h1, .inl (k1, 4, .inl c1)), (h2, .inl (k2, 4, .inl c2)), (h3, .inl (k3, 9, .inr (.inl q1.2.1))), (h4, .inl (k4, 81, .inr (.inl q1.2.2)))] H := hP
      have hD9 : va_D A [(h0, .inr (0, [.ref h1, .ref h2, .ref h4, .ref h3, .int q1.1])), (h1, .inl (k1, 4, .inl c1)), (h2, .inl (k2, 4, .inl c2)), (h3, .inl (k3, 9, .inr (.inl q1.2.1))), (h4, .inl (k4, 81, .inr (.inl q1.2.2)))] := hD
      exact W.lret hx hb hr (fun t ht hW => ⟨⟨_, (), rfl, rfl, by rw [ht]; exact hP9, va_K.moved hW.alike hK, hD9⟩, hS.F ht⟩) hS.2.2 dX0_fraction_37
  rw [hHe, hLe] at key
  exact key
set_option maxHeartbeats 4000000 in
set_option maxRecDepth 100000 in
theorem tX0_isWhole (l : Launch) (dC : Nat → ClassId) (dI : Nat → Nat → Nat) (h0 h1 : Nat) (k1 : ClassId) (g0_right g0_worths g0_scales g0_known : Value) (N : Nat)  (c1 : Nat → Int32) (ru : Int32) (hm : fX0_isWhole N c1 = some ru) : Met l yX0_isWhole wsX0_isWhole ({ frames := 0, cells := 0, slots := 0, locals := 0 } : Room) (va_Pc [.ref h0] (fun U => va_P (dC, dI) vwCl [(h0, .inr (0, [.ref h1, g0_right, g0_worths, g0_scales, g0_known])), (h1, .inl (k1, 4, .inl c1))] U.heap ∧ va_K (dC, dI) vwCl [(k1, .int)] U)) (vp_Si (fun r => r = ru ∧ narrow .boolean (.int r) = .int r)) 0 0 (fun _ => False) := by
  refine Met.ofW (cc := cX0_isWhole) (maxL := 3) (ret := (some .boolean)) (by decide) rfl ?_
  intro p e s m args below meth c s₁ B hml hv
  obtain ⟨rfl, hP, hK⟩ := hv
  have hx := B.exec
  have hb := B.bytes
  have hr := B.returns
  have hts := atoms_spec (ws := wsX0_isWhole) B.pre
  have hown : s.vm.findClass RX0 = some m.cls := findClass_of_methodNamed B.named
  have hlocks := B.notSynchronized
  have hinX0 : ∀ w ∈ wsX00, w ∈ wsX0_isWhole := by decide +kernel
  have hl := lv_entry ([.ref h0]) (n := 3) (Nat.le_of_ble_eq_true rfl)
  rw [lg_entry_eq]
  generalize (lg_sl ([.ref h0]) ++ List.replicate (3 - (lg_sl ([.ref h0])).length) Slot.unset).toArray = ls at hl ⊢
  have hl : lv_has ls 3 [(0, .ref h0)] := hl
  have hrun := hm
  rw [fX0_isWhole] at hrun
  refine lv_iconst (v := (0 : Int32)) hx hb dX0_isWhole_0 (by decide) ?_
  refine lv_istore_n (lv' := [(1, .int (0 : Int32)), (0, .ref h0)]) hx hb dX0_isWhole_1 rfl hl (by decide) rfl (fun ls hl => ?_)
  refine lv_iconst (v := (0 : Int32)) hx hb dX0_isWhole_2 (by decide) ?_
  refine lv_istore_n (lv' := [(2, .int (0 : Int32)), (1, .int (0 : Int32)), (0, .ref h0)]) hx hb dX0_isWhole_3 rfl hl (by decide) rfl (fun ls hl => ?_)
  obtain ⟨k28, ek28, hrun⟩ := jn_e hrun
  have J28 : ∀ (x1_28 : Int32) (ls : Array Slot), k28 x1_28 = some ru → lv_has ls 3 [(1, .int x1_28)] → W p l e (headSpec wsX0_isWhole ({ frames := 0, cells := 0, slots := 0, locals := 0 } : Room)).room s m ([.ref h0] : List Value).toArray below meth c s.heap [] 0 0 (MQ below (vp_Si (fun r => r = ru ∧ narrow .boolean (.int r) = .int r)) ([.ref h0] : List Value).toArray s 0 0 (fun _ => False)) (F0 m 28 ls []) := by
    intro x1_28 ls hrun hl
    rw [ek28] at hrun
    refine lv_iload_n hx hb dX0_isWhole_28 rfl (lv_at hl 0 rfl) ?_
    refine lv_bipush (v := (10 : Int32)) hx hb dX0_isWhole_29 (by decide) ?_
    refine lv_icmp_ne (tgt := 38) hx hb dX0_isWhole_31 (by decide) (fun cc => ?_) (fun cc => ?_)
    · have hrun := oi_t hrun cc
      refine lv_iconst (v := (0 : Int32)) hx hb dX0_isWhole_38 (by decide) ?_
      exact W.zret hx hb hr (by rfl) (fun t ht _ => ⟨_, rfl, ⟨Option.some.inj hrun, (by rfl)⟩, ht⟩) (fun _ h => by cases h) dX0_isWhole_39
    · have hrun := oi_n hrun cc
      refine lv_iconst (v := (1 : Int32)) hx hb dX0_isWhole_34 (by decide) ?_
      refine lv_goto (tgt := 39) hx hb dX0_isWhole_35 (by decide) ?_
      exact W.zret hx hb hr (by rfl) (fun t ht _ => ⟨_, rfl, ⟨Option.some.inj hrun, (by rfl)⟩, ht⟩) (fun _ h => by cases h) dX0_isWhole_39
  have L4 : ∀ (n : Nat) (x1_4 : Int32) (x2_4 : Int32) (ls : Array Slot), fX0_isWhole_p4 N c1 k28 n x1_4 x2_4 = some ru → lv_has ls 3 [(0, .ref h0), (1, .int x1_4), (2, .int x2_4)] → W p l e (headSpec wsX0_isWhole ({ frames := 0, cells := 0, slots := 0, locals := 0 } : Room)).room s m ([.ref h0] : List Value).toArray below meth c s.heap [] 0 0 (MQ below (vp_Si (fun r => r = ru ∧ narrow .boolean (.int r) = .int r)) ([.ref h0] : List Value).toArray s 0 0 (fun _ => False)) (F0 m 4 ls []) := by
    intro n
    induction n with
    | zero => intro x1_4 x2_4 ls hrun; rw [fX0_isWhole_p4] at hrun; exact on_e hrun
    | succ n ih =>
      intro x1_4 x2_4 ls hrun hl
      rw [fX0_isWhole_p4] at hrun
      refine lv_iload_n hx hb dX0_isWhole_4 rfl (lv_at hl 2 rfl) ?_
      refine lv_aload_n hx hb dX0_isWhole_5 rfl (lv_at hl 0 rfl) ?_
      refine va_get (D := (dC, dI)) (ci := 0) (v := .ref h1) (C := RX0) (T := TX0) (N := 5) hx hb hts hinX0 hown hK hP 0 rfl rfl 0 (by decide) (hts (.fieldLink RX0 9 "WasItOut$Asks" "comes" "[I") (by decide +kernel)) (fun _ h9 => h9) rfl dX0_isWhole_6 ?_
      refine va_alen (v := (4 : Int32)) hx hb hK hP 1 0 rfl rfl (by first | rfl | decide) dX0_isWhole_9 ?_
      refine lv_icmp_ge (tgt := 28) hx hb dX0_isWhole_10 (by decide) (fun cc => ?_) (fun cc => ?_)
      · have hrun := oi_t hrun cc
        exact J28 x1_4 ls hrun (lv_sub hl [1] rfl)
      · have hrun := oi_f hrun cc
        refine lv_iload_n hx hb dX0_isWhole_13 rfl (lv_at hl 1 rfl) ?_
        refine lv_aload_n hx hb dX0_isWhole_14 rfl (lv_at hl 0 rfl) ?_
        refine va_get (D := (dC, dI)) (ci := 0) (v := .ref h1) (C := RX0) (T := TX0) (N := 5) hx hb hts hinX0 hown hK hP 0 rfl rfl 0 (by decide) (hts (.fieldLink RX0 9 "WasItOut$Asks" "comes" "[I") (by decide +kernel)) (fun _ h9 => h9) rfl dX0_isWhole_15 ?_
        refine lv_iload_n hx hb dX0_isWhole_18 rfl (lv_at hl 2 rfl) ?_
        obtain ⟨hi, hrun⟩ := oi_x hrun
        refine va_iald hx hb hK hP 1 0 rfl rfl hi dX0_isWhole_19 ?_
        refine lv_iadd hx hb dX0_isWhole_20 ?_
        refine lv_istore_n (lv' := [(1, .int (x1_4 + (c1 x2_4.toNatClampNeg))), (0, .ref h0), (2, .int x2_4)]) hx hb dX0_isWhole_21 rfl hl (by decide) rfl (fun ls hl => ?_)
        refine lv_iinc (v := (x2_4 + (1 : Int32))) (lv' := [(2, .int (x2_4 + (1 : Int32))), (1, .int (x1_4 + (c1 x2_4.toNatClampNeg))), (0, .ref h0)]) hx hb dX0_isWhole_22 hl (k := 2) rfl rfl (by decide) rfl (fun ls hl => ?_)
        refine lv_goto (tgt := 4) hx hb dX0_isWhole_25 (by decide) ?_
        exact ih ((x1_4 + (c1 x2_4.toNatClampNeg))) ((x2_4 + (1 : Int32))) ls hrun (lv_sub hl [2, 1, 0] rfl)
  exact L4 N ((0 : Int32)) ((0 : Int32)) ls hrun (lv_sub hl [2, 1, 0] rfl)
set_option maxHeartbeats 4000000 in
set_option maxRecDepth 100000 in
theorem tX0_setTenths (l : Launch) (dC : Nat → ClassId) (dI : Nat → Nat → Nat) (sz : Nat) (h0 h1 h2 : Nat) (k1 k2 : ClassId) (g0_worths g0_scales : Value) (N : Nat) (a1 : Int32) (a2 : Int32) (a3 : Int32) (v0_known : Int32) (c1 : Nat → Int32) (c2 : Nat → Int32) (ru : Int32 × (Int32) × (Nat → Int32) × (Nat → Int32)) (hm : fX0_setTenths N a1 a2 a3 v0_known c1 c2 = some ru) : Met l yX0_setTenths wsX0_setTenths ({ frames := 1, cells := 0, slots := 0, locals := 21 } : Room) (va_Pc [.ref h0, .int a1, .int a2, .int a3] (fun U => U.heap.size = sz ∧ va_P (dC, dI) vwCl [(h0, .inr (0, [.ref h1, .ref h2, g0_worths, g0_scales, .int v0_known])), (h1, .inl (k1, 4, .inl c1)), (h2, .inl (k2, 4, .inl c2))] U.heap ∧ va_K (dC, dI) vwCl [(k1, .int), (k2, .int)] U ∧ va_D (fun _ => True) [(h0, .inr (0, [.ref h1, .ref h2, g0_worths, g0_scales, .int v0_known])), (h1, .inl (k1, 4, .inl c1)), (h2, .inl (k2, 4, .inl c2))])) (va_Qi (fun r (_ : Unit) => r = ru.1) (fun (_ : Unit) t => va_P (dC, dI) vwCl [(h0, .inr (0, [.ref h1, .ref h2, g0_worths, g0_scales, .int ru.2.1])), (h1, .inl (k1, 4, .inl ru.2.2.1)), (h2, .inl (k2, 4, .inl ru.2.2.2))] t.heap ∧ va_K (dC, dI) vwCl [(k1, .int), (k2, .int)] t ∧ va_D (va_A [(h0, .inr (0, [.ref h1, .ref h2, g0_worths, g0_scales, .int v0_known])), (h1, .inl (k1, 4, .inl c1)), (h2, .inl (k2, 4, .inl c2))] sz) [(h0, .inr (0, [.ref h1, .ref h2, g0_worths, g0_scales, .int ru.2.1])), (h1, .inl (k1, 4, .inl ru.2.2.1)), (h2, .inl (k2, 4, .inl ru.2.2.2))]) (va_A [(h0, .inr (0, [.ref h1, .ref h2, g0_worths, g0_scales, .int v0_known])), (h1, .inl (k1, 4, .inl c1)), (h2, .inl (k2, 4, .inl c2))] sz)) 0 0 (va_A [(h0, .inr (0, [.ref h1, .ref h2, g0_worths, g0_scales, .int v0_known])), (h1, .inl (k1, 4, .inl c1)), (h2, .inl (k2, 4, .inl c2))] sz) := by
  refine Met.ofW (cc := cX0_setTenths) (maxL := 6) (ret := (some .int)) (by decide) rfl ?_
  intro p e s m args below meth c s₁ B hml hv
  obtain ⟨rfl, hsz, hP, hK, hD0⟩ := hv
  have hx := B.exec
  have hb := B.bytes
  have hr := B.returns
  have hts := atoms_spec (ws := wsX0_setTenths) B.pre
  have hown : s.vm.findClass RX0 = some m.cls := findClass_of_methodNamed B.named
  have hlocks := B.notSynchronized
  subst hsz
  have hD := hD0.self (sz := s.heap.size)
  generalize hAe : va_A [(h0, .inr (0, [.ref h1, .ref h2, g0_worths, g0_scales, .int v0_known])), (h1, .inl (k1, 4, .inl c1)), (h2, .inl (k2, 4, .inl c2))] s.heap.size = A at hD ⊢
  have hA : ∀ q : Nat, s.heap.size ≤ q → A q := fun q h => by rw [← hAe]; exact Or.inr h
  have hS : va_S A s.heap s.heap [] := va_S.rf
  have hinX0 : ∀ w ∈ wsX00, w ∈ wsX0_setTenths := by decide +kernel
  have hl := lv_entry ([.ref h0, .int a1, .int a2, .int a3]) (n := 6) (Nat.le_of_ble_eq_true rfl)
  rw [lg_entry_eq]
  generalize (lg_sl ([.ref h0, .int a1, .int a2, .int a3]) ++ List.replicate (6 - (lg_sl ([.ref h0, .int a1, .int a2, .int a3])).length) Slot.unset).toArray = ls at hl ⊢
  have hl : lv_has ls 6 [(0, .ref h0), (1, .int a1), (2, .int a2), (3, .int a3)] := hl
  have hrun := hm
  rw [fX0_setTenths] at hrun
  obtain ⟨H, hHe⟩ : ∃ H, H = s.heap := ⟨_, rfl⟩
  obtain ⟨locs, hLe⟩ : ∃ locs : List Loc, locs = [] := ⟨_, rfl⟩
  rw [← hHe] at hP
  have hS : va_S A s.heap H locs := by rw [hHe, hLe]; exact hS
  have key : W p l e (headSpec wsX0_setTenths ({ frames := 1, cells := 0, slots := 0, locals := 21 } : Room)).room s m ([.ref h0, .int a1, .int a2, .int a3] : List Value).toArray below meth c H locs 0 0 (MQ below (va_Qi (fun r (_ : Unit) => r = ru.1) (fun (_ : Unit) t => va_P (dC, dI) vwCl [(h0, .inr (0, [.ref h1, .ref h2, g0_worths, g0_scales, .int ru.2.1])), (h1, .inl (k1, 4, .inl ru.2.2.1)), (h2, .inl (k2, 4, .inl ru.2.2.2))] t.heap ∧ va_K (dC, dI) vwCl [(k1, .int), (k2, .int)] t ∧ va_D A [(h0, .inr (0, [.ref h1, .ref h2, g0_worths, g0_scales, .int ru.2.1])), (h1, .inl (k1, 4, .inl ru.2.2.1)), (h2, .inl (k2, 4, .inl ru.2.2.2))]) A) ([.ref h0, .int a1, .int a2, .int a3] : List Value).toArray s 0 0 A) (F0 m 0 ls []) := by
    clear hHe hLe
    refine lv_iload_n hx hb dX0_setTenths_0 rfl (lv_at hl 2 rfl) ?_
    refine lv_if_ne (tgt := 11) hx hb dX0_setTenths_1 (by decide) (fun cc => ?_) (fun cc => ?_)
    · have hrun := oi_t hrun cc
      refine lv_aload_n hx hb dX0_setTenths_11 rfl (lv_at hl 0 rfl) ?_
      refine va_get (D := (dC, dI)) (ci := 0) (v := .ref h2) (C := RX0) (T := TX0) (N := 5) hx hb hts hinX0 hown hK hP 0 rfl rfl 1 (by decide) (hts (.fieldLink RX0 13 "WasItOut$Asks" "right" "[I") (by decide +kernel)) (fun _ h9 => h9) rfl dX0_setTenths_12 ?_
      refine lv_astore (lv' := [(4, .ref h2), (0, .ref h0), (1, .int a1), (2, .int a2), (3, .int a3)]) hx hb dX0_setTenths_15 hl (by decide) rfl (fun ls hl => ?_)
      refine lv_aload hx hb dX0_setTenths_17 (lv_at hl 0 rfl) ?_
      refine lv_iload_n hx hb dX0_setTenths_19 rfl (lv_at hl 2 rfl) ?_
      obtain ⟨q20, hc20, hrun⟩ := ob_e hrun
      refine wz_csi (va_runS (As := [.ref h2, .int a1]) (rest := []) ⟨hx, hb, hml, hown, hts⟩ (tX0_tenths l dC dI h2 k2 4 N a1 c2 q20 hc20) (va_cwS 2 hts gX0_setTenths_X0_tenths rfl rfl rfl (by decide +kernel) ⟨Nat.le_of_ble_eq_true rfl, Nat.le_of_ble_eq_true rfl⟩) (wz_pSr (hP.sub (ws' := [(h2, .inl (k2, 4, .inl c2))]) [2] rfl) (hK.sub (tys' := [(k2, .int)]) [1] rfl)) rfl rfl hl.1 rfl (lv_room (Nat.le_of_ble_eq_true rfl)) dX0_setTenths_20 ⟨Nat.zero_le _, Nat.zero_le _⟩) ?_
      refine lv_istore (lv' := [(5, .int q20), (4, .ref h2), (0, .ref h0), (1, .int a1), (2, .int a2), (3, .int a3)]) hx hb dX0_setTenths_23 hl (by decide) rfl (fun ls hl => ?_)
      refine lv_iload_n hx hb dX0_setTenths_25 rfl (lv_at hl 3 rfl) ?_
      refine lv_if_lt (tgt := 41) hx hb dX0_setTenths_26 (by decide) (fun cc => ?_) (fun cc => ?_)
      · have hrun := oi_t hrun cc
        refine lv_aload_n hx hb dX0_setTenths_41 rfl (lv_at hl 2 rfl) ?_
        refine lv_iconst (v := (0 : Int32)) hx hb dX0_setTenths_42 (by decide) ?_
        refine va_put (D := (dC, dI)) (ci := 0) (v := .int (0 : Int32)) (ty := .boolean) (C := RX0) (T := TX0) (N := 5) hx hb hts hinX0 tyX0 tyX0_ok nmX0 hown hK hP hD hS 0 rfl rfl 4 (by decide) (hts (.fieldLink RX0 27 "WasItOut$Asks" "known" "Z") (by decide +kernel)) (fun _ h9 => h9) rfl (by decide +kernel) rfl rfl (Nat.le_of_ble_eq_true rfl) dX0_setTenths_43 (fun H locs hP hD hS => ?_)
        have hP : va_P (dC, dI) vwCl [(h0, .inr (0, [.ref h1, .ref h2, g0_worths, g0_scales, .int (0 : Int32)])), (h1, .inl (k1, 4, .inl c1)), (h2, .inl (k2, 4, .inl c2))] H := hP
        have hD : va_D A [(h0, .inr (0, [.ref h1, .ref h2, g0_worths, g0_scales, .int (0 : Int32)])), (h1, .inl (k1, 4, .inl c1)), (h2, .inl (k2, 4, .inl c2))] := hD
        refine lv_iload hx hb dX0_setTenths_46 (lv_at hl 0 rfl) ?_
        cases hrun
        have hP9 : va_P (dC, dI) vwCl [(h0, .inr (0, [.ref h1, .ref h2, g0_worths, g0_scales, .int (0 : Int32)])), (h1, .inl (k1, 4, .inl c1)), (h2, .inl (k2, 4, .inl c2))] H := hP
        have hD9 : va_D A [(h0, .inr (0, [.ref h1, .ref h2, g0_worths, g0_scales, .int (0 : Int32)])), (h1, .inl (k1, 4, .inl c1)), (h2, .inl (k2, 4, .inl c2))] := hD
        exact W.iret hx hb hr (fun t ht hW => ⟨⟨_, (), rfl, rfl, by rw [ht]; exact hP9, va_K.moved hW.alike hK, hD9⟩, hS.F ht⟩) hS.2.2 dX0_setTenths_48
      · have hrun := oi_f hrun cc
        refine lv_iload_n hx hb dX0_setTenths_29 rfl (lv_at hl 3 rfl) ?_
        refine lv_aload hx hb dX0_setTenths_30 (lv_at hl 1 rfl) ?_
        refine va_alen (v := (4 : Int32)) hx hb hK hP 2 1 rfl rfl (by first | rfl | decide) dX0_setTenths_32 ?_
        refine lv_icmp_ge (tgt := 41) hx hb dX0_setTenths_33 (by decide) (fun cc => ?_) (fun cc => ?_)
        · have hrun := oi_t hrun cc
          refine lv_aload_n hx hb dX0_setTenths_41 rfl (lv_at hl 2 rfl) ?_
          refine lv_iconst (v := (0 : Int32)) hx hb dX0_setTenths_42 (by decide) ?_
          refine va_put (D := (dC, dI)) (ci := 0) (v := .int (0 : Int32)) (ty := .boolean) (C := RX0) (T := TX0) (N := 5) hx hb hts hinX0 tyX0 tyX0_ok nmX0 hown hK hP hD hS 0 rfl rfl 4 (by decide) (hts (.fieldLink RX0 27 "WasItOut$Asks" "known" "Z") (by decide +kernel)) (fun _ h9 => h9) rfl (by decide +kernel) rfl rfl (Nat.le_of_ble_eq_true rfl) dX0_setTenths_43 (fun H locs hP hD hS => ?_)
          have hP : va_P (dC, dI) vwCl [(h0, .inr (0, [.ref h1, .ref h2, g0_worths, g0_scales, .int (0 : Int32)])), (h1, .inl (k1, 4, .inl c1)), (h2, .inl (k2, 4, .inl c2))] H := hP
          have hD : va_D A [(h0, .inr (0, [.ref h1, .ref h2, g0_worths, g0_scales, .int (0 : Int32)])), (h1, .inl (k1, 4, .inl c1)), (h2, .inl (k2, 4, .inl c2))] := hD
          refine lv_iload hx hb dX0_setTenths_46 (lv_at hl 0 rfl) ?_
          cases hrun
          have hP9 : va_P (dC, dI) vwCl [(h0, .inr (0, [.ref h1, .ref h2, g0_worths, g0_scales, .int (0 : Int32)])), (h1, .inl (k1, 4, .inl c1)), (h2, .inl (k2, 4, .inl c2))] H := hP
          have hD9 : va_D A [(h0, .inr (0, [.ref h1, .ref h2, g0_worths, g0_scales, .int (0 : Int32)])), (h1, .inl (k1, 4, .inl c1)), (h2, .inl (k2, 4, .inl c2))] := hD
          exact W.iret hx hb hr (fun t ht hW => ⟨⟨_, (), rfl, rfl, by rw [ht]; exact hP9, va_K.moved hW.alike hK, hD9⟩, hS.F ht⟩) hS.2.2 dX0_setTenths_48
        · have hrun := oi_f hrun cc
          refine lv_aload hx hb dX0_setTenths_36 (lv_at hl 1 rfl) ?_
          refine lv_iload_n hx hb dX0_setTenths_38 rfl (lv_at hl 3 rfl) ?_
          refine lv_iload_n hx hb dX0_setTenths_39 rfl (lv_at hl 5 rfl) ?_
          obtain ⟨hi, hrun⟩ := oi_x hrun
          refine va_iast hx hb hK hP hD hS 2 1 rfl rfl hi dX0_setTenths_40 (fun H locs hP hD hS => ?_)
          have hP : va_P (dC, dI) vwCl [(h0, .inr (0, [.ref h1, .ref h2, g0_worths, g0_scales, .int v0_known])), (h1, .inl (k1, 4, .inl c1)), (h2, .inl (k2, 4, .inl (upd c2 a1.toNatClampNeg a3)))] H := hP
          have hD : va_D A [(h0, .inr (0, [.ref h1, .ref h2, g0_worths, g0_scales, .int v0_known])), (h1, .inl (k1, 4, .inl c1)), (h2, .inl (k2, 4, .inl (upd c2 a1.toNatClampNeg a3)))] := hD
          refine lv_aload_n hx hb dX0_setTenths_41 rfl (lv_at hl 2 rfl) ?_
          refine lv_iconst (v := (0 : Int32)) hx hb dX0_setTenths_42 (by decide) ?_
          refine va_put (D := (dC, dI)) (ci := 0) (v := .int (0 : Int32)) (ty := .boolean) (C := RX0) (T := TX0) (N := 5) hx hb hts hinX0 tyX0 tyX0_ok nmX0 hown hK hP hD hS 0 rfl rfl 4 (by decide) (hts (.fieldLink RX0 27 "WasItOut$Asks" "known" "Z") (by decide +kernel)) (fun _ h9 => h9) rfl (by decide +kernel) rfl rfl (Nat.le_of_ble_eq_true rfl) dX0_setTenths_43 (fun H locs hP hD hS => ?_)
          have hP : va_P (dC, dI) vwCl [(h0, .inr (0, [.ref h1, .ref h2, g0_worths, g0_scales, .int (0 : Int32)])), (h1, .inl (k1, 4, .inl c1)), (h2, .inl (k2, 4, .inl (upd c2 a1.toNatClampNeg a3)))] H := hP
          have hD : va_D A [(h0, .inr (0, [.ref h1, .ref h2, g0_worths, g0_scales, .int (0 : Int32)])), (h1, .inl (k1, 4, .inl c1)), (h2, .inl (k2, 4, .inl (upd c2 a1.toNatClampNeg a3)))] := hD
          refine lv_iload hx hb dX0_setTenths_46 (lv_at hl 0 rfl) ?_
          cases hrun
          have hP9 : va_P (dC, dI) vwCl [(h0, .inr (0, [.ref h1, .ref h2, g0_worths, g0_scales, .int (0 : Int32)])), (h1, .inl (k1, 4, .inl c1)), (h2, .inl (k2, 4, .inl (upd c2 a1.toNatClampNeg a3)))] H := hP
          have hD9 : va_D A [(h0, .inr (0, [.ref h1, .ref h2, g0_worths, g0_scales, .int (0 : Int32)])), (h1, .inl (k1, 4, .inl c1)), (h2, .inl (k2, 4, .inl (upd c2 a1.toNatClampNeg a3)))] := hD
          exact W.iret hx hb hr (fun t ht hW => ⟨⟨_, (), rfl, rfl, by rw [ht]; exact hP9, va_K.moved hW.alike hK, hD9⟩, hS.F ht⟩) hS.2.2 dX0_setTenths_48
    · have hrun := oi_n hrun cc
      refine lv_aload_n hx hb dX0_setTenths_4 rfl (lv_at hl 0 rfl) ?_
      refine va_get (D := (dC, dI)) (ci := 0) (v := .ref h1) (C := RX0) (T := TX0) (N := 5) hx hb hts hinX0 hown hK hP 0 rfl rfl 0 (by decide) (hts (.fieldLink RX0 9 "WasItOut$Asks" "comes" "[I") (by decide +kernel)) (fun _ h9 => h9) rfl dX0_setTenths_5 ?_
      refine lv_goto (tgt := 15) hx hb dX0_setTenths_8 (by decide) ?_
      refine lv_astore (lv' := [(4, .ref h1), (0, .ref h0), (1, .int a1), (2, .int a2), (3, .int a3)]) hx hb dX0_setTenths_15 hl (by decide) rfl (fun ls hl => ?_)
      refine lv_aload hx hb dX0_setTenths_17 (lv_at hl 0 rfl) ?_
      refine lv_iload_n hx hb dX0_setTenths_19 rfl (lv_at hl 2 rfl) ?_
      obtain ⟨q20, hc20, hrun⟩ := ob_e hrun
      refine wz_csi (va_runS (As := [.ref h1, .int a1]) (rest := []) ⟨hx, hb, hml, hown, hts⟩ (tX0_tenths l dC dI h1 k1 4 N a1 c1 q20 hc20) (va_cwS 2 hts gX0_setTenths_X0_tenths rfl rfl rfl (by decide +kernel) ⟨Nat.le_of_ble_eq_true rfl, Nat.le_of_ble_eq_true rfl⟩) (wz_pSr (hP.sub (ws' := [(h1, .inl (k1, 4, .inl c1))]) [1] rfl) (hK.sub (tys' := [(k1, .int)]) [0] rfl)) rfl rfl hl.1 rfl (lv_room (Nat.le_of_ble_eq_true rfl)) dX0_setTenths_20 ⟨Nat.zero_le _, Nat.zero_le _⟩) ?_
      refine lv_istore (lv' := [(5, .int q20), (4, .ref h1), (0, .ref h0), (1, .int a1), (2, .int a2), (3, .int a3)]) hx hb dX0_setTenths_23 hl (by decide) rfl (fun ls hl => ?_)
      refine lv_iload_n hx hb dX0_setTenths_25 rfl (lv_at hl 3 rfl) ?_
      refine lv_if_lt (tgt := 41) hx hb dX0_setTenths_26 (by decide) (fun cc => ?_) (fun cc => ?_)
      · have hrun := oi_t hrun cc
        refine lv_aload_n hx hb dX0_setTenths_41 rfl (lv_at hl 2 rfl) ?_
        refine lv_iconst (v := (0 : Int32)) hx hb dX0_setTenths_42 (by decide) ?_
        refine va_put (D := (dC, dI)) (ci := 0) (v := .int (0 : Int32)) (ty := .boolean) (C := RX0) (T := TX0) (N := 5) hx hb hts hinX0 tyX0 tyX0_ok nmX0 hown hK hP hD hS 0 rfl rfl 4 (by decide) (hts (.fieldLink RX0 27 "WasItOut$Asks" "known" "Z") (by decide +kernel)) (fun _ h9 => h9) rfl (by decide +kernel) rfl rfl (Nat.le_of_ble_eq_true rfl) dX0_setTenths_43 (fun H locs hP hD hS => ?_)
        have hP : va_P (dC, dI) vwCl [(h0, .inr (0, [.ref h1, .ref h2, g0_worths, g0_scales, .int (0 : Int32)])), (h1, .inl (k1, 4, .inl c1)), (h2, .inl (k2, 4, .inl c2))] H := hP
        have hD : va_D A [(h0, .inr (0, [.ref h1, .ref h2, g0_worths, g0_scales, .int (0 : Int32)])), (h1, .inl (k1, 4, .inl c1)), (h2, .inl (k2, 4, .inl c2))] := hD
        refine lv_iload hx hb dX0_setTenths_46 (lv_at hl 0 rfl) ?_
        cases hrun
        have hP9 : va_P (dC, dI) vwCl [(h0, .inr (0, [.ref h1, .ref h2, g0_worths, g0_scales, .int (0 : Int32)])), (h1, .inl (k1, 4, .inl c1)), (h2, .inl (k2, 4, .inl c2))] H := hP
        have hD9 : va_D A [(h0, .inr (0, [.ref h1, .ref h2, g0_worths, g0_scales, .int (0 : Int32)])), (h1, .inl (k1, 4, .inl c1)), (h2, .inl (k2, 4, .inl c2))] := hD
        exact W.iret hx hb hr (fun t ht hW => ⟨⟨_, (), rfl, rfl, by rw [ht]; exact hP9, va_K.moved hW.alike hK, hD9⟩, hS.F ht⟩) hS.2.2 dX0_setTenths_48
      · have hrun := oi_f hrun cc
        refine lv_iload_n hx hb dX0_setTenths_29 rfl (lv_at hl 3 rfl) ?_
        refine lv_aload hx hb dX0_setTenths_30 (lv_at hl 1 rfl) ?_
        refine va_alen (v := (4 : Int32)) hx hb hK hP 1 0 rfl rfl (by first | rfl | decide) dX0_setTenths_32 ?_
        refine lv_icmp_ge (tgt := 41) hx hb dX0_setTenths_33 (by decide) (fun cc => ?_) (fun cc => ?_)
        · have hrun := oi_t hrun cc
          refine lv_aload_n hx hb dX0_setTenths_41 rfl (lv_at hl 2 rfl) ?_
          refine lv_iconst (v := (0 : Int32)) hx hb dX0_setTenths_42 (by decide) ?_
          refine va_put (D := (dC, dI)) (ci := 0) (v := .int (0 : Int32)) (ty := .boolean) (C := RX0) (T := TX0) (N := 5) hx hb hts hinX0 tyX0 tyX0_ok nmX0 hown hK hP hD hS 0 rfl rfl 4 (by decide) (hts (.fieldLink RX0 27 "WasItOut$Asks" "known" "Z") (by decide +kernel)) (fun _ h9 => h9) rfl (by decide +kernel) rfl rfl (Nat.le_of_ble_eq_true rfl) dX0_setTenths_43 (fun H locs hP hD hS => ?_)
          have hP : va_P (dC, dI) vwCl [(h0, .inr (0, [.ref h1, .ref h2, g0_worths, g0_scales, .int (0 : Int32)])), (h1, .inl (k1, 4, .inl c1)), (h2, .inl (k2, 4, .inl c2))] H := hP
          have hD : va_D A [(h0, .inr (0, [.ref h1, .ref h2, g0_worths, g0_scales, .int (0 : Int32)])), (h1, .inl (k1, 4, .inl c1)), (h2, .inl (k2, 4, .inl c2))] := hD
          refine lv_iload hx hb dX0_setTenths_46 (lv_at hl 0 rfl) ?_
          cases hrun
          have hP9 : va_P (dC, dI) vwCl [(h0, .inr (0, [.ref h1, .ref h2, g0_worths, g0_scales, .int (0 : Int32)])), (h1, .inl (k1, 4, .inl c1)), (h2, .inl (k2, 4, .inl c2))] H := hP
          have hD9 : va_D A [(h0, .inr (0, [.ref h1, .ref h2, g0_worths, g0_scales, .int (0 : Int32)])), (h1, .inl (k1, 4, .inl c1)), (h2, .inl (k2, 4, .inl c2))] := hD
          exact W.iret hx hb hr (fun t ht hW => ⟨⟨_, (), rfl, rfl, by rw [ht]; exact hP9, va_K.moved hW.alike hK, hD9⟩, hS.F ht⟩) hS.2.2 dX0_setTenths_48
        · have hrun := oi_f hrun cc
          refine lv_aload hx hb dX0_setTenths_36 (lv_at hl 1 rfl) ?_
          refine lv_iload_n hx hb dX0_setTenths_38 rfl (lv_at hl 3 rfl) ?_
          refine lv_iload_n hx hb dX0_setTenths_39 rfl (lv_at hl 5 rfl) ?_
          obtain ⟨hi, hrun⟩ := oi_x hrun
          refine va_iast hx hb hK hP hD hS 1 0 rfl rfl hi dX0_setTenths_40 (fun H locs hP hD hS => ?_)
          have hP : va_P (dC, dI) vwCl [(h0, .inr (0, [.ref h1, .ref h2, g0_worths, g0_scales, .int v0_known])), (h1, .inl (k1, 4, .inl (upd c1 a1.toNatClampNeg a3))), (h2, .inl (k2, 4, .inl c2))] H := hP
          have hD : va_D A [(h0, .inr (0, [.ref h1, .ref h2, g0_worths, g0_scales, .int v0_known])), (h1, .inl (k1, 4, .inl (upd c1 a1.toNatClampNeg a3))), (h2, .inl (k2, 4, .inl c2))] := hD
          refine lv_aload_n hx hb dX0_setTenths_41 rfl (lv_at hl 2 rfl) ?_
          refine lv_iconst (v := (0 : Int32)) hx hb dX0_setTenths_42 (by decide) ?_
          refine va_put (D := (dC, dI)) (ci := 0) (v := .int (0 : Int32)) (ty := .boolean) (C := RX0) (T := TX0) (N := 5) hx hb hts hinX0 tyX0 tyX0_ok nmX0 hown hK hP hD hS 0 rfl rfl 4 (by decide) (hts (.fieldLink RX0 27 "WasItOut$Asks" "known" "Z") (by decide +kernel)) (fun _ h9 => h9) rfl (by decide +kernel) rfl rfl (Nat.le_of_ble_eq_true rfl) dX0_setTenths_43 (fun H locs hP hD hS => ?_)
          have hP : va_P (dC, dI) vwCl [(h0, .inr (0, [.ref h1, .ref h2, g0_worths, g0_scales, .int (0 : Int32)])), (h1, .inl (k1, 4, .inl (upd c1 a1.toNatClampNeg a3))), (h2, .inl (k2, 4, .inl c2))] H := hP
          have hD : va_D A [(h0, .inr (0, [.ref h1, .ref h2, g0_worths, g0_scales, .int (0 : Int32)])), (h1, .inl (k1, 4, .inl (upd c1 a1.toNatClampNeg a3))), (h2, .inl (k2, 4, .inl c2))] := hD
          refine lv_iload hx hb dX0_setTenths_46 (lv_at hl 0 rfl) ?_
          cases hrun
          have hP9 : va_P (dC, dI) vwCl [(h0, .inr (0, [.ref h1, .ref h2, g0_worths, g0_scales, .int (0 : Int32)])), (h1, .inl (k1, 4, .inl (upd c1 a1.toNatClampNeg a3))), (h2, .inl (k2, 4, .inl c2))] H := hP
          have hD9 : va_D A [(h0, .inr (0, [.ref h1, .ref h2, g0_worths, g0_scales, .int (0 : Int32)])), (h1, .inl (k1, 4, .inl (upd c1 a1.toNatClampNeg a3))), (h2, .inl (k2, 4, .inl c2))] := hD
          exact W.iret hx hb hr (fun t ht hW => ⟨⟨_, (), rfl, rfl, by rw [ht]; exact hP9, va_K.moved hW.alike hK, hD9⟩, hS.F ht⟩) hS.2.2 dX0_setTenths_48
  rw [hHe, hLe] at key
  exact key
set_option maxHeartbeats 4000000 in
set_option maxRecDepth 100000 in
theorem tX0_shouldAsk (l : Launch) (dC : Nat → ClassId) (dI : Nat → Nat → Nat) (t : Nat → Nat) (sz : Nat) (h0 h1 h2 h3 h4 : Nat) (k1 k2 k3 k4 : ClassId) (N : Nat) (a1 : Int32) (a2 : Int32) (a3 : Int32) (v0_known : Int32) (c1 : Nat → Int32) (c2 : Nat → Int32) (c3 : Nat → Int64) (c4 : Nat → Int64) (ru : Int32 × (Int32) × (Nat → Int64) × (Nat → Int64)) (hm : fX0_shouldAsk N a1 a2 a3 v0_known c1 c2 c3 c4 = some ru) : Met l yX0_shouldAsk wsX0_shouldAsk ({ frames := 5, cells := 0, slots := 0, locals := 120 } : Room) (va_Pc [.ref h0, .int a1, .int a2, .int a3] (fun U => U.heap.size = sz ∧ va_P (dC, dI) vwCl [(h0, .inr (0, [.ref h1, .ref h2, .ref h4, .ref h3, .int v0_known])), (h1, .inl (k1, 4, .inl c1)), (h2, .inl (k2, 4, .inl c2)), (h3, .inl (k3, 9, .inr (.inl c3))), (h4, .inl (k4, 81, .inr (.inl c4)))] U.heap ∧ va_K (dC, dI) vwCl [(k1, .int), (k2, .int), (k3, .long), (k4, .long)] U ∧ va_D (fun _ => True) [(h0, .inr (0, [.ref h1, .ref h2, .ref h4, .ref h3, .int v0_known])), (h1, .inl (k1, 4, .inl c1)), (h2, .inl (k2, 4, .inl c2)), (h3, .inl (k3, 9, .inr (.inl c3))), (h4, .inl (k4, 81, .inr (.inl c4)))] ∧ gG t (va_A [(h0, .inr (0, [.ref h1, .ref h2, .ref h4, .ref h3, .int v0_known])), (h1, .inl (k1, 4, .inl c1)), (h2, .inl (k2, 4, .inl c2)), (h3, .inl (k3, 9, .inr (.inl c3))), (h4, .inl (k4, 81, .inr (.inl c4)))] sz) U U.heap)) (va_Qi (fun r (_ : Unit) => r = ru.1 ∧ narrow .boolean (.int r) = .int r) (fun (_ : Unit) t => va_P (dC, dI) vwCl [(h0, .inr (0, [.ref h1, .ref h2, .ref h4, .ref h3, .int ru.2.1])), (h1, .inl (k1, 4, .inl c1)), (h2, .inl (k2, 4, .inl c2)), (h3, .inl (k3, 9, .inr (.inl ru.2.2.1))), (h4, .inl (k4, 81, .inr (.inl ru.2.2.2)))] t.heap ∧ va_K (dC, dI) vwCl [(k1, .int), (k2, .int), (k3, .long), (k4, .long)] t ∧ va_D (va_A [(h0, .inr (0, [.ref h1, .ref h2, .ref h4, .ref h3, .int v0_known])), (h1, .inl (k1, 4, .inl c1)), (h2, .inl (k2, 4, .inl c2)), (h3, .inl (k3, 9, .inr (.inl c3))), (h4, .inl (k4, 81, .inr (.inl c4)))] sz) [(h0, .inr (0, [.ref h1, .ref h2, .ref h4, .ref h3, .int ru.2.1])), (h1, .inl (k1, 4, .inl c1)), (h2, .inl (k2, 4, .inl c2)), (h3, .inl (k3, 9, .inr (.inl ru.2.2.1))), (h4, .inl (k4, 81, .inr (.inl ru.2.2.2)))]) (va_A [(h0, .inr (0, [.ref h1, .ref h2, .ref h4, .ref h3, .int v0_known])), (h1, .inl (k1, 4, .inl c1)), (h2, .inl (k2, 4, .inl c2)), (h3, .inl (k3, 9, .inr (.inl c3))), (h4, .inl (k4, 81, .inr (.inl c4)))] sz)) 0 0 (va_A [(h0, .inr (0, [.ref h1, .ref h2, .ref h4, .ref h3, .int v0_known])), (h1, .inl (k1, 4, .inl c1)), (h2, .inl (k2, 4, .inl c2)), (h3, .inl (k3, 9, .inr (.inl c3))), (h4, .inl (k4, 81, .inr (.inl c4)))] sz) := by
  refine Met.ofW (cc := cX0_shouldAsk) (maxL := 4) (ret := (some .boolean)) (by decide) rfl ?_
  intro p e s m args below meth c s₁ B hml hv
  obtain ⟨rfl, hsz, hP, hK, hD0, hG⟩ := hv
  have hx := B.exec
  have hb := B.bytes
  have hr := B.returns
  have hts := atoms_spec (ws := wsX0_shouldAsk) B.pre
  have hown : s.vm.findClass RX0 = some m.cls := findClass_of_methodNamed B.named
  have hlocks := B.notSynchronized
  subst hsz
  have hD := hD0.self (sz := s.heap.size)
  generalize hAe : va_A [(h0, .inr (0, [.ref h1, .ref h2, .ref h4, .ref h3, .int v0_known])), (h1, .inl (k1, 4, .inl c1)), (h2, .inl (k2, 4, .inl c2)), (h3, .inl (k3, 9, .inr (.inl c3))), (h4, .inl (k4, 81, .inr (.inl c4)))] s.heap.size = A at hD hG ⊢
  have hA : ∀ q : Nat, s.heap.size ≤ q → A q := fun q h => by rw [← hAe]; exact Or.inr h
  have hS : va_S A s.heap s.heap [] := va_S.rf
  have hl := lv_entry ([.ref h0, .int a1, .int a2, .int a3]) (n := 4) (Nat.le_of_ble_eq_true rfl)
  rw [lg_entry_eq]
  generalize (lg_sl ([.ref h0, .int a1, .int a2, .int a3]) ++ List.replicate (4 - (lg_sl ([.ref h0, .int a1, .int a2, .int a3])).length) Slot.unset).toArray = ls at hl ⊢
  have hl : lv_has ls 4 [(0, .ref h0), (1, .int a1), (2, .int a2), (3, .int a3)] := hl
  have hrun := hm
  rw [fX0_shouldAsk] at hrun
  obtain ⟨H, hHe⟩ : ∃ H, H = s.heap := ⟨_, rfl⟩
  obtain ⟨locs, hLe⟩ : ∃ locs : List Loc, locs = [] := ⟨_, rfl⟩
  rw [← hHe] at hP
  have hS : va_S A s.heap H locs := by rw [hHe, hLe]; exact hS
  have key : W p l e (headSpec wsX0_shouldAsk ({ frames := 5, cells := 0, slots := 0, locals := 120 } : Room)).room s m ([.ref h0, .int a1, .int a2, .int a3] : List Value).toArray below meth c H locs 0 0 (MQ below (va_Qi (fun r (_ : Unit) => r = ru.1 ∧ narrow .boolean (.int r) = .int r) (fun (_ : Unit) t => va_P (dC, dI) vwCl [(h0, .inr (0, [.ref h1, .ref h2, .ref h4, .ref h3, .int ru.2.1])), (h1, .inl (k1, 4, .inl c1)), (h2, .inl (k2, 4, .inl c2)), (h3, .inl (k3, 9, .inr (.inl ru.2.2.1))), (h4, .inl (k4, 81, .inr (.inl ru.2.2.2)))] t.heap ∧ va_K (dC, dI) vwCl [(k1, .int), (k2, .int), (k3, .long), (k4, .long)] t ∧ va_D A [(h0, .inr (0, [.ref h1, .ref h2, .ref h4, .ref h3, .int ru.2.1])), (h1, .inl (k1, 4, .inl c1)), (h2, .inl (k2, 4, .inl c2)), (h3, .inl (k3, 9, .inr (.inl ru.2.2.1))), (h4, .inl (k4, 81, .inr (.inl ru.2.2.2)))]) A) ([.ref h0, .int a1, .int a2, .int a3] : List Value).toArray s 0 0 A) (F0 m 0 ls []) := by
    clear hHe hLe
    refine lv_aload_n hx hb dX0_shouldAsk_0 rfl (lv_at hl 0 rfl) ?_
    obtain ⟨q1, hc1, hrun⟩ := ob_e hrun
    refine wz_cqv (WC := [(h0, .inr (0, [.ref h1, .ref h2, .ref h4, .ref h3, .int v0_known])), (h1, .inl (k1, 4, .inl c1)), (h2, .inl (k2, 4, .inl c2)), (h3, .inl (k3, 9, .inr (.inl c3))), (h4, .inl (k4, 81, .inr (.inl c4)))]) (WR := []) (W1 := [(h0, .inr (0, [.ref h1, .ref h2, .ref h4, .ref h3, .int q1.1])), (h1, .inl (k1, 4, .inl c1)), (h2, .inl (k2, 4, .inl c2)), (h3, .inl (k3, 9, .inr (.inl q1.2.1))), (h4, .inl (k4, 81, .inr (.inl q1.2.2)))]) (va_runV (As := []) (rest := []) ⟨hx, hb, hml, hown, hts⟩ (tX0_learn l dC dI t H.size h0 h1 h2 h3 h4 k1 k2 k3 k4 N v0_known c1 c2 c3 c4 q1 hc1) (cwV 0 hts gX0_shouldAsk_X0_learn rfl rfl rfl (by decide +kernel) ⟨Nat.le_of_ble_eq_true rfl, Nat.le_of_ble_eq_true rfl⟩) (wz_pVwG (hP.sub (ws' := [(h0, .inr (0, [.ref h1, .ref h2, .ref h4, .ref h3, .int v0_known])), (h1, .inl (k1, 4, .inl c1)), (h2, .inl (k2, 4, .inl c2)), (h3, .inl (k3, 9, .inr (.inl c3))), (h4, .inl (k4, 81, .inr (.inl c4)))]) [0, 1, 2, 3, 4] rfl) (hK.sub (tys' := [(k1, .int), (k2, .int), (k3, .long), (k4, .long)]) [0, 1, 2, 3] rfl) (hD.sub (ws' := [(h0, .inr (0, [.ref h1, .ref h2, .ref h4, .ref h3, .int v0_known])), (h1, .inl (k1, 4, .inl c1)), (h2, .inl (k2, 4, .inl c2)), (h3, .inl (k3, 9, .inr (.inl c3))), (h4, .inl (k4, 81, .inr (.inl c4)))]) [0, 1, 2, 3, 4] (by decide) rfl) hG hS (va_free (wc := [(h0, .inr (0, [.ref h1, .ref h2, .ref h4, .ref h3, .int v0_known])), (h1, .inl (k1, 4, .inl c1)), (h2, .inl (k2, 4, .inl c2)), (h3, .inl (k3, 9, .inr (.inl c3))), (h4, .inl (k4, 81, .inr (.inl c4)))]) hD hS hA [0, 1, 2, 3, 4] rfl) (va_recv hK hP (ci := 0) (q0 := 0) rfl rfl)) rfl rfl hl.1 rfl (lv_room (Nat.le_of_ble_eq_true rfl)) dX0_shouldAsk_1 ⟨Nat.zero_le _, Nat.zero_le _⟩) hP hD hS hA [0, 1, 2, 3, 4] [] rfl rfl (by decide) (by decide) (fun H locs hP hD hS => ?_)
    have hP : va_P (dC, dI) vwCl [(h0, .inr (0, [.ref h1, .ref h2, .ref h4, .ref h3, .int q1.1])), (h1, .inl (k1, 4, .inl c1)), (h2, .inl (k2, 4, .inl c2)), (h3, .inl (k3, 9, .inr (.inl q1.2.1))), (h4, .inl (k4, 81, .inr (.inl q1.2.2)))] H := hP
    have hD : va_D A [(h0, .inr (0, [.ref h1, .ref h2, .ref h4, .ref h3, .int q1.1])), (h1, .inl (k1, 4, .inl c1)), (h2, .inl (k2, 4, .inl c2)), (h3, .inl (k3, 9, .inr (.inl q1.2.1))), (h4, .inl (k4, 81, .inr (.inl q1.2.2)))] := hD
    refine lv_iload_n hx hb dX0_shouldAsk_4 rfl (lv_at hl 2 rfl) ?_
    refine lv_if_le (tgt := 33) hx hb dX0_shouldAsk_5 (by decide) (fun cc => ?_) (fun cc => ?_)
    · have hrun := oi_t hrun cc
      refine lv_iconst (v := (0 : Int32)) hx hb dX0_shouldAsk_33 (by decide) ?_
      cases hrun
      have hP9 : va_P (dC, dI) vwCl [(h0, .inr (0, [.ref h1, .ref h2, .ref h4, .ref h3, .int q1.1])), (h1, .inl (k1, 4, .inl c1)), (h2, .inl (k2, 4, .inl c2)), (h3, .inl (k3, 9, .inr (.inl q1.2.1))), (h4, .inl (k4, 81, .inr (.inl q1.2.2)))] H := hP
      have hD9 : va_D A [(h0, .inr (0, [.ref h1, .ref h2, .ref h4, .ref h3, .int q1.1])), (h1, .inl (k1, 4, .inl c1)), (h2, .inl (k2, 4, .inl c2)), (h3, .inl (k3, 9, .inr (.inl q1.2.1))), (h4, .inl (k4, 81, .inr (.inl q1.2.2)))] := hD
      exact W.zret hx hb hr (by rfl) (fun t ht hW => ⟨⟨_, (), rfl, ⟨rfl, (by rfl)⟩, by rw [ht]; exact hP9, va_K.moved hW.alike hK, hD9⟩, hS.F ht⟩) hS.2.2 dX0_shouldAsk_34
    · have hrun := oi_f hrun cc
      refine lv_aload_n hx hb dX0_shouldAsk_8 rfl (lv_at hl 0 rfl) ?_
      refine lv_iload_n hx hb dX0_shouldAsk_9 rfl (lv_at hl 1 rfl) ?_
      refine lv_iload_n hx hb dX0_shouldAsk_10 rfl (lv_at hl 2 rfl) ?_
      refine lv_iload_n hx hb dX0_shouldAsk_11 rfl (lv_at hl 3 rfl) ?_
      obtain ⟨q12, hc12, hrun⟩ := ob_e hrun
      refine wz_csl (va_runV (As := [.int a1, .int a2, .int a3]) (rest := []) ⟨hx, hb, hml, hown, hts⟩ (tX0_asking l dC dI t h0 h2 h3 h4 k2 k3 k4 (.ref h1) (.int q1.1) N a1 a2 a3 c2 q1.2.1 q1.2.2 q12 hc12) (cwV 3 hts gX0_shouldAsk_X0_asking rfl rfl rfl (by decide +kernel) ⟨Nat.le_of_ble_eq_true rfl, Nat.le_of_ble_eq_true rfl⟩) (wz_pVrG (hP.sub (ws' := [(h0, .inr (0, [.ref h1, .ref h2, .ref h4, .ref h3, .int q1.1])), (h2, .inl (k2, 4, .inl c2)), (h3, .inl (k3, 9, .inr (.inl q1.2.1))), (h4, .inl (k4, 81, .inr (.inl q1.2.2)))]) [0, 2, 3, 4] rfl) (hK.sub (tys' := [(k2, .int), (k3, .long), (k4, .long)]) [1, 2, 3] rfl) hG hS (va_recv hK hP (ci := 0) (q0 := 0) rfl rfl)) rfl rfl hl.1 rfl (lv_room (Nat.le_of_ble_eq_true rfl)) dX0_shouldAsk_12 ⟨Nat.zero_le _, Nat.zero_le _⟩) ?_
      refine lv_ldc2 (v := (10 : Int64)) hx hb hown (hts (.constantLong RX0 50 (10 : Int64)) (by decide +kernel)) dX0_shouldAsk_15 ?_
      refine lv_aload_n hx hb dX0_shouldAsk_18 rfl (lv_at hl 0 rfl) ?_
      refine lv_iload_n hx hb dX0_shouldAsk_19 rfl (lv_at hl 1 rfl) ?_
      refine lv_iload_n hx hb dX0_shouldAsk_20 rfl (lv_at hl 2 rfl) ?_
      obtain ⟨q21, hc21, hrun⟩ := ob_e hrun
      refine wz_csl (va_runV (As := [.int a1, .int a2]) (rest := [.long (10 : Int64), .long q12]) ⟨hx, hb, hml, hown, hts⟩ (tX0_worthOf l dC dI t h0 h4 k4 (.ref h1) (.ref h2) (.ref h3) (.int q1.1) N a1 a2 q1.2.2 q21 hc21) (cwV 2 hts gX0_shouldAsk_X0_worthOf rfl rfl rfl (by decide +kernel) ⟨Nat.le_of_ble_eq_true rfl, Nat.le_of_ble_eq_true rfl⟩) (wz_pVrG (hP.sub (ws' := [(h0, .inr (0, [.ref h1, .ref h2, .ref h4, .ref h3, .int q1.1])), (h4, .inl (k4, 81, .inr (.inl q1.2.2)))]) [0, 4] rfl) (hK.sub (tys' := [(k4, .long)]) [3] rfl) hG hS (va_recv hK hP (ci := 0) (q0 := 0) rfl rfl)) rfl rfl hl.1 rfl (lv_room (Nat.le_of_ble_eq_true rfl)) dX0_shouldAsk_21 ⟨Nat.zero_le _, Nat.zero_le _⟩) ?_
      refine lv_lmul hx hb dX0_shouldAsk_24 ?_
      refine W.lcmp hx hb dX0_shouldAsk_25 ?_
      refine lv_if_le (tgt := 33) hx hb dX0_shouldAsk_26 (by decide) (fun cc => ?_) (fun cc => ?_)
      · have hrun := oi_t hrun cc
        refine lv_iconst (v := (0 : Int32)) hx hb dX0_shouldAsk_33 (by decide) ?_
        cases hrun
        have hP9 : va_P (dC, dI) vwCl [(h0, .inr (0, [.ref h1, .ref h2, .ref h4, .ref h3, .int q1.1])), (h1, .inl (k1, 4, .inl c1)), (h2, .inl (k2, 4, .inl c2)), (h3, .inl (k3, 9, .inr (.inl q1.2.1))), (h4, .inl (k4, 81, .inr (.inl q1.2.2)))] H := hP
        have hD9 : va_D A [(h0, .inr (0, [.ref h1, .ref h2, .ref h4, .ref h3, .int q1.1])), (h1, .inl (k1, 4, .inl c1)), (h2, .inl (k2, 4, .inl c2)), (h3, .inl (k3, 9, .inr (.inl q1.2.1))), (h4, .inl (k4, 81, .inr (.inl q1.2.2)))] := hD
        exact W.zret hx hb hr (by rfl) (fun t ht hW => ⟨⟨_, (), rfl, ⟨rfl, (by rfl)⟩, by rw [ht]; exact hP9, va_K.moved hW.alike hK, hD9⟩, hS.F ht⟩) hS.2.2 dX0_shouldAsk_34
      · have hrun := oi_f hrun cc
        refine lv_iconst (v := (1 : Int32)) hx hb dX0_shouldAsk_29 (by decide) ?_
        refine lv_goto (tgt := 34) hx hb dX0_shouldAsk_30 (by decide) ?_
        cases hrun
        have hP9 : va_P (dC, dI) vwCl [(h0, .inr (0, [.ref h1, .ref h2, .ref h4, .ref h3, .int q1.1])), (h1, .inl (k1, 4, .inl c1)), (h2, .inl (k2, 4, .inl c2)), (h3, .inl (k3, 9, .inr (.inl q1.2.1))), (h4, .inl (k4, 81, .inr (.inl q1.2.2)))] H := hP
        have hD9 : va_D A [(h0, .inr (0, [.ref h1, .ref h2, .ref h4, .ref h3, .int q1.1])), (h1, .inl (k1, 4, .inl c1)), (h2, .inl (k2, 4, .inl c2)), (h3, .inl (k3, 9, .inr (.inl q1.2.1))), (h4, .inl (k4, 81, .inr (.inl q1.2.2)))] := hD
        exact W.zret hx hb hr (by rfl) (fun t ht hW => ⟨⟨_, (), rfl, ⟨rfl, (by rfl)⟩, by rw [ht]; exact hP9, va_K.moved hW.alike hK, hD9⟩, hS.F ht⟩) hS.2.2 dX0_shouldAsk_34
  rw [hHe, hLe] at key
  exact key
set_option maxHeartbeats 4000000 in
set_option maxRecDepth 100000 in
theorem tX1_add (l : Launch) (dC : Nat → ClassId) (dI : Nat → Nat → Nat) (sz : Nat) (h0 h1 h2 : Nat) (k1 k2 : ClassId) (N : Nat) (a1 : Int32) (a2 : Int32) (v0_amount : Int32) (c1 : Nat → Int32) (c2 : Nat → Int32) (ru : Int32 × (Int32) × (Nat → Int32) × (Nat → Int32)) (hm : fX1_add N a1 a2 v0_amount c1 c2 = some ru) : Met l yX1_add wsX1_add ({ frames := 0, cells := 0, slots := 0, locals := 0 } : Room) (va_Pc [.ref h0, .int a1, .int a2] (fun U => U.heap.size = sz ∧ va_P (dC, dI) vwCl [(h0, .inr (1, [.ref h1, .ref h2, .int v0_amount])), (h1, .inl (k1, 30, .inl c1)), (h2, .inl (k2, 30, .inl c2))] U.heap ∧ va_K (dC, dI) vwCl [(k1, .int), (k2, .boolean)] U ∧ va_D (fun _ => True) [(h0, .inr (1, [.ref h1, .ref h2, .int v0_amount])), (h1, .inl (k1, 30, .inl c1)), (h2, .inl (k2, 30, .inl c2))])) (va_Qi (fun r (_ : Unit) => r = ru.1) (fun (_ : Unit) t => va_P (dC, dI) vwCl [(h0, .inr (1, [.ref h1, .ref h2, .int ru.2.1])), (h1, .inl (k1, 30, .inl ru.2.2.1)), (h2, .inl (k2, 30, .inl ru.2.2.2))] t.heap ∧ va_K (dC, dI) vwCl [(k1, .int), (k2, .boolean)] t ∧ va_D (va_A [(h0, .inr (1, [.ref h1, .ref h2, .int v0_amount])), (h1, .inl (k1, 30, .inl c1)), (h2, .inl (k2, 30, .inl c2))] sz) [(h0, .inr (1, [.ref h1, .ref h2, .int ru.2.1])), (h1, .inl (k1, 30, .inl ru.2.2.1)), (h2, .inl (k2, 30, .inl ru.2.2.2))]) (va_A [(h0, .inr (1, [.ref h1, .ref h2, .int v0_amount])), (h1, .inl (k1, 30, .inl c1)), (h2, .inl (k2, 30, .inl c2))] sz)) 0 0 (va_A [(h0, .inr (1, [.ref h1, .ref h2, .int v0_amount])), (h1, .inl (k1, 30, .inl c1)), (h2, .inl (k2, 30, .inl c2))] sz) := by
  refine Met.ofW (cc := cX1_add) (maxL := 3) (ret := (some .int)) (by decide) rfl ?_
  intro p e s m args below meth c s₁ B hml hv
  obtain ⟨rfl, hsz, hP, hK, hD0⟩ := hv
  have hx := B.exec
  have hb := B.bytes
  have hr := B.returns
  have hts := atoms_spec (ws := wsX1_add) B.pre
  have hown : s.vm.findClass RX1 = some m.cls := findClass_of_methodNamed B.named
  have hlocks := B.notSynchronized
  subst hsz
  have hD := hD0.self (sz := s.heap.size)
  generalize hAe : va_A [(h0, .inr (1, [.ref h1, .ref h2, .int v0_amount])), (h1, .inl (k1, 30, .inl c1)), (h2, .inl (k2, 30, .inl c2))] s.heap.size = A at hD ⊢
  have hA : ∀ q : Nat, s.heap.size ≤ q → A q := fun q h => by rw [← hAe]; exact Or.inr h
  have hS : va_S A s.heap s.heap [] := va_S.rf
  have hinX1 : ∀ w ∈ wsX10, w ∈ wsX1_add := by decide +kernel
  have hl := lv_entry ([.ref h0, .int a1, .int a2]) (n := 3) (Nat.le_of_ble_eq_true rfl)
  rw [lg_entry_eq]
  generalize (lg_sl ([.ref h0, .int a1, .int a2]) ++ List.replicate (3 - (lg_sl ([.ref h0, .int a1, .int a2])).length) Slot.unset).toArray = ls at hl ⊢
  have hl : lv_has ls 3 [(0, .ref h0), (1, .int a1), (2, .int a2)] := hl
  have hrun := hm
  rw [fX1_add] at hrun
  obtain ⟨H, hHe⟩ : ∃ H, H = s.heap := ⟨_, rfl⟩
  obtain ⟨locs, hLe⟩ : ∃ locs : List Loc, locs = [] := ⟨_, rfl⟩
  rw [← hHe] at hP
  have hS : va_S A s.heap H locs := by rw [hHe, hLe]; exact hS
  have key : W p l e (headSpec wsX1_add ({ frames := 0, cells := 0, slots := 0, locals := 0 } : Room)).room s m ([.ref h0, .int a1, .int a2] : List Value).toArray below meth c H locs 0 0 (MQ below (va_Qi (fun r (_ : Unit) => r = ru.1) (fun (_ : Unit) t => va_P (dC, dI) vwCl [(h0, .inr (1, [.ref h1, .ref h2, .int ru.2.1])), (h1, .inl (k1, 30, .inl ru.2.2.1)), (h2, .inl (k2, 30, .inl ru.2.2.2))] t.heap ∧ va_K (dC, dI) vwCl [(k1, .int), (k2, .boolean)] t ∧ va_D A [(h0, .inr (1, [.ref h1, .ref h2, .int ru.2.1])), (h1, .inl (k1, 30, .inl ru.2.2.1)), (h2, .inl (k2, 30, .inl ru.2.2.2))]) A) ([.ref h0, .int a1, .int a2] : List Value).toArray s 0 0 A) (F0 m 0 ls []) := by
    clear hHe hLe
    refine lv_aload_n hx hb dX1_add_0 rfl (lv_at hl 0 rfl) ?_
    refine va_get (D := (dC, dI)) (ci := 1) (v := .int v0_amount) (C := RX1) (T := TX1) (N := 3) hx hb hts hinX1 hown hK hP 0 rfl rfl 2 (by decide) (hts (.fieldLink RX1 19 "WasItOut$Cases" "amount" "I") (by decide +kernel)) (fun _ h9 => h9) rfl dX1_add_1 ?_
    refine lv_if_lt (tgt := 16) hx hb dX1_add_4 (by decide) (fun cc => ?_) (fun cc => ?_)
    · have hrun := oi_t hrun cc
      refine lv_bipush (v := (-3 : Int32)) hx hb dX1_add_16 (by decide) ?_
      cases hrun
      have hP9 : va_P (dC, dI) vwCl [(h0, .inr (1, [.ref h1, .ref h2, .int v0_amount])), (h1, .inl (k1, 30, .inl c1)), (h2, .inl (k2, 30, .inl c2))] H := hP
      have hD9 : va_D A [(h0, .inr (1, [.ref h1, .ref h2, .int v0_amount])), (h1, .inl (k1, 30, .inl c1)), (h2, .inl (k2, 30, .inl c2))] := hD
      exact W.iret hx hb hr (fun t ht hW => ⟨⟨_, (), rfl, rfl, by rw [ht]; exact hP9, va_K.moved hW.alike hK, hD9⟩, hS.F ht⟩) hS.2.2 dX1_add_18
    · have hrun := oi_f hrun cc
      refine lv_aload_n hx hb dX1_add_7 rfl (lv_at hl 0 rfl) ?_
      refine va_get (D := (dC, dI)) (ci := 1) (v := .int v0_amount) (C := RX1) (T := TX1) (N := 3) hx hb hts hinX1 hown hK hP 0 rfl rfl 2 (by decide) (hts (.fieldLink RX1 19 "WasItOut$Cases" "amount" "I") (by decide +kernel)) (fun _ h9 => h9) rfl dX1_add_8 ?_
      refine lv_bipush (v := (30 : Int32)) hx hb dX1_add_11 (by decide) ?_
      refine lv_icmp_lt (tgt := 19) hx hb dX1_add_13 (by decide) (fun cc => ?_) (fun cc => ?_)
      · have hrun := oi_t hrun cc
        refine lv_aload_n hx hb dX1_add_19 rfl (lv_at hl 0 rfl) ?_
        refine va_get (D := (dC, dI)) (ci := 1) (v := .ref h1) (C := RX1) (T := TX1) (N := 3) hx hb hts hinX1 hown hK hP 0 rfl rfl 0 (by decide) (hts (.fieldLink RX1 11 "WasItOut$Cases" "outs" "[I") (by decide +kernel)) (fun _ h9 => h9) rfl dX1_add_20 ?_
        refine lv_aload_n hx hb dX1_add_23 rfl (lv_at hl 0 rfl) ?_
        refine va_get (D := (dC, dI)) (ci := 1) (v := .int v0_amount) (C := RX1) (T := TX1) (N := 3) hx hb hts hinX1 hown hK hP 0 rfl rfl 2 (by decide) (hts (.fieldLink RX1 19 "WasItOut$Cases" "amount" "I") (by decide +kernel)) (fun _ h9 => h9) rfl dX1_add_24 ?_
        refine lv_iload_n hx hb dX1_add_27 rfl (lv_at hl 1 rfl) ?_
        obtain ⟨hi, hrun⟩ := oi_x hrun
        refine va_iast hx hb hK hP hD hS 1 0 rfl rfl hi dX1_add_28 (fun H locs hP hD hS => ?_)
        have hP : va_P (dC, dI) vwCl [(h0, .inr (1, [.ref h1, .ref h2, .int v0_amount])), (h1, .inl (k1, 30, .inl (upd c1 v0_amount.toNatClampNeg a1))), (h2, .inl (k2, 30, .inl c2))] H := hP
        have hD : va_D A [(h0, .inr (1, [.ref h1, .ref h2, .int v0_amount])), (h1, .inl (k1, 30, .inl (upd c1 v0_amount.toNatClampNeg a1))), (h2, .inl (k2, 30, .inl c2))] := hD
        refine lv_aload_n hx hb dX1_add_29 rfl (lv_at hl 0 rfl) ?_
        refine va_get (D := (dC, dI)) (ci := 1) (v := .ref h2) (C := RX1) (T := TX1) (N := 3) hx hb hts hinX1 hown hK hP 0 rfl rfl 1 (by decide) (hts (.fieldLink RX1 15 "WasItOut$Cases" "trulyOut" "[Z") (by decide +kernel)) (fun _ h9 => h9) rfl dX1_add_30 ?_
        refine lv_aload_n hx hb dX1_add_33 rfl (lv_at hl 0 rfl) ?_
        refine va_get (D := (dC, dI)) (ci := 1) (v := .int v0_amount) (C := RX1) (T := TX1) (N := 3) hx hb hts hinX1 hown hK hP 0 rfl rfl 2 (by decide) (hts (.fieldLink RX1 19 "WasItOut$Cases" "amount" "I") (by decide +kernel)) (fun _ h9 => h9) rfl dX1_add_34 ?_
        refine lv_iload_n hx hb dX1_add_37 rfl (lv_at hl 2 rfl) ?_
        obtain ⟨hi, hrun⟩ := oi_x hrun
        refine va_zast hx hb hK hP hD hS 2 1 rfl rfl hi dX1_add_38 (fun H locs hP hD hS => ?_)
        have hP : va_P (dC, dI) vwCl [(h0, .inr (1, [.ref h1, .ref h2, .int v0_amount])), (h1, .inl (k1, 30, .inl (upd c1 v0_amount.toNatClampNeg a1))), (h2, .inl (k2, 30, .inl (upd c2 v0_amount.toNatClampNeg (vp_nar .boolean a2))))] H := hP
        have hD : va_D A [(h0, .inr (1, [.ref h1, .ref h2, .int v0_amount])), (h1, .inl (k1, 30, .inl (upd c1 v0_amount.toNatClampNeg a1))), (h2, .inl (k2, 30, .inl (upd c2 v0_amount.toNatClampNeg (vp_nar .boolean a2))))] := hD
        refine lv_aload_n hx hb dX1_add_39 rfl (lv_at hl 0 rfl) ?_
        refine lv_dup hx hb dX1_add_40 rfl ?_
        refine va_get (D := (dC, dI)) (ci := 1) (v := .int v0_amount) (C := RX1) (T := TX1) (N := 3) hx hb hts hinX1 hown hK hP 0 rfl rfl 2 (by decide) (hts (.fieldLink RX1 19 "WasItOut$Cases" "amount" "I") (by decide +kernel)) (fun _ h9 => h9) rfl dX1_add_41 ?_
        refine lv_iconst (v := (1 : Int32)) hx hb dX1_add_44 (by decide) ?_
        refine lv_iadd hx hb dX1_add_45 ?_
        refine va_put (D := (dC, dI)) (ci := 1) (v := .int (v0_amount + (1 : Int32))) (ty := .int) (C := RX1) (T := TX1) (N := 3) hx hb hts hinX1 tyX1 tyX1_ok nmX1 hown hK hP hD hS 0 rfl rfl 2 (by decide) (hts (.fieldLink RX1 19 "WasItOut$Cases" "amount" "I") (by decide +kernel)) (fun _ h9 => h9) rfl (by decide +kernel) rfl rfl (Nat.le_of_ble_eq_true rfl) dX1_add_46 (fun H locs hP hD hS => ?_)
        have hP : va_P (dC, dI) vwCl [(h0, .inr (1, [.ref h1, .ref h2, .int (v0_amount + (1 : Int32))])), (h1, .inl (k1, 30, .inl (upd c1 v0_amount.toNatClampNeg a1))), (h2, .inl (k2, 30, .inl (upd c2 v0_amount.toNatClampNeg (vp_nar .boolean a2))))] H := hP
        have hD : va_D A [(h0, .inr (1, [.ref h1, .ref h2, .int (v0_amount + (1 : Int32))])), (h1, .inl (k1, 30, .inl (upd c1 v0_amount.toNatClampNeg a1))), (h2, .inl (k2, 30, .inl (upd c2 v0_amount.toNatClampNeg (vp_nar .boolean a2))))] := hD
        refine lv_aload_n hx hb dX1_add_49 rfl (lv_at hl 0 rfl) ?_
        refine va_get (D := (dC, dI)) (ci := 1) (v := .int (v0_amount + (1 : Int32))) (C := RX1) (T := TX1) (N := 3) hx hb hts hinX1 hown hK hP 0 rfl rfl 2 (by decide) (hts (.fieldLink RX1 19 "WasItOut$Cases" "amount" "I") (by decide +kernel)) (fun _ h9 => h9) rfl dX1_add_50 ?_
        cases hrun
        have hP9 : va_P (dC, dI) vwCl [(h0, .inr (1, [.ref h1, .ref h2, .int (v0_amount + (1 : Int32))])), (h1, .inl (k1, 30, .inl (upd c1 v0_amount.toNatClampNeg a1))), (h2, .inl (k2, 30, .inl (upd c2 v0_amount.toNatClampNeg (vp_nar .boolean a2))))] H := hP
        have hD9 : va_D A [(h0, .inr (1, [.ref h1, .ref h2, .int (v0_amount + (1 : Int32))])), (h1, .inl (k1, 30, .inl (upd c1 v0_amount.toNatClampNeg a1))), (h2, .inl (k2, 30, .inl (upd c2 v0_amount.toNatClampNeg (vp_nar .boolean a2))))] := hD
        exact W.iret hx hb hr (fun t ht hW => ⟨⟨_, (), rfl, rfl, by rw [ht]; exact hP9, va_K.moved hW.alike hK, hD9⟩, hS.F ht⟩) hS.2.2 dX1_add_53
      · have hrun := oi_f hrun cc
        refine lv_bipush (v := (-3 : Int32)) hx hb dX1_add_16 (by decide) ?_
        cases hrun
        have hP9 : va_P (dC, dI) vwCl [(h0, .inr (1, [.ref h1, .ref h2, .int v0_amount])), (h1, .inl (k1, 30, .inl c1)), (h2, .inl (k2, 30, .inl c2))] H := hP
        have hD9 : va_D A [(h0, .inr (1, [.ref h1, .ref h2, .int v0_amount])), (h1, .inl (k1, 30, .inl c1)), (h2, .inl (k2, 30, .inl c2))] := hD
        exact W.iret hx hb hr (fun t ht hW => ⟨⟨_, (), rfl, rfl, by rw [ht]; exact hP9, va_K.moved hW.alike hK, hD9⟩, hS.F ht⟩) hS.2.2 dX1_add_18
  rw [hHe, hLe] at key
  exact key
set_option maxHeartbeats 4000000 in
set_option maxRecDepth 100000 in
theorem tX1_wrongUnder (l : Launch) (dC : Nat → ClassId) (dI : Nat → Nat → Nat) (h0 h1 h2 : Nat) (k1 k2 : ClassId) (N : Nat) (a1 : Int32) (v0_amount : Int32) (c1 : Nat → Int32) (c2 : Nat → Int32) (ru : Int32) (hm : fX1_wrongUnder N a1 v0_amount c1 c2 = some ru) : Met l yX1_wrongUnder wsX1_wrongUnder ({ frames := 0, cells := 0, slots := 0, locals := 0 } : Room) (va_Pc [.ref h0, .int a1] (fun U => va_P (dC, dI) vwCl [(h0, .inr (1, [.ref h1, .ref h2, .int v0_amount])), (h1, .inl (k1, 30, .inl c1)), (h2, .inl (k2, 30, .inl c2))] U.heap ∧ va_K (dC, dI) vwCl [(k1, .int), (k2, .boolean)] U)) (vp_Si (fun r => r = ru)) 0 0 (fun _ => False) := by
  refine Met.ofW (cc := cX1_wrongUnder) (maxL := 5) (ret := (some .int)) (by decide) rfl ?_
  intro p e s m args below meth c s₁ B hml hv
  obtain ⟨rfl, hP, hK⟩ := hv
  have hx := B.exec
  have hb := B.bytes
  have hr := B.returns
  have hts := atoms_spec (ws := wsX1_wrongUnder) B.pre
  have hown : s.vm.findClass RX1 = some m.cls := findClass_of_methodNamed B.named
  have hlocks := B.notSynchronized
  have hinX1 : ∀ w ∈ wsX10, w ∈ wsX1_wrongUnder := by decide +kernel
  have hl := lv_entry ([.ref h0, .int a1]) (n := 5) (Nat.le_of_ble_eq_true rfl)
  rw [lg_entry_eq]
  generalize (lg_sl ([.ref h0, .int a1]) ++ List.replicate (5 - (lg_sl ([.ref h0, .int a1])).length) Slot.unset).toArray = ls at hl ⊢
  have hl : lv_has ls 5 [(0, .ref h0), (1, .int a1)] := hl
  have hrun := hm
  rw [fX1_wrongUnder] at hrun
  refine lv_iconst (v := (0 : Int32)) hx hb dX1_wrongUnder_0 (by decide) ?_
  refine lv_istore_n (lv' := [(2, .int (0 : Int32)), (0, .ref h0), (1, .int a1)]) hx hb dX1_wrongUnder_1 rfl hl (by decide) rfl (fun ls hl => ?_)
  refine lv_iconst (v := (0 : Int32)) hx hb dX1_wrongUnder_2 (by decide) ?_
  refine lv_istore_n (lv' := [(3, .int (0 : Int32)), (2, .int (0 : Int32)), (0, .ref h0), (1, .int a1)]) hx hb dX1_wrongUnder_3 rfl hl (by decide) rfl (fun ls hl => ?_)
  obtain ⟨k67, ek67, hrun⟩ := jn_e hrun
  have J67 : ∀ (x2_67 : Int32) (ls : Array Slot), k67 x2_67 = some ru → lv_has ls 5 [(2, .int x2_67)] → W p l e (headSpec wsX1_wrongUnder ({ frames := 0, cells := 0, slots := 0, locals := 0 } : Room)).room s m ([.ref h0, .int a1] : List Value).toArray below meth c s.heap [] 0 0 (MQ below (vp_Si (fun r => r = ru)) ([.ref h0, .int a1] : List Value).toArray s 0 0 (fun _ => False)) (F0 m 67 ls []) := by
    intro x2_67 ls hrun hl
    rw [ek67] at hrun
    refine lv_iload_n hx hb dX1_wrongUnder_67 rfl (lv_at hl 0 rfl) ?_
    exact W.iret hx hb hr (fun t ht _ => ⟨_, rfl, Option.some.inj hrun, ht⟩) (fun _ h => by cases h) dX1_wrongUnder_68
  have L4 : ∀ (n : Nat) (x2_4 : Int32) (x3_4 : Int32) (ls : Array Slot), fX1_wrongUnder_p4 N a1 v0_amount c1 c2 k67 n x2_4 x3_4 = some ru → lv_has ls 5 [(0, .ref h0), (1, .int a1), (2, .int x2_4), (3, .int x3_4)] → W p l e (headSpec wsX1_wrongUnder ({ frames := 0, cells := 0, slots := 0, locals := 0 } : Room)).room s m ([.ref h0, .int a1] : List Value).toArray below meth c s.heap [] 0 0 (MQ below (vp_Si (fun r => r = ru)) ([.ref h0, .int a1] : List Value).toArray s 0 0 (fun _ => False)) (F0 m 4 ls []) := by
    intro n
    induction n with
    | zero => intro x2_4 x3_4 ls hrun; rw [fX1_wrongUnder_p4] at hrun; exact on_e hrun
    | succ n ih =>
      intro x2_4 x3_4 ls hrun hl
      rw [fX1_wrongUnder_p4] at hrun
      refine lv_iload_n hx hb dX1_wrongUnder_4 rfl (lv_at hl 3 rfl) ?_
      refine lv_aload_n hx hb dX1_wrongUnder_5 rfl (lv_at hl 0 rfl) ?_
      refine va_get (D := (dC, dI)) (ci := 1) (v := .int v0_amount) (C := RX1) (T := TX1) (N := 3) hx hb hts hinX1 hown hK hP 0 rfl rfl 2 (by decide) (hts (.fieldLink RX1 19 "WasItOut$Cases" "amount" "I") (by decide +kernel)) (fun _ h9 => h9) rfl dX1_wrongUnder_6 ?_
      refine lv_icmp_ge (tgt := 67) hx hb dX1_wrongUnder_9 (by decide) (fun cc => ?_) (fun cc => ?_)
      · have hrun := oi_t hrun cc
        exact J67 x2_4 ls hrun (lv_sub hl [2] rfl)
      · have hrun := oi_f hrun cc
        refine lv_iload_n hx hb dX1_wrongUnder_12 rfl (lv_at hl 3 rfl) ?_
        refine lv_bipush (v := (30 : Int32)) hx hb dX1_wrongUnder_13 (by decide) ?_
        refine lv_icmp_ge (tgt := 67) hx hb dX1_wrongUnder_15 (by decide) (fun cc => ?_) (fun cc => ?_)
        · have hrun := oi_t hrun cc
          exact J67 x2_4 ls hrun (lv_sub hl [2] rfl)
        · have hrun := oi_f hrun cc
          refine lv_aload_n hx hb dX1_wrongUnder_18 rfl (lv_at hl 0 rfl) ?_
          refine va_get (D := (dC, dI)) (ci := 1) (v := .ref h2) (C := RX1) (T := TX1) (N := 3) hx hb hts hinX1 hown hK hP 0 rfl rfl 1 (by decide) (hts (.fieldLink RX1 15 "WasItOut$Cases" "trulyOut" "[Z") (by decide +kernel)) (fun _ h9 => h9) rfl dX1_wrongUnder_19 ?_
          refine lv_iload_n hx hb dX1_wrongUnder_22 rfl (lv_at hl 3 rfl) ?_
          obtain ⟨hi, hrun⟩ := oi_x hrun
          refine va_zald hx hb hK hP 2 1 rfl rfl hi dX1_wrongUnder_23 ?_
          obtain ⟨k45, ek45, hrun⟩ := jn_e hrun
          have J45 : ∀ (z0_45 : Int32) (ls : Array Slot), k45 z0_45 = some ru → lv_has ls 5 [(0, .ref h0), (1, .int a1), (2, .int x2_4), (3, .int x3_4)] → W p l e (headSpec wsX1_wrongUnder ({ frames := 0, cells := 0, slots := 0, locals := 0 } : Room)).room s m ([.ref h0, .int a1] : List Value).toArray below meth c s.heap [] 0 0 (MQ below (vp_Si (fun r => r = ru)) ([.ref h0, .int a1] : List Value).toArray s 0 0 (fun _ => False)) (F0 m 45 ls [.int z0_45]) := by
            intro z0_45 ls hrun hl
            rw [ek45] at hrun
            refine lv_istore (lv' := [(4, .int z0_45), (0, .ref h0), (1, .int a1), (2, .int x2_4), (3, .int x3_4)]) hx hb dX1_wrongUnder_45 hl (by decide) rfl (fun ls hl => ?_)
            refine lv_iload_n hx hb dX1_wrongUnder_47 rfl (lv_at hl 3 rfl) ?_
            refine lv_iload hx hb dX1_wrongUnder_48 (lv_at hl 0 rfl) ?_
            refine lv_iload_n hx hb dX1_wrongUnder_50 rfl (lv_at hl 2 rfl) ?_
            obtain ⟨k59, ek59, hrun⟩ := jn_e hrun
            have J59 : ∀ (z0_59 : Int32) (ls : Array Slot), k59 z0_59 = some ru → lv_has ls 5 [(0, .ref h0), (1, .int a1), (3, .int x3_4)] → W p l e (headSpec wsX1_wrongUnder ({ frames := 0, cells := 0, slots := 0, locals := 0 } : Room)).room s m ([.ref h0, .int a1] : List Value).toArray below meth c s.heap [] 0 0 (MQ below (vp_Si (fun r => r = ru)) ([.ref h0, .int a1] : List Value).toArray s 0 0 (fun _ => False)) (F0 m 59 ls [.int z0_59, .int x2_4]) := by
              intro z0_59 ls hrun hl
              rw [ek59] at hrun
              refine lv_iadd hx hb dX1_wrongUnder_59 ?_
              refine lv_istore_n (lv' := [(2, .int (x2_4 + z0_59)), (0, .ref h0), (1, .int a1), (3, .int x3_4)]) hx hb dX1_wrongUnder_60 rfl hl (by decide) rfl (fun ls hl => ?_)
              refine lv_iinc (v := (x3_4 + (1 : Int32))) (lv' := [(3, .int (x3_4 + (1 : Int32))), (2, .int (x2_4 + z0_59)), (0, .ref h0), (1, .int a1)]) hx hb dX1_wrongUnder_61 hl (k := 3) rfl rfl (by decide) rfl (fun ls hl => ?_)
              refine lv_goto (tgt := 4) hx hb dX1_wrongUnder_64 (by decide) ?_
              exact ih ((x2_4 + z0_59)) ((x3_4 + (1 : Int32))) ls hrun (lv_sub hl [2, 3, 1, 0] rfl)
            refine lv_icmp_lt (tgt := 58) hx hb dX1_wrongUnder_51 (by decide) (fun cc => ?_) (fun cc => ?_)
            · have hrun := oi_t hrun cc
              refine lv_iconst (v := (0 : Int32)) hx hb dX1_wrongUnder_58 (by decide) ?_
              exact J59 ((0 : Int32)) ls hrun (lv_sub hl [1, 2, 4] rfl)
            · have hrun := oi_f hrun cc
              refine lv_iconst (v := (1 : Int32)) hx hb dX1_wrongUnder_54 (by decide) ?_
              refine lv_goto (tgt := 59) hx hb dX1_wrongUnder_55 (by decide) ?_
              exact J59 ((1 : Int32)) ls hrun (lv_sub hl [1, 2, 4] rfl)
          refine lv_if_eq (tgt := 39) hx hb dX1_wrongUnder_24 (by decide) (fun cc => ?_) (fun cc => ?_)
          · have hrun := oi_t hrun cc
            refine lv_aload_n hx hb dX1_wrongUnder_39 rfl (lv_at hl 0 rfl) ?_
            refine va_get (D := (dC, dI)) (ci := 1) (v := .ref h1) (C := RX1) (T := TX1) (N := 3) hx hb hts hinX1 hown hK hP 0 rfl rfl 0 (by decide) (hts (.fieldLink RX1 11 "WasItOut$Cases" "outs" "[I") (by decide +kernel)) (fun _ h9 => h9) rfl dX1_wrongUnder_40 ?_
            refine lv_iload_n hx hb dX1_wrongUnder_43 rfl (lv_at hl 3 rfl) ?_
            obtain ⟨hi, hrun⟩ := oi_x hrun
            refine va_iald hx hb hK hP 1 0 rfl rfl hi dX1_wrongUnder_44 ?_
            exact J45 ((c1 x3_4.toNatClampNeg)) ls hrun hl
          · have hrun := oi_f hrun cc
            refine lv_bipush (v := (100 : Int32)) hx hb dX1_wrongUnder_27 (by decide) ?_
            refine lv_aload_n hx hb dX1_wrongUnder_29 rfl (lv_at hl 0 rfl) ?_
            refine va_get (D := (dC, dI)) (ci := 1) (v := .ref h1) (C := RX1) (T := TX1) (N := 3) hx hb hts hinX1 hown hK hP 0 rfl rfl 0 (by decide) (hts (.fieldLink RX1 11 "WasItOut$Cases" "outs" "[I") (by decide +kernel)) (fun _ h9 => h9) rfl dX1_wrongUnder_30 ?_
            refine lv_iload_n hx hb dX1_wrongUnder_33 rfl (lv_at hl 3 rfl) ?_
            obtain ⟨hi, hrun⟩ := oi_x hrun
            refine va_iald hx hb hK hP 1 0 rfl rfl hi dX1_wrongUnder_34 ?_
            refine lv_isub hx hb dX1_wrongUnder_35 ?_
            refine lv_goto (tgt := 45) hx hb dX1_wrongUnder_36 (by decide) ?_
            exact J45 (((100 : Int32) - (c1 x3_4.toNatClampNeg))) ls hrun hl
  exact L4 N ((0 : Int32)) ((0 : Int32)) ls hrun (lv_sub hl [2, 3, 1, 0] rfl)
set_option maxHeartbeats 4000000 in
set_option maxRecDepth 100000 in
theorem tX1_untoldUnder (l : Launch) (dC : Nat → ClassId) (dI : Nat → Nat → Nat) (h0 h1 : Nat) (k1 : ClassId) (g0_trulyOut : Value) (N : Nat) (a1 : Int32) (v0_amount : Int32) (c1 : Nat → Int32) (ru : Int32) (hm : fX1_untoldUnder N a1 v0_amount c1 = some ru) : Met l yX1_untoldUnder wsX1_untoldUnder ({ frames := 0, cells := 0, slots := 0, locals := 0 } : Room) (va_Pc [.ref h0, .int a1] (fun U => va_P (dC, dI) vwCl [(h0, .inr (1, [.ref h1, g0_trulyOut, .int v0_amount])), (h1, .inl (k1, 30, .inl c1))] U.heap ∧ va_K (dC, dI) vwCl [(k1, .int)] U)) (vp_Si (fun r => r = ru)) 0 0 (fun _ => False) := by
  refine Met.ofW (cc := cX1_untoldUnder) (maxL := 4) (ret := (some .int)) (by decide) rfl ?_
  intro p e s m args below meth c s₁ B hml hv
  obtain ⟨rfl, hP, hK⟩ := hv
  have hx := B.exec
  have hb := B.bytes
  have hr := B.returns
  have hts := atoms_spec (ws := wsX1_untoldUnder) B.pre
  have hown : s.vm.findClass RX1 = some m.cls := findClass_of_methodNamed B.named
  have hlocks := B.notSynchronized
  have hinX1 : ∀ w ∈ wsX10, w ∈ wsX1_untoldUnder := by decide +kernel
  have hl := lv_entry ([.ref h0, .int a1]) (n := 4) (Nat.le_of_ble_eq_true rfl)
  rw [lg_entry_eq]
  generalize (lg_sl ([.ref h0, .int a1]) ++ List.replicate (4 - (lg_sl ([.ref h0, .int a1])).length) Slot.unset).toArray = ls at hl ⊢
  have hl : lv_has ls 4 [(0, .ref h0), (1, .int a1)] := hl
  have hrun := hm
  rw [fX1_untoldUnder] at hrun
  refine lv_iconst (v := (0 : Int32)) hx hb dX1_untoldUnder_0 (by decide) ?_
  refine lv_istore_n (lv' := [(2, .int (0 : Int32)), (0, .ref h0), (1, .int a1)]) hx hb dX1_untoldUnder_1 rfl hl (by decide) rfl (fun ls hl => ?_)
  refine lv_iconst (v := (0 : Int32)) hx hb dX1_untoldUnder_2 (by decide) ?_
  refine lv_istore_n (lv' := [(3, .int (0 : Int32)), (2, .int (0 : Int32)), (0, .ref h0), (1, .int a1)]) hx hb dX1_untoldUnder_3 rfl hl (by decide) rfl (fun ls hl => ?_)
  obtain ⟨k55, ek55, hrun⟩ := jn_e hrun
  have J55 : ∀ (x2_55 : Int32) (ls : Array Slot), k55 x2_55 = some ru → lv_has ls 4 [(2, .int x2_55)] → W p l e (headSpec wsX1_untoldUnder ({ frames := 0, cells := 0, slots := 0, locals := 0 } : Room)).room s m ([.ref h0, .int a1] : List Value).toArray below meth c s.heap [] 0 0 (MQ below (vp_Si (fun r => r = ru)) ([.ref h0, .int a1] : List Value).toArray s 0 0 (fun _ => False)) (F0 m 55 ls []) := by
    intro x2_55 ls hrun hl
    rw [ek55] at hrun
    refine lv_iload_n hx hb dX1_untoldUnder_55 rfl (lv_at hl 0 rfl) ?_
    exact W.iret hx hb hr (fun t ht _ => ⟨_, rfl, Option.some.inj hrun, ht⟩) (fun _ h => by cases h) dX1_untoldUnder_56
  have L4 : ∀ (n : Nat) (x2_4 : Int32) (x3_4 : Int32) (ls : Array Slot), fX1_untoldUnder_p4 N a1 v0_amount c1 k55 n x2_4 x3_4 = some ru → lv_has ls 4 [(0, .ref h0), (1, .int a1), (2, .int x2_4), (3, .int x3_4)] → W p l e (headSpec wsX1_untoldUnder ({ frames := 0, cells := 0, slots := 0, locals := 0 } : Room)).room s m ([.ref h0, .int a1] : List Value).toArray below meth c s.heap [] 0 0 (MQ below (vp_Si (fun r => r = ru)) ([.ref h0, .int a1] : List Value).toArray s 0 0 (fun _ => False)) (F0 m 4 ls []) := by
    intro n
    induction n with
    | zero => intro x2_4 x3_4 ls hrun; rw [fX1_untoldUnder_p4] at hrun; exact on_e hrun
    | succ n ih =>
      intro x2_4 x3_4 ls hrun hl
      rw [fX1_untoldUnder_p4] at hrun
      refine lv_iload_n hx hb dX1_untoldUnder_4 rfl (lv_at hl 3 rfl) ?_
      refine lv_aload_n hx hb dX1_untoldUnder_5 rfl (lv_at hl 0 rfl) ?_
      refine va_get (D := (dC, dI)) (ci := 1) (v := .int v0_amount) (C := RX1) (T := TX1) (N := 3) hx hb hts hinX1 hown hK hP 0 rfl rfl 2 (by decide) (hts (.fieldLink RX1 19 "WasItOut$Cases" "amount" "I") (by decide +kernel)) (fun _ h9 => h9) rfl dX1_untoldUnder_6 ?_
      refine lv_icmp_ge (tgt := 55) hx hb dX1_untoldUnder_9 (by decide) (fun cc => ?_) (fun cc => ?_)
      · have hrun := oi_t hrun cc
        exact J55 x2_4 ls hrun (lv_sub hl [2] rfl)
      · have hrun := oi_f hrun cc
        refine lv_iload_n hx hb dX1_untoldUnder_12 rfl (lv_at hl 3 rfl) ?_
        refine lv_bipush (v := (30 : Int32)) hx hb dX1_untoldUnder_13 (by decide) ?_
        refine lv_icmp_ge (tgt := 55) hx hb dX1_untoldUnder_15 (by decide) (fun cc => ?_) (fun cc => ?_)
        · have hrun := oi_t hrun cc
          exact J55 x2_4 ls hrun (lv_sub hl [2] rfl)
        · have hrun := oi_f hrun cc
          refine lv_iload_n hx hb dX1_untoldUnder_18 rfl (lv_at hl 2 rfl) ?_
          refine lv_aload_n hx hb dX1_untoldUnder_19 rfl (lv_at hl 0 rfl) ?_
          refine va_get (D := (dC, dI)) (ci := 1) (v := .ref h1) (C := RX1) (T := TX1) (N := 3) hx hb hts hinX1 hown hK hP 0 rfl rfl 0 (by decide) (hts (.fieldLink RX1 11 "WasItOut$Cases" "outs" "[I") (by decide +kernel)) (fun _ h9 => h9) rfl dX1_untoldUnder_20 ?_
          refine lv_iload_n hx hb dX1_untoldUnder_23 rfl (lv_at hl 3 rfl) ?_
          obtain ⟨hi, hrun⟩ := oi_x hrun
          refine va_iald hx hb hK hP 1 0 rfl rfl hi dX1_untoldUnder_24 ?_
          refine lv_iload_n hx hb dX1_untoldUnder_25 rfl (lv_at hl 1 rfl) ?_
          obtain ⟨k47, ek47, hrun⟩ := jn_e hrun
          have J47 : ∀ (z0_47 : Int32) (ls : Array Slot), k47 z0_47 = some ru → lv_has ls 4 [(0, .ref h0), (1, .int a1), (3, .int x3_4)] → W p l e (headSpec wsX1_untoldUnder ({ frames := 0, cells := 0, slots := 0, locals := 0 } : Room)).room s m ([.ref h0, .int a1] : List Value).toArray below meth c s.heap [] 0 0 (MQ below (vp_Si (fun r => r = ru)) ([.ref h0, .int a1] : List Value).toArray s 0 0 (fun _ => False)) (F0 m 47 ls [.int z0_47, .int x2_4]) := by
            intro z0_47 ls hrun hl
            rw [ek47] at hrun
            refine lv_iadd hx hb dX1_untoldUnder_47 ?_
            refine lv_istore_n (lv' := [(2, .int (x2_4 + z0_47)), (0, .ref h0), (1, .int a1), (3, .int x3_4)]) hx hb dX1_untoldUnder_48 rfl hl (by decide) rfl (fun ls hl => ?_)
            refine lv_iinc (v := (x3_4 + (1 : Int32))) (lv' := [(3, .int (x3_4 + (1 : Int32))), (2, .int (x2_4 + z0_47)), (0, .ref h0), (1, .int a1)]) hx hb dX1_untoldUnder_49 hl (k := 3) rfl rfl (by decide) rfl (fun ls hl => ?_)
            refine lv_goto (tgt := 4) hx hb dX1_untoldUnder_52 (by decide) ?_
            exact ih ((x2_4 + z0_47)) ((x3_4 + (1 : Int32))) ls hrun (lv_sub hl [2, 3, 1, 0] rfl)
          obtain ⟨k46, ek46, hrun⟩ := jn_e hrun
          have J46 : ∀ (u_46 : Unit) (ls : Array Slot), k46 u_46 = some ru → lv_has ls 4 [(0, .ref h0), (1, .int a1), (3, .int x3_4)] → W p l e (headSpec wsX1_untoldUnder ({ frames := 0, cells := 0, slots := 0, locals := 0 } : Room)).room s m ([.ref h0, .int a1] : List Value).toArray below meth c s.heap [] 0 0 (MQ below (vp_Si (fun r => r = ru)) ([.ref h0, .int a1] : List Value).toArray s 0 0 (fun _ => False)) (F0 m 46 ls [.int x2_4]) := by
            intro u_46 ls hrun hl
            rw [ek46] at hrun
            refine lv_iconst (v := (0 : Int32)) hx hb dX1_untoldUnder_46 (by decide) ?_
            exact J47 ((0 : Int32)) ls hrun hl
          refine lv_icmp_ge (tgt := 46) hx hb dX1_untoldUnder_26 (by decide) (fun cc => ?_) (fun cc => ?_)
          · have hrun := oi_t hrun cc
            exact J46 (()) ls hrun (lv_sub hl [0, 1, 3] rfl)
          · have hrun := oi_f hrun cc
            refine lv_bipush (v := (100 : Int32)) hx hb dX1_untoldUnder_29 (by decide) ?_
            refine lv_aload_n hx hb dX1_untoldUnder_31 rfl (lv_at hl 0 rfl) ?_
            refine va_get (D := (dC, dI)) (ci := 1) (v := .ref h1) (C := RX1) (T := TX1) (N := 3) hx hb hts hinX1 hown hK hP 0 rfl rfl 0 (by decide) (hts (.fieldLink RX1 11 "WasItOut$Cases" "outs" "[I") (by decide +kernel)) (fun _ h9 => h9) rfl dX1_untoldUnder_32 ?_
            refine lv_iload_n hx hb dX1_untoldUnder_35 rfl (lv_at hl 3 rfl) ?_
            obtain ⟨hi, hrun⟩ := oi_x hrun
            refine va_iald hx hb hK hP 1 0 rfl rfl hi dX1_untoldUnder_36 ?_
            refine lv_isub hx hb dX1_untoldUnder_37 ?_
            refine lv_iload_n hx hb dX1_untoldUnder_38 rfl (lv_at hl 1 rfl) ?_
            refine lv_icmp_ge (tgt := 46) hx hb dX1_untoldUnder_39 (by decide) (fun cc => ?_) (fun cc => ?_)
            · have hrun := oi_t hrun cc
              exact J46 (()) ls hrun (lv_sub hl [0, 1, 3] rfl)
            · have hrun := oi_f hrun cc
              refine lv_iconst (v := (1 : Int32)) hx hb dX1_untoldUnder_42 (by decide) ?_
              refine lv_goto (tgt := 47) hx hb dX1_untoldUnder_43 (by decide) ?_
              exact J47 ((1 : Int32)) ls hrun (lv_sub hl [0, 1, 3] rfl)
  exact L4 N ((0 : Int32)) ((0 : Int32)) ls hrun (lv_sub hl [2, 3, 1, 0] rfl)
set_option maxHeartbeats 4000000 in
set_option maxRecDepth 100000 in
theorem tX1_bestRule (l : Launch) (dC : Nat → ClassId) (dI : Nat → Nat → Nat) (h0 h1 h2 : Nat) (k1 k2 : ClassId) (N : Nat)  (v0_amount : Int32) (c1 : Nat → Int32) (c2 : Nat → Int32) (ru : Int32) (hm : fX1_bestRule N v0_amount c1 c2 = some ru) : Met l yX1_bestRule wsX1_bestRule ({ frames := 1, cells := 0, slots := 0, locals := 24 } : Room) (va_Pc [.ref h0] (fun U => va_P (dC, dI) vwCl [(h0, .inr (1, [.ref h1, .ref h2, .int v0_amount])), (h1, .inl (k1, 30, .inl c1)), (h2, .inl (k2, 30, .inl c2))] U.heap ∧ va_K (dC, dI) vwCl [(k1, .int), (k2, .boolean)] U)) (vp_Si (fun r => r = ru)) 0 0 (fun _ => False) := by
  refine Met.ofW (cc := cX1_bestRule) (maxL := 7) (ret := (some .int)) (by decide) rfl ?_
  intro p e s m args below meth c s₁ B hml hv
  obtain ⟨rfl, hP, hK⟩ := hv
  have hx := B.exec
  have hb := B.bytes
  have hr := B.returns
  have hts := atoms_spec (ws := wsX1_bestRule) B.pre
  have hown : s.vm.findClass RX1 = some m.cls := findClass_of_methodNamed B.named
  have hlocks := B.notSynchronized
  have hl := lv_entry ([.ref h0]) (n := 7) (Nat.le_of_ble_eq_true rfl)
  rw [lg_entry_eq]
  generalize (lg_sl ([.ref h0]) ++ List.replicate (7 - (lg_sl ([.ref h0])).length) Slot.unset).toArray = ls at hl ⊢
  have hl : lv_has ls 7 [(0, .ref h0)] := hl
  have hrun := hm
  rw [fX1_bestRule] at hrun
  refine lv_bipush (v := (51 : Int32)) hx hb dX1_bestRule_0 (by decide) ?_
  refine lv_istore_n (lv' := [(1, .int (51 : Int32)), (0, .ref h0)]) hx hb dX1_bestRule_2 rfl hl (by decide) rfl (fun ls hl => ?_)
  refine lv_bipush (v := (31 : Int32)) hx hb dX1_bestRule_3 (by decide) ?_
  refine lv_istore_n (lv' := [(2, .int (31 : Int32)), (1, .int (51 : Int32)), (0, .ref h0)]) hx hb dX1_bestRule_5 rfl hl (by decide) rfl (fun ls hl => ?_)
  refine lv_bipush (v := (31 : Int32)) hx hb dX1_bestRule_6 (by decide) ?_
  refine lv_istore_n (lv' := [(3, .int (31 : Int32)), (2, .int (31 : Int32)), (1, .int (51 : Int32)), (0, .ref h0)]) hx hb dX1_bestRule_8 rfl hl (by decide) rfl (fun ls hl => ?_)
  refine lv_bipush (v := (51 : Int32)) hx hb dX1_bestRule_9 (by decide) ?_
  refine lv_istore (lv' := [(4, .int (51 : Int32)), (3, .int (31 : Int32)), (2, .int (31 : Int32)), (1, .int (51 : Int32)), (0, .ref h0)]) hx hb dX1_bestRule_11 hl (by decide) rfl (fun ls hl => ?_)
  obtain ⟨k69, ek69, hrun⟩ := jn_e hrun
  have J69 : ∀ (x1_69 : Int32) (ls : Array Slot), k69 x1_69 = some ru → lv_has ls 7 [(1, .int x1_69)] → W p l e (headSpec wsX1_bestRule ({ frames := 1, cells := 0, slots := 0, locals := 24 } : Room)).room s m ([.ref h0] : List Value).toArray below meth c s.heap [] 0 0 (MQ below (vp_Si (fun r => r = ru)) ([.ref h0] : List Value).toArray s 0 0 (fun _ => False)) (F0 m 69 ls []) := by
    intro x1_69 ls hrun hl
    rw [ek69] at hrun
    refine lv_iload_n hx hb dX1_bestRule_69 rfl (lv_at hl 0 rfl) ?_
    exact W.iret hx hb hr (fun t ht _ => ⟨_, rfl, Option.some.inj hrun, ht⟩) (fun _ h => by cases h) dX1_bestRule_70
  have L13 : ∀ (n : Nat) (x1_13 : Int32) (x2_13 : Int32) (x3_13 : Int32) (x4_13 : Int32) (ls : Array Slot), fX1_bestRule_p13 N v0_amount c1 c2 k69 n x1_13 x2_13 x3_13 x4_13 = some ru → lv_has ls 7 [(0, .ref h0), (1, .int x1_13), (2, .int x2_13), (3, .int x3_13), (4, .int x4_13)] → W p l e (headSpec wsX1_bestRule ({ frames := 1, cells := 0, slots := 0, locals := 24 } : Room)).room s m ([.ref h0] : List Value).toArray below meth c s.heap [] 0 0 (MQ below (vp_Si (fun r => r = ru)) ([.ref h0] : List Value).toArray s 0 0 (fun _ => False)) (F0 m 13 ls []) := by
    intro n
    induction n with
    | zero => intro x1_13 x2_13 x3_13 x4_13 ls hrun; rw [fX1_bestRule_p13] at hrun; exact on_e hrun
    | succ n ih =>
      intro x1_13 x2_13 x3_13 x4_13 ls hrun hl
      rw [fX1_bestRule_p13] at hrun
      refine lv_iload hx hb dX1_bestRule_13 (lv_at hl 4 rfl) ?_
      refine lv_bipush (v := (100 : Int32)) hx hb dX1_bestRule_15 (by decide) ?_
      refine lv_icmp_gt (tgt := 69) hx hb dX1_bestRule_17 (by decide) (fun cc => ?_) (fun cc => ?_)
      · have hrun := oi_t hrun cc
        exact J69 x1_13 ls hrun (lv_sub hl [1] rfl)
      · have hrun := oi_f hrun cc
        refine lv_aload_n hx hb dX1_bestRule_20 rfl (lv_at hl 0 rfl) ?_
        refine lv_iload hx hb dX1_bestRule_21 (lv_at hl 4 rfl) ?_
        obtain ⟨q23, hc23, hrun⟩ := ob_e hrun
        refine wz_csi (va_runV (As := [.int x4_13]) (rest := []) ⟨hx, hb, hml, hown, hts⟩ (tX1_wrongUnder l dC dI h0 h1 h2 k1 k2 N x4_13 v0_amount c1 c2 q23 hc23) (cwV 1 hts gX1_bestRule_X1_wrongUnder rfl rfl rfl (by decide +kernel) ⟨Nat.le_of_ble_eq_true rfl, Nat.le_of_ble_eq_true rfl⟩) (wz_pVr (hP.sub (ws' := [(h0, .inr (1, [.ref h1, .ref h2, .int v0_amount])), (h1, .inl (k1, 30, .inl c1)), (h2, .inl (k2, 30, .inl c2))]) [0, 1, 2] rfl) (hK.sub (tys' := [(k1, .int), (k2, .boolean)]) [0, 1] rfl) (va_recv hK hP (ci := 1) (q0 := 0) rfl rfl)) rfl rfl hl.1 rfl (lv_room (Nat.le_of_ble_eq_true rfl)) dX1_bestRule_23 ⟨Nat.zero_le _, Nat.zero_le _⟩) ?_
        refine lv_istore (lv' := [(5, .int q23), (0, .ref h0), (1, .int x1_13), (2, .int x2_13), (3, .int x3_13), (4, .int x4_13)]) hx hb dX1_bestRule_26 hl (by decide) rfl (fun ls hl => ?_)
        refine lv_aload_n hx hb dX1_bestRule_28 rfl (lv_at hl 1 rfl) ?_
        refine lv_iload hx hb dX1_bestRule_29 (lv_at hl 5 rfl) ?_
        obtain ⟨q31, hc31, hrun⟩ := ob_e hrun
        refine wz_csi (va_runV (As := [.int x4_13]) (rest := []) ⟨hx, hb, hml, hown, hts⟩ (tX1_untoldUnder l dC dI h0 h1 k1 (.ref h2) N x4_13 v0_amount c1 q31 hc31) (cwV 1 hts gX1_bestRule_X1_untoldUnder rfl rfl rfl (by decide +kernel) ⟨Nat.le_of_ble_eq_true rfl, Nat.le_of_ble_eq_true rfl⟩) (wz_pVr (hP.sub (ws' := [(h0, .inr (1, [.ref h1, .ref h2, .int v0_amount])), (h1, .inl (k1, 30, .inl c1))]) [0, 1] rfl) (hK.sub (tys' := [(k1, .int)]) [0] rfl) (va_recv hK hP (ci := 1) (q0 := 0) rfl rfl)) rfl rfl hl.1 rfl (lv_room (Nat.le_of_ble_eq_true rfl)) dX1_bestRule_31 ⟨Nat.zero_le _, Nat.zero_le _⟩) ?_
        refine lv_istore (lv' := [(6, .int q31), (5, .int q23), (0, .ref h0), (1, .int x1_13), (2, .int x2_13), (3, .int x3_13), (4, .int x4_13)]) hx hb dX1_bestRule_34 hl (by decide) rfl (fun ls hl => ?_)
        refine lv_iload hx hb dX1_bestRule_36 (lv_at hl 1 rfl) ?_
        refine lv_iload_n hx hb dX1_bestRule_38 rfl (lv_at hl 4 rfl) ?_
        obtain ⟨k63, ek63, hrun⟩ := jn_e hrun
        have J63 : ∀ (x1_63 : Int32) (x2_63 : Int32) (x3_63 : Int32) (ls : Array Slot), k63 x1_63 x2_63 x3_63 = some ru → lv_has ls 7 [(0, .ref h0), (1, .int x1_63), (2, .int x2_63), (3, .int x3_63), (4, .int x4_13)] → W p l e (headSpec wsX1_bestRule ({ frames := 1, cells := 0, slots := 0, locals := 24 } : Room)).room s m ([.ref h0] : List Value).toArray below meth c s.heap [] 0 0 (MQ below (vp_Si (fun r => r = ru)) ([.ref h0] : List Value).toArray s 0 0 (fun _ => False)) (F0 m 63 ls []) := by
          intro x1_63 x2_63 x3_63 ls hrun hl
          rw [ek63] at hrun
          refine lv_iinc (v := (x4_13 + (1 : Int32))) (lv' := [(4, .int (x4_13 + (1 : Int32))), (0, .ref h0), (1, .int x1_63), (2, .int x2_63), (3, .int x3_63)]) hx hb dX1_bestRule_63 hl (k := 4) rfl rfl (by decide) rfl (fun ls hl => ?_)
          refine lv_goto (tgt := 13) hx hb dX1_bestRule_66 (by decide) ?_
          exact ih x1_63 x2_63 x3_63 ((x4_13 + (1 : Int32))) ls hrun (lv_sub hl [1, 2, 3, 4, 0] rfl)
        obtain ⟨k54, ek54, hrun⟩ := jn_e hrun
        have J54 : ∀ (u_54 : Unit) (ls : Array Slot), k54 u_54 = some ru → lv_has ls 7 [(0, .ref h0), (4, .int x4_13), (5, .int q23), (6, .int q31)] → W p l e (headSpec wsX1_bestRule ({ frames := 1, cells := 0, slots := 0, locals := 24 } : Room)).room s m ([.ref h0] : List Value).toArray below meth c s.heap [] 0 0 (MQ below (vp_Si (fun r => r = ru)) ([.ref h0] : List Value).toArray s 0 0 (fun _ => False)) (F0 m 54 ls []) := by
          intro u_54 ls hrun hl
          rw [ek54] at hrun
          refine lv_iload hx hb dX1_bestRule_54 (lv_at hl 1 rfl) ?_
          refine lv_istore_n (lv' := [(1, .int x4_13), (0, .ref h0), (4, .int x4_13), (5, .int q23), (6, .int q31)]) hx hb dX1_bestRule_56 rfl hl (by decide) rfl (fun ls hl => ?_)
          refine lv_iload hx hb dX1_bestRule_57 (lv_at hl 3 rfl) ?_
          refine lv_istore_n (lv' := [(2, .int q23), (1, .int x4_13), (0, .ref h0), (4, .int x4_13), (5, .int q23), (6, .int q31)]) hx hb dX1_bestRule_59 rfl hl (by decide) rfl (fun ls hl => ?_)
          refine lv_iload hx hb dX1_bestRule_60 (lv_at hl 5 rfl) ?_
          refine lv_istore_n (lv' := [(3, .int q31), (2, .int q23), (1, .int x4_13), (0, .ref h0), (4, .int x4_13), (5, .int q23), (6, .int q31)]) hx hb dX1_bestRule_62 rfl hl (by decide) rfl (fun ls hl => ?_)
          exact J63 x4_13 q23 q31 ls hrun (lv_sub hl [3, 2, 1, 0, 4] rfl)
        refine lv_icmp_lt (tgt := 54) hx hb dX1_bestRule_39 (by decide) (fun cc => ?_) (fun cc => ?_)
        · have hrun := oi_t hrun cc
          exact J54 (()) ls hrun (lv_sub hl [2, 6, 1, 0] rfl)
        · have hrun := oi_f hrun cc
          refine lv_iload hx hb dX1_bestRule_42 (lv_at hl 1 rfl) ?_
          refine lv_iload_n hx hb dX1_bestRule_44 rfl (lv_at hl 4 rfl) ?_
          refine lv_icmp_ne (tgt := 63) hx hb dX1_bestRule_45 (by decide) (fun cc => ?_) (fun cc => ?_)
          · have hrun := oi_t hrun cc
            exact J63 x1_13 x2_13 x3_13 ls hrun (lv_sub hl [2, 3, 4, 5, 6] rfl)
          · have hrun := oi_n hrun cc
            refine lv_iload hx hb dX1_bestRule_48 (lv_at hl 0 rfl) ?_
            refine lv_iload_n hx hb dX1_bestRule_50 rfl (lv_at hl 5 rfl) ?_
            refine lv_icmp_ge (tgt := 63) hx hb dX1_bestRule_51 (by decide) (fun cc => ?_) (fun cc => ?_)
            · have hrun := oi_t hrun cc
              exact J63 x1_13 x2_13 x3_13 ls hrun (lv_sub hl [2, 3, 4, 5, 6] rfl)
            · have hrun := oi_f hrun cc
              exact J54 (()) ls hrun (lv_sub hl [2, 6, 1, 0] rfl)
  exact L13 N ((51 : Int32)) ((31 : Int32)) ((31 : Int32)) ((51 : Int32)) ls hrun (lv_sub hl [4, 3, 2, 1, 0] rfl)
set_option maxHeartbeats 4000000 in
set_option maxRecDepth 100000 in
theorem tX1_size (l : Launch) (dC : Nat → ClassId) (dI : Nat → Nat → Nat) (h0 : Nat) (g0_outs g0_trulyOut : Value) (N : Nat)  (v0_amount : Int32) (ru : Int32) (hm : fX1_size N v0_amount = some ru) : Met l yX1_size wsX1_size ({ frames := 0, cells := 0, slots := 0, locals := 0 } : Room) (va_Pc [.ref h0] (fun U => va_P (dC, dI) vwCl [(h0, .inr (1, [g0_outs, g0_trulyOut, .int v0_amount]))] U.heap ∧ va_K (dC, dI) vwCl [] U)) (vp_Si (fun r => r = ru)) 0 0 (fun _ => False) := by
  refine Met.ofW (cc := cX1_size) (maxL := 1) (ret := (some .int)) (by decide) rfl ?_
  intro p e s m args below meth c s₁ B hml hv
  obtain ⟨rfl, hP, hK⟩ := hv
  have hx := B.exec
  have hb := B.bytes
  have hr := B.returns
  have hts := atoms_spec (ws := wsX1_size) B.pre
  have hown : s.vm.findClass RX1 = some m.cls := findClass_of_methodNamed B.named
  have hlocks := B.notSynchronized
  have hinX1 : ∀ w ∈ wsX10, w ∈ wsX1_size := by decide +kernel
  have hl := lv_entry ([.ref h0]) (n := 1) (Nat.le_of_ble_eq_true rfl)
  rw [lg_entry_eq]
  generalize (lg_sl ([.ref h0]) ++ List.replicate (1 - (lg_sl ([.ref h0])).length) Slot.unset).toArray = ls at hl ⊢
  have hl : lv_has ls 1 [(0, .ref h0)] := hl
  have hrun := hm
  rw [fX1_size] at hrun
  refine lv_aload_n hx hb dX1_size_0 rfl (lv_at hl 0 rfl) ?_
  refine va_get (D := (dC, dI)) (ci := 1) (v := .int v0_amount) (C := RX1) (T := TX1) (N := 3) hx hb hts hinX1 hown hK hP 0 rfl rfl 2 (by decide) (hts (.fieldLink RX1 19 "WasItOut$Cases" "amount" "I") (by decide +kernel)) (fun _ h9 => h9) rfl dX1_size_1 ?_
  exact W.iret hx hb hr (fun t ht _ => ⟨_, rfl, Option.some.inj hrun, ht⟩) (fun _ h => by cases h) dX1_size_4
set_option maxHeartbeats 4000000 in
set_option maxRecDepth 100000 in
theorem tX8_startOf (l : Launch) (dC : Nat → ClassId) (dI : Nat → Nat → Nat) (h0 h1 : Nat) (k1 : ClassId) (g0_rows g0_amount g0_left : Value) (N : Nat) (a1 : Int32) (c1 : Nat → Int32) (ru : Int32) (hm : fX8_startOf N a1 c1 = some ru) : Met l yX8_startOf wsX8_startOf ({ frames := 0, cells := 0, slots := 0, locals := 0 } : Room) (va_Pc [.ref h0, .int a1] (fun U => va_P (dC, dI) vwCl [(h0, .inr (8, [.ref h1, g0_rows, g0_amount, g0_left])), (h1, .inl (k1, 6, .inl c1))] U.heap ∧ va_K (dC, dI) vwCl [(k1, .int)] U)) (vp_Si (fun r => r = ru)) 0 0 (fun _ => False) := by
  refine Met.ofW (cc := cX8_startOf) (maxL := 2) (ret := (some .int)) (by decide) rfl ?_
  intro p e s m args below meth c s₁ B hml hv
  obtain ⟨rfl, hP, hK⟩ := hv
  have hx := B.exec
  have hb := B.bytes
  have hr := B.returns
  have hts := atoms_spec (ws := wsX8_startOf) B.pre
  have hown : s.vm.findClass RX8 = some m.cls := findClass_of_methodNamed B.named
  have hlocks := B.notSynchronized
  have hinX8 : ∀ w ∈ wsX80, w ∈ wsX8_startOf := by decide +kernel
  have hl := lv_entry ([.ref h0, .int a1]) (n := 2) (Nat.le_of_ble_eq_true rfl)
  rw [lg_entry_eq]
  generalize (lg_sl ([.ref h0, .int a1]) ++ List.replicate (2 - (lg_sl ([.ref h0, .int a1])).length) Slot.unset).toArray = ls at hl ⊢
  have hl : lv_has ls 2 [(0, .ref h0), (1, .int a1)] := hl
  have hrun := hm
  rw [fX8_startOf] at hrun
  refine lv_iload_n hx hb dX8_startOf_0 rfl (lv_at hl 1 rfl) ?_
  refine lv_if_lt (tgt := 22) hx hb dX8_startOf_1 (by decide) (fun cc => ?_) (fun cc => ?_)
  · have hrun := oi_t hrun cc
    refine lv_iconst (v := (0 : Int32)) hx hb dX8_startOf_22 (by decide) ?_
    exact W.iret hx hb hr (fun t ht _ => ⟨_, rfl, Option.some.inj hrun, ht⟩) (fun _ h => by cases h) dX8_startOf_23
  · have hrun := oi_f hrun cc
    refine lv_iload_n hx hb dX8_startOf_4 rfl (lv_at hl 1 rfl) ?_
    refine lv_aload_n hx hb dX8_startOf_5 rfl (lv_at hl 0 rfl) ?_
    refine va_get (D := (dC, dI)) (ci := 8) (v := .ref h1) (C := RX8) (T := TX8) (N := 4) hx hb hts hinX8 hown hK hP 0 rfl rfl 0 (by decide) (hts (.fieldLink RX8 9 "WasItOut$World" "start" "[I") (by decide +kernel)) (fun _ h9 => h9) rfl dX8_startOf_6 ?_
    refine va_alen (v := (6 : Int32)) hx hb hK hP 1 0 rfl rfl (by first | rfl | decide) dX8_startOf_9 ?_
    refine lv_icmp_ge (tgt := 22) hx hb dX8_startOf_10 (by decide) (fun cc => ?_) (fun cc => ?_)
    · have hrun := oi_t hrun cc
      refine lv_iconst (v := (0 : Int32)) hx hb dX8_startOf_22 (by decide) ?_
      exact W.iret hx hb hr (fun t ht _ => ⟨_, rfl, Option.some.inj hrun, ht⟩) (fun _ h => by cases h) dX8_startOf_23
    · have hrun := oi_f hrun cc
      refine lv_aload_n hx hb dX8_startOf_13 rfl (lv_at hl 0 rfl) ?_
      refine va_get (D := (dC, dI)) (ci := 8) (v := .ref h1) (C := RX8) (T := TX8) (N := 4) hx hb hts hinX8 hown hK hP 0 rfl rfl 0 (by decide) (hts (.fieldLink RX8 9 "WasItOut$World" "start" "[I") (by decide +kernel)) (fun _ h9 => h9) rfl dX8_startOf_14 ?_
      refine lv_iload_n hx hb dX8_startOf_17 rfl (lv_at hl 1 rfl) ?_
      obtain ⟨hi, hrun⟩ := oi_x hrun
      refine va_iald hx hb hK hP 1 0 rfl rfl hi dX8_startOf_18 ?_
      refine lv_goto (tgt := 23) hx hb dX8_startOf_19 (by decide) ?_
      exact W.iret hx hb hr (fun t ht _ => ⟨_, rfl, Option.some.inj hrun, ht⟩) (fun _ h => by cases h) dX8_startOf_23
set_option maxHeartbeats 4000000 in
set_option maxRecDepth 100000 in
theorem tX4_hear (l : Launch) (dC : Nat → ClassId) (dI : Nat → Nat → Nat) (sz : Nat) (h0 h1 h2 h3 : Nat) (k1 k2 k3 : ClassId) (N : Nat) (a1 : Int32) (a2 : Int32) (a3 : Int32) (v0_amount : Int32) (c1 : Nat → Int32) (c2 : Nat → Int32) (c3 : Nat → Int32) (ru : Int32 × (Int32) × (Nat → Int32) × (Nat → Int32) × (Nat → Int32)) (hm : fX4_hear N a1 a2 a3 v0_amount c1 c2 c3 = some ru) : Met l yX4_hear wsX4_hear ({ frames := 0, cells := 0, slots := 0, locals := 0 } : Room) (va_Pc [.ref h0, .int a1, .int a2, .int a3] (fun U => U.heap.size = sz ∧ va_P (dC, dI) vwCl [(h0, .inr (4, [.ref h1, .ref h3, .ref h2, .int v0_amount])), (h1, .inl (k1, 60, .inl c1)), (h2, .inl (k2, 60, .inl c2)), (h3, .inl (k3, 60, .inl c3))] U.heap ∧ va_K (dC, dI) vwCl [(k1, .int), (k2, .boolean), (k3, .int)] U ∧ va_D (fun _ => True) [(h0, .inr (4, [.ref h1, .ref h3, .ref h2, .int v0_amount])), (h1, .inl (k1, 60, .inl c1)), (h2, .inl (k2, 60, .inl c2)), (h3, .inl (k3, 60, .inl c3))])) (va_Qi (fun r (_ : Unit) => r = ru.1) (fun (_ : Unit) t => va_P (dC, dI) vwCl [(h0, .inr (4, [.ref h1, .ref h3, .ref h2, .int ru.2.1])), (h1, .inl (k1, 60, .inl ru.2.2.1)), (h2, .inl (k2, 60, .inl ru.2.2.2.1)), (h3, .inl (k3, 60, .inl ru.2.2.2.2))] t.heap ∧ va_K (dC, dI) vwCl [(k1, .int), (k2, .boolean), (k3, .int)] t ∧ va_D (va_A [(h0, .inr (4, [.ref h1, .ref h3, .ref h2, .int v0_amount])), (h1, .inl (k1, 60, .inl c1)), (h2, .inl (k2, 60, .inl c2)), (h3, .inl (k3, 60, .inl c3))] sz) [(h0, .inr (4, [.ref h1, .ref h3, .ref h2, .int ru.2.1])), (h1, .inl (k1, 60, .inl ru.2.2.1)), (h2, .inl (k2, 60, .inl ru.2.2.2.1)), (h3, .inl (k3, 60, .inl ru.2.2.2.2))]) (va_A [(h0, .inr (4, [.ref h1, .ref h3, .ref h2, .int v0_amount])), (h1, .inl (k1, 60, .inl c1)), (h2, .inl (k2, 60, .inl c2)), (h3, .inl (k3, 60, .inl c3))] sz)) 0 0 (va_A [(h0, .inr (4, [.ref h1, .ref h3, .ref h2, .int v0_amount])), (h1, .inl (k1, 60, .inl c1)), (h2, .inl (k2, 60, .inl c2)), (h3, .inl (k3, 60, .inl c3))] sz) := by
  refine Met.ofW (cc := cX4_hear) (maxL := 4) (ret := (some .int)) (by decide) rfl ?_
  intro p e s m args below meth c s₁ B hml hv
  obtain ⟨rfl, hsz, hP, hK, hD0⟩ := hv
  have hx := B.exec
  have hb := B.bytes
  have hr := B.returns
  have hts := atoms_spec (ws := wsX4_hear) B.pre
  have hown : s.vm.findClass RX4 = some m.cls := findClass_of_methodNamed B.named
  have hlocks := B.notSynchronized
  subst hsz
  have hD := hD0.self (sz := s.heap.size)
  generalize hAe : va_A [(h0, .inr (4, [.ref h1, .ref h3, .ref h2, .int v0_amount])), (h1, .inl (k1, 60, .inl c1)), (h2, .inl (k2, 60, .inl c2)), (h3, .inl (k3, 60, .inl c3))] s.heap.size = A at hD ⊢
  have hA : ∀ q : Nat, s.heap.size ≤ q → A q := fun q h => by rw [← hAe]; exact Or.inr h
  have hS : va_S A s.heap s.heap [] := va_S.rf
  have hinX4 : ∀ w ∈ wsX40, w ∈ wsX4_hear := by decide +kernel
  have hl := lv_entry ([.ref h0, .int a1, .int a2, .int a3]) (n := 4) (Nat.le_of_ble_eq_true rfl)
  rw [lg_entry_eq]
  generalize (lg_sl ([.ref h0, .int a1, .int a2, .int a3]) ++ List.replicate (4 - (lg_sl ([.ref h0, .int a1, .int a2, .int a3])).length) Slot.unset).toArray = ls at hl ⊢
  have hl : lv_has ls 4 [(0, .ref h0), (1, .int a1), (2, .int a2), (3, .int a3)] := hl
  have hrun := hm
  rw [fX4_hear] at hrun
  obtain ⟨H, hHe⟩ : ∃ H, H = s.heap := ⟨_, rfl⟩
  obtain ⟨locs, hLe⟩ : ∃ locs : List Loc, locs = [] := ⟨_, rfl⟩
  rw [← hHe] at hP
  have hS : va_S A s.heap H locs := by rw [hHe, hLe]; exact hS
  have key : W p l e (headSpec wsX4_hear ({ frames := 0, cells := 0, slots := 0, locals := 0 } : Room)).room s m ([.ref h0, .int a1, .int a2, .int a3] : List Value).toArray below meth c H locs 0 0 (MQ below (va_Qi (fun r (_ : Unit) => r = ru.1) (fun (_ : Unit) t => va_P (dC, dI) vwCl [(h0, .inr (4, [.ref h1, .ref h3, .ref h2, .int ru.2.1])), (h1, .inl (k1, 60, .inl ru.2.2.1)), (h2, .inl (k2, 60, .inl ru.2.2.2.1)), (h3, .inl (k3, 60, .inl ru.2.2.2.2))] t.heap ∧ va_K (dC, dI) vwCl [(k1, .int), (k2, .boolean), (k3, .int)] t ∧ va_D A [(h0, .inr (4, [.ref h1, .ref h3, .ref h2, .int ru.2.1])), (h1, .inl (k1, 60, .inl ru.2.2.1)), (h2, .inl (k2, 60, .inl ru.2.2.2.1)), (h3, .inl (k3, 60, .inl ru.2.2.2.2))]) A) ([.ref h0, .int a1, .int a2, .int a3] : List Value).toArray s 0 0 A) (F0 m 0 ls []) := by
    clear hHe hLe
    refine lv_aload_n hx hb dX4_hear_0 rfl (lv_at hl 0 rfl) ?_
    refine va_get (D := (dC, dI)) (ci := 4) (v := .int v0_amount) (C := RX4) (T := TX4) (N := 4) hx hb hts hinX4 hown hK hP 0 rfl rfl 3 (by decide) (hts (.fieldLink RX4 22 "WasItOut$Judge" "amount" "I") (by decide +kernel)) (fun _ h9 => h9) rfl dX4_hear_1 ?_
    refine lv_if_lt (tgt := 16) hx hb dX4_hear_4 (by decide) (fun cc => ?_) (fun cc => ?_)
    · have hrun := oi_t hrun cc
      refine lv_bipush (v := (-3 : Int32)) hx hb dX4_hear_16 (by decide) ?_
      cases hrun
      have hP9 : va_P (dC, dI) vwCl [(h0, .inr (4, [.ref h1, .ref h3, .ref h2, .int v0_amount])), (h1, .inl (k1, 60, .inl c1)), (h2, .inl (k2, 60, .inl c2)), (h3, .inl (k3, 60, .inl c3))] H := hP
      have hD9 : va_D A [(h0, .inr (4, [.ref h1, .ref h3, .ref h2, .int v0_amount])), (h1, .inl (k1, 60, .inl c1)), (h2, .inl (k2, 60, .inl c2)), (h3, .inl (k3, 60, .inl c3))] := hD
      exact W.iret hx hb hr (fun t ht hW => ⟨⟨_, (), rfl, rfl, by rw [ht]; exact hP9, va_K.moved hW.alike hK, hD9⟩, hS.F ht⟩) hS.2.2 dX4_hear_18
    · have hrun := oi_f hrun cc
      refine lv_aload_n hx hb dX4_hear_7 rfl (lv_at hl 0 rfl) ?_
      refine va_get (D := (dC, dI)) (ci := 4) (v := .int v0_amount) (C := RX4) (T := TX4) (N := 4) hx hb hts hinX4 hown hK hP 0 rfl rfl 3 (by decide) (hts (.fieldLink RX4 22 "WasItOut$Judge" "amount" "I") (by decide +kernel)) (fun _ h9 => h9) rfl dX4_hear_8 ?_
      refine lv_bipush (v := (60 : Int32)) hx hb dX4_hear_11 (by decide) ?_
      refine lv_icmp_lt (tgt := 19) hx hb dX4_hear_13 (by decide) (fun cc => ?_) (fun cc => ?_)
      · have hrun := oi_t hrun cc
        refine lv_aload_n hx hb dX4_hear_19 rfl (lv_at hl 0 rfl) ?_
        refine va_get (D := (dC, dI)) (ci := 4) (v := .ref h1) (C := RX4) (T := TX4) (N := 4) hx hb hts hinX4 hown hK hP 0 rfl rfl 0 (by decide) (hts (.fieldLink RX4 11 "WasItOut$Judge" "byHowMuch" "[I") (by decide +kernel)) (fun _ h9 => h9) rfl dX4_hear_20 ?_
        refine lv_aload_n hx hb dX4_hear_23 rfl (lv_at hl 0 rfl) ?_
        refine va_get (D := (dC, dI)) (ci := 4) (v := .int v0_amount) (C := RX4) (T := TX4) (N := 4) hx hb hts hinX4 hown hK hP 0 rfl rfl 3 (by decide) (hts (.fieldLink RX4 22 "WasItOut$Judge" "amount" "I") (by decide +kernel)) (fun _ h9 => h9) rfl dX4_hear_24 ?_
        refine lv_iload_n hx hb dX4_hear_27 rfl (lv_at hl 1 rfl) ?_
        obtain ⟨hi, hrun⟩ := oi_x hrun
        refine va_iast hx hb hK hP hD hS 1 0 rfl rfl hi dX4_hear_28 (fun H locs hP hD hS => ?_)
        have hP : va_P (dC, dI) vwCl [(h0, .inr (4, [.ref h1, .ref h3, .ref h2, .int v0_amount])), (h1, .inl (k1, 60, .inl (upd c1 v0_amount.toNatClampNeg a1))), (h2, .inl (k2, 60, .inl c2)), (h3, .inl (k3, 60, .inl c3))] H := hP
        have hD : va_D A [(h0, .inr (4, [.ref h1, .ref h3, .ref h2, .int v0_amount])), (h1, .inl (k1, 60, .inl (upd c1 v0_amount.toNatClampNeg a1))), (h2, .inl (k2, 60, .inl c2)), (h3, .inl (k3, 60, .inl c3))] := hD
        refine lv_aload_n hx hb dX4_hear_29 rfl (lv_at hl 0 rfl) ?_
        refine va_get (D := (dC, dI)) (ci := 4) (v := .ref h3) (C := RX4) (T := TX4) (N := 4) hx hb hts hinX4 hown hK hP 0 rfl rfl 1 (by decide) (hts (.fieldLink RX4 15 "WasItOut$Judge" "sides" "[I") (by decide +kernel)) (fun _ h9 => h9) rfl dX4_hear_30 ?_
        refine lv_aload_n hx hb dX4_hear_33 rfl (lv_at hl 0 rfl) ?_
        refine va_get (D := (dC, dI)) (ci := 4) (v := .int v0_amount) (C := RX4) (T := TX4) (N := 4) hx hb hts hinX4 hown hK hP 0 rfl rfl 3 (by decide) (hts (.fieldLink RX4 22 "WasItOut$Judge" "amount" "I") (by decide +kernel)) (fun _ h9 => h9) rfl dX4_hear_34 ?_
        refine lv_iload_n hx hb dX4_hear_37 rfl (lv_at hl 2 rfl) ?_
        obtain ⟨hi, hrun⟩ := oi_x hrun
        refine va_iast hx hb hK hP hD hS 3 2 rfl rfl hi dX4_hear_38 (fun H locs hP hD hS => ?_)
        have hP : va_P (dC, dI) vwCl [(h0, .inr (4, [.ref h1, .ref h3, .ref h2, .int v0_amount])), (h1, .inl (k1, 60, .inl (upd c1 v0_amount.toNatClampNeg a1))), (h2, .inl (k2, 60, .inl c2)), (h3, .inl (k3, 60, .inl (upd c3 v0_amount.toNatClampNeg a2)))] H := hP
        have hD : va_D A [(h0, .inr (4, [.ref h1, .ref h3, .ref h2, .int v0_amount])), (h1, .inl (k1, 60, .inl (upd c1 v0_amount.toNatClampNeg a1))), (h2, .inl (k2, 60, .inl c2)), (h3, .inl (k3, 60, .inl (upd c3 v0_amount.toNatClampNeg a2)))] := hD
        refine lv_aload_n hx hb dX4_hear_39 rfl (lv_at hl 0 rfl) ?_
        refine va_get (D := (dC, dI)) (ci := 4) (v := .ref h2) (C := RX4) (T := TX4) (N := 4) hx hb hts hinX4 hown hK hP 0 rfl rfl 2 (by decide) (hts (.fieldLink RX4 18 "WasItOut$Judge" "saidOut" "[Z") (by decide +kernel)) (fun _ h9 => h9) rfl dX4_hear_40 ?_
        refine lv_aload_n hx hb dX4_hear_43 rfl (lv_at hl 0 rfl) ?_
        refine va_get (D := (dC, dI)) (ci := 4) (v := .int v0_amount) (C := RX4) (T := TX4) (N := 4) hx hb hts hinX4 hown hK hP 0 rfl rfl 3 (by decide) (hts (.fieldLink RX4 22 "WasItOut$Judge" "amount" "I") (by decide +kernel)) (fun _ h9 => h9) rfl dX4_hear_44 ?_
        refine lv_iload_n hx hb dX4_hear_47 rfl (lv_at hl 3 rfl) ?_
        obtain ⟨hi, hrun⟩ := oi_x hrun
        refine va_zast hx hb hK hP hD hS 2 1 rfl rfl hi dX4_hear_48 (fun H locs hP hD hS => ?_)
        have hP : va_P (dC, dI) vwCl [(h0, .inr (4, [.ref h1, .ref h3, .ref h2, .int v0_amount])), (h1, .inl (k1, 60, .inl (upd c1 v0_amount.toNatClampNeg a1))), (h2, .inl (k2, 60, .inl (upd c2 v0_amount.toNatClampNeg (vp_nar .boolean a3)))), (h3, .inl (k3, 60, .inl (upd c3 v0_amount.toNatClampNeg a2)))] H := hP
        have hD : va_D A [(h0, .inr (4, [.ref h1, .ref h3, .ref h2, .int v0_amount])), (h1, .inl (k1, 60, .inl (upd c1 v0_amount.toNatClampNeg a1))), (h2, .inl (k2, 60, .inl (upd c2 v0_amount.toNatClampNeg (vp_nar .boolean a3)))), (h3, .inl (k3, 60, .inl (upd c3 v0_amount.toNatClampNeg a2)))] := hD
        refine lv_aload_n hx hb dX4_hear_49 rfl (lv_at hl 0 rfl) ?_
        refine lv_dup hx hb dX4_hear_50 rfl ?_
        refine va_get (D := (dC, dI)) (ci := 4) (v := .int v0_amount) (C := RX4) (T := TX4) (N := 4) hx hb hts hinX4 hown hK hP 0 rfl rfl 3 (by decide) (hts (.fieldLink RX4 22 "WasItOut$Judge" "amount" "I") (by decide +kernel)) (fun _ h9 => h9) rfl dX4_hear_51 ?_
        refine lv_iconst (v := (1 : Int32)) hx hb dX4_hear_54 (by decide) ?_
        refine lv_iadd hx hb dX4_hear_55 ?_
        refine va_put (D := (dC, dI)) (ci := 4) (v := .int (v0_amount + (1 : Int32))) (ty := .int) (C := RX4) (T := TX4) (N := 4) hx hb hts hinX4 tyX4 tyX4_ok nmX4 hown hK hP hD hS 0 rfl rfl 3 (by decide) (hts (.fieldLink RX4 22 "WasItOut$Judge" "amount" "I") (by decide +kernel)) (fun _ h9 => h9) rfl (by decide +kernel) rfl rfl (Nat.le_of_ble_eq_true rfl) dX4_hear_56 (fun H locs hP hD hS => ?_)
        have hP : va_P (dC, dI) vwCl [(h0, .inr (4, [.ref h1, .ref h3, .ref h2, .int (v0_amount + (1 : Int32))])), (h1, .inl (k1, 60, .inl (upd c1 v0_amount.toNatClampNeg a1))), (h2, .inl (k2, 60, .inl (upd c2 v0_amount.toNatClampNeg (vp_nar .boolean a3)))), (h3, .inl (k3, 60, .inl (upd c3 v0_amount.toNatClampNeg a2)))] H := hP
        have hD : va_D A [(h0, .inr (4, [.ref h1, .ref h3, .ref h2, .int (v0_amount + (1 : Int32))])), (h1, .inl (k1, 60, .inl (upd c1 v0_amount.toNatClampNeg a1))), (h2, .inl (k2, 60, .inl (upd c2 v0_amount.toNatClampNeg (vp_nar .boolean a3)))), (h3, .inl (k3, 60, .inl (upd c3 v0_amount.toNatClampNeg a2)))] := hD
        refine lv_aload_n hx hb dX4_hear_59 rfl (lv_at hl 0 rfl) ?_
        refine va_get (D := (dC, dI)) (ci := 4) (v := .int (v0_amount + (1 : Int32))) (C := RX4) (T := TX4) (N := 4) hx hb hts hinX4 hown hK hP 0 rfl rfl 3 (by decide) (hts (.fieldLink RX4 22 "WasItOut$Judge" "amount" "I") (by decide +kernel)) (fun _ h9 => h9) rfl dX4_hear_60 ?_
        cases hrun
        have hP9 : va_P (dC, dI) vwCl [(h0, .inr (4, [.ref h1, .ref h3, .ref h2, .int (v0_amount + (1 : Int32))])), (h1, .inl (k1, 60, .inl (upd c1 v0_amount.toNatClampNeg a1))), (h2, .inl (k2, 60, .inl (upd c2 v0_amount.toNatClampNeg (vp_nar .boolean a3)))), (h3, .inl (k3, 60, .inl (upd c3 v0_amount.toNatClampNeg a2)))] H := hP
        have hD9 : va_D A [(h0, .inr (4, [.ref h1, .ref h3, .ref h2, .int (v0_amount + (1 : Int32))])), (h1, .inl (k1, 60, .inl (upd c1 v0_amount.toNatClampNeg a1))), (h2, .inl (k2, 60, .inl (upd c2 v0_amount.toNatClampNeg (vp_nar .boolean a3)))), (h3, .inl (k3, 60, .inl (upd c3 v0_amount.toNatClampNeg a2)))] := hD
        exact W.iret hx hb hr (fun t ht hW => ⟨⟨_, (), rfl, rfl, by rw [ht]; exact hP9, va_K.moved hW.alike hK, hD9⟩, hS.F ht⟩) hS.2.2 dX4_hear_63
      · have hrun := oi_f hrun cc
        refine lv_bipush (v := (-3 : Int32)) hx hb dX4_hear_16 (by decide) ?_
        cases hrun
        have hP9 : va_P (dC, dI) vwCl [(h0, .inr (4, [.ref h1, .ref h3, .ref h2, .int v0_amount])), (h1, .inl (k1, 60, .inl c1)), (h2, .inl (k2, 60, .inl c2)), (h3, .inl (k3, 60, .inl c3))] H := hP
        have hD9 : va_D A [(h0, .inr (4, [.ref h1, .ref h3, .ref h2, .int v0_amount])), (h1, .inl (k1, 60, .inl c1)), (h2, .inl (k2, 60, .inl c2)), (h3, .inl (k3, 60, .inl c3))] := hD
        exact W.iret hx hb hr (fun t ht hW => ⟨⟨_, (), rfl, rfl, by rw [ht]; exact hP9, va_K.moved hW.alike hK, hD9⟩, hS.F ht⟩) hS.2.2 dX4_hear_18
  rw [hHe, hLe] at key
  exact key
set_option maxHeartbeats 4000000 in
set_option maxRecDepth 100000 in
theorem tX4_unlike (l : Launch) (dC : Nat → ClassId) (dI : Nat → Nat → Nat) (h0 h1 h2 h3 : Nat) (k1 k2 k3 : ClassId) (N : Nat) (a1 : Int32) (a2 : Int32) (v0_amount : Int32) (c1 : Nat → Int32) (c2 : Nat → Int32) (c3 : Nat → Int32) (ru : Int32) (hm : fX4_unlike N a1 a2 v0_amount c1 c2 c3 = some ru) : Met l yX4_unlike wsX4_unlike ({ frames := 0, cells := 0, slots := 0, locals := 0 } : Room) (va_Pc [.ref h0, .int a1, .int a2] (fun U => va_P (dC, dI) vwCl [(h0, .inr (4, [.ref h1, .ref h3, .ref h2, .int v0_amount])), (h1, .inl (k1, 60, .inl c1)), (h2, .inl (k2, 60, .inl c2)), (h3, .inl (k3, 60, .inl c3))] U.heap ∧ va_K (dC, dI) vwCl [(k1, .int), (k2, .boolean), (k3, .int)] U)) (vp_Si (fun r => r = ru)) 0 0 (fun _ => False) := by
  refine Met.ofW (cc := cX4_unlike) (maxL := 5) (ret := (some .int)) (by decide) rfl ?_
  intro p e s m args below meth c s₁ B hml hv
  obtain ⟨rfl, hP, hK⟩ := hv
  have hx := B.exec
  have hb := B.bytes
  have hr := B.returns
  have hts := atoms_spec (ws := wsX4_unlike) B.pre
  have hown : s.vm.findClass RX4 = some m.cls := findClass_of_methodNamed B.named
  have hlocks := B.notSynchronized
  have hinX4 : ∀ w ∈ wsX40, w ∈ wsX4_unlike := by decide +kernel
  have hl := lv_entry ([.ref h0, .int a1, .int a2]) (n := 5) (Nat.le_of_ble_eq_true rfl)
  rw [lg_entry_eq]
  generalize (lg_sl ([.ref h0, .int a1, .int a2]) ++ List.replicate (5 - (lg_sl ([.ref h0, .int a1, .int a2])).length) Slot.unset).toArray = ls at hl ⊢
  have hl : lv_has ls 5 [(0, .ref h0), (1, .int a1), (2, .int a2)] := hl
  have hrun := hm
  rw [fX4_unlike] at hrun
  refine lv_iconst (v := (0 : Int32)) hx hb dX4_unlike_0 (by decide) ?_
  refine lv_istore_n (lv' := [(3, .int (0 : Int32)), (0, .ref h0), (1, .int a1), (2, .int a2)]) hx hb dX4_unlike_1 rfl hl (by decide) rfl (fun ls hl => ?_)
  refine lv_iconst (v := (0 : Int32)) hx hb dX4_unlike_2 (by decide) ?_
  refine lv_istore (lv' := [(4, .int (0 : Int32)), (3, .int (0 : Int32)), (0, .ref h0), (1, .int a1), (2, .int a2)]) hx hb dX4_unlike_3 hl (by decide) rfl (fun ls hl => ?_)
  obtain ⟨k72, ek72, hrun⟩ := jn_e hrun
  have J72 : ∀ (x3_72 : Int32) (ls : Array Slot), k72 x3_72 = some ru → lv_has ls 5 [(3, .int x3_72)] → W p l e (headSpec wsX4_unlike ({ frames := 0, cells := 0, slots := 0, locals := 0 } : Room)).room s m ([.ref h0, .int a1, .int a2] : List Value).toArray below meth c s.heap [] 0 0 (MQ below (vp_Si (fun r => r = ru)) ([.ref h0, .int a1, .int a2] : List Value).toArray s 0 0 (fun _ => False)) (F0 m 72 ls []) := by
    intro x3_72 ls hrun hl
    rw [ek72] at hrun
    refine lv_iload_n hx hb dX4_unlike_72 rfl (lv_at hl 0 rfl) ?_
    exact W.iret hx hb hr (fun t ht _ => ⟨_, rfl, Option.some.inj hrun, ht⟩) (fun _ h => by cases h) dX4_unlike_73
  have L5 : ∀ (n : Nat) (x3_5 : Int32) (x4_5 : Int32) (ls : Array Slot), fX4_unlike_p5 N a1 a2 v0_amount c1 c2 c3 k72 n x3_5 x4_5 = some ru → lv_has ls 5 [(0, .ref h0), (1, .int a1), (2, .int a2), (3, .int x3_5), (4, .int x4_5)] → W p l e (headSpec wsX4_unlike ({ frames := 0, cells := 0, slots := 0, locals := 0 } : Room)).room s m ([.ref h0, .int a1, .int a2] : List Value).toArray below meth c s.heap [] 0 0 (MQ below (vp_Si (fun r => r = ru)) ([.ref h0, .int a1, .int a2] : List Value).toArray s 0 0 (fun _ => False)) (F0 m 5 ls []) := by
    intro n
    induction n with
    | zero => intro x3_5 x4_5 ls hrun; rw [fX4_unlike_p5] at hrun; exact on_e hrun
    | succ n ih =>
      intro x3_5 x4_5 ls hrun hl
      rw [fX4_unlike_p5] at hrun
      refine lv_iload hx hb dX4_unlike_5 (lv_at hl 4 rfl) ?_
      refine lv_aload_n hx hb dX4_unlike_7 rfl (lv_at hl 0 rfl) ?_
      refine va_get (D := (dC, dI)) (ci := 4) (v := .int v0_amount) (C := RX4) (T := TX4) (N := 4) hx hb hts hinX4 hown hK hP 0 rfl rfl 3 (by decide) (hts (.fieldLink RX4 22 "WasItOut$Judge" "amount" "I") (by decide +kernel)) (fun _ h9 => h9) rfl dX4_unlike_8 ?_
      refine lv_icmp_ge (tgt := 72) hx hb dX4_unlike_11 (by decide) (fun cc => ?_) (fun cc => ?_)
      · have hrun := oi_t hrun cc
        exact J72 x3_5 ls hrun (lv_sub hl [3] rfl)
      · have hrun := oi_f hrun cc
        refine lv_iload hx hb dX4_unlike_14 (lv_at hl 4 rfl) ?_
        refine lv_bipush (v := (60 : Int32)) hx hb dX4_unlike_16 (by decide) ?_
        refine lv_icmp_ge (tgt := 72) hx hb dX4_unlike_18 (by decide) (fun cc => ?_) (fun cc => ?_)
        · have hrun := oi_t hrun cc
          exact J72 x3_5 ls hrun (lv_sub hl [3] rfl)
        · have hrun := oi_f hrun cc
          refine lv_iload_n hx hb dX4_unlike_21 rfl (lv_at hl 3 rfl) ?_
          refine lv_aload_n hx hb dX4_unlike_22 rfl (lv_at hl 0 rfl) ?_
          refine va_get (D := (dC, dI)) (ci := 4) (v := .ref h3) (C := RX4) (T := TX4) (N := 4) hx hb hts hinX4 hown hK hP 0 rfl rfl 1 (by decide) (hts (.fieldLink RX4 15 "WasItOut$Judge" "sides" "[I") (by decide +kernel)) (fun _ h9 => h9) rfl dX4_unlike_23 ?_
          refine lv_iload hx hb dX4_unlike_26 (lv_at hl 4 rfl) ?_
          obtain ⟨hi, hrun⟩ := oi_x hrun
          refine va_iald hx hb hK hP 3 2 rfl rfl hi dX4_unlike_28 ?_
          refine lv_iload_n hx hb dX4_unlike_29 rfl (lv_at hl 1 rfl) ?_
          obtain ⟨k64, ek64, hrun⟩ := jn_e hrun
          have J64 : ∀ (z0_64 : Int32) (ls : Array Slot), k64 z0_64 = some ru → lv_has ls 5 [(0, .ref h0), (1, .int a1), (2, .int a2), (4, .int x4_5)] → W p l e (headSpec wsX4_unlike ({ frames := 0, cells := 0, slots := 0, locals := 0 } : Room)).room s m ([.ref h0, .int a1, .int a2] : List Value).toArray below meth c s.heap [] 0 0 (MQ below (vp_Si (fun r => r = ru)) ([.ref h0, .int a1, .int a2] : List Value).toArray s 0 0 (fun _ => False)) (F0 m 64 ls [.int z0_64, .int x3_5]) := by
            intro z0_64 ls hrun hl
            rw [ek64] at hrun
            refine lv_iadd hx hb dX4_unlike_64 ?_
            refine lv_istore_n (lv' := [(3, .int (x3_5 + z0_64)), (0, .ref h0), (1, .int a1), (2, .int a2), (4, .int x4_5)]) hx hb dX4_unlike_65 rfl hl (by decide) rfl (fun ls hl => ?_)
            refine lv_iinc (v := (x4_5 + (1 : Int32))) (lv' := [(4, .int (x4_5 + (1 : Int32))), (3, .int (x3_5 + z0_64)), (0, .ref h0), (1, .int a1), (2, .int a2)]) hx hb dX4_unlike_66 hl (k := 4) rfl rfl (by decide) rfl (fun ls hl => ?_)
            refine lv_goto (tgt := 5) hx hb dX4_unlike_69 (by decide) ?_
            exact ih ((x3_5 + z0_64)) ((x4_5 + (1 : Int32))) ls hrun (lv_sub hl [2, 3, 4, 1, 0] rfl)
          obtain ⟨k63, ek63, hrun⟩ := jn_e hrun
          have J63 : ∀ (u_63 : Unit) (ls : Array Slot), k63 u_63 = some ru → lv_has ls 5 [(0, .ref h0), (1, .int a1), (2, .int a2), (4, .int x4_5)] → W p l e (headSpec wsX4_unlike ({ frames := 0, cells := 0, slots := 0, locals := 0 } : Room)).room s m ([.ref h0, .int a1, .int a2] : List Value).toArray below meth c s.heap [] 0 0 (MQ below (vp_Si (fun r => r = ru)) ([.ref h0, .int a1, .int a2] : List Value).toArray s 0 0 (fun _ => False)) (F0 m 63 ls [.int x3_5]) := by
            intro u_63 ls hrun hl
            rw [ek63] at hrun
            refine lv_iconst (v := (0 : Int32)) hx hb dX4_unlike_63 (by decide) ?_
            exact J64 ((0 : Int32)) ls hrun hl
          refine lv_icmp_ne (tgt := 63) hx hb dX4_unlike_30 (by decide) (fun cc => ?_) (fun cc => ?_)
          · have hrun := oi_t hrun cc
            exact J63 (()) ls hrun (lv_sub hl [0, 1, 2, 4] rfl)
          · have hrun := oi_n hrun cc
            refine lv_aload_n hx hb dX4_unlike_33 rfl (lv_at hl 0 rfl) ?_
            refine va_get (D := (dC, dI)) (ci := 4) (v := .ref h2) (C := RX4) (T := TX4) (N := 4) hx hb hts hinX4 hown hK hP 0 rfl rfl 2 (by decide) (hts (.fieldLink RX4 18 "WasItOut$Judge" "saidOut" "[Z") (by decide +kernel)) (fun _ h9 => h9) rfl dX4_unlike_34 ?_
            refine lv_iload hx hb dX4_unlike_37 (lv_at hl 4 rfl) ?_
            obtain ⟨hi, hrun⟩ := oi_x hrun
            refine va_zald hx hb hK hP 2 1 rfl rfl hi dX4_unlike_39 ?_
            refine lv_aload_n hx hb dX4_unlike_40 rfl (lv_at hl 0 rfl) ?_
            refine va_get (D := (dC, dI)) (ci := 4) (v := .ref h1) (C := RX4) (T := TX4) (N := 4) hx hb hts hinX4 hown hK hP 0 rfl rfl 0 (by decide) (hts (.fieldLink RX4 11 "WasItOut$Judge" "byHowMuch" "[I") (by decide +kernel)) (fun _ h9 => h9) rfl dX4_unlike_41 ?_
            refine lv_iload hx hb dX4_unlike_44 (lv_at hl 4 rfl) ?_
            obtain ⟨hi, hrun⟩ := oi_x hrun
            refine va_iald hx hb hK hP 1 0 rfl rfl hi dX4_unlike_46 ?_
            refine lv_iload_n hx hb dX4_unlike_47 rfl (lv_at hl 2 rfl) ?_
            obtain ⟨k56, ek56, hrun⟩ := jn_e hrun
            have J56 : ∀ (z0_56 : Int32) (ls : Array Slot), k56 z0_56 = some ru → lv_has ls 5 [(0, .ref h0), (1, .int a1), (2, .int a2), (4, .int x4_5)] → W p l e (headSpec wsX4_unlike ({ frames := 0, cells := 0, slots := 0, locals := 0 } : Room)).room s m ([.ref h0, .int a1, .int a2] : List Value).toArray below meth c s.heap [] 0 0 (MQ below (vp_Si (fun r => r = ru)) ([.ref h0, .int a1, .int a2] : List Value).toArray s 0 0 (fun _ => False)) (F0 m 56 ls [.int z0_56, .int (c2 x4_5.toNatClampNeg), .int x3_5]) := by
              intro z0_56 ls hrun hl
              rw [ek56] at hrun
              refine lv_icmp_eq (tgt := 63) hx hb dX4_unlike_56 (by decide) (fun cc => ?_) (fun cc => ?_)
              · have hrun := oi_t hrun cc
                exact J63 (()) ls hrun hl
              · have hrun := oi_f hrun cc
                refine lv_iconst (v := (1 : Int32)) hx hb dX4_unlike_59 (by decide) ?_
                refine lv_goto (tgt := 64) hx hb dX4_unlike_60 (by decide) ?_
                exact J64 ((1 : Int32)) ls hrun hl
            refine lv_icmp_le (tgt := 55) hx hb dX4_unlike_48 (by decide) (fun cc => ?_) (fun cc => ?_)
            · have hrun := oi_t hrun cc
              refine lv_iconst (v := (0 : Int32)) hx hb dX4_unlike_55 (by decide) ?_
              exact J56 ((0 : Int32)) ls hrun (lv_sub hl [0, 1, 2, 4] rfl)
            · have hrun := oi_f hrun cc
              refine lv_iconst (v := (1 : Int32)) hx hb dX4_unlike_51 (by decide) ?_
              refine lv_goto (tgt := 56) hx hb dX4_unlike_52 (by decide) ?_
              exact J56 ((1 : Int32)) ls hrun (lv_sub hl [0, 1, 2, 4] rfl)
  exact L5 N ((0 : Int32)) ((0 : Int32)) ls hrun (lv_sub hl [2, 3, 4, 1, 0] rfl)
set_option maxHeartbeats 4000000 in
set_option maxRecDepth 100000 in
theorem tX4_leaning (l : Launch) (dC : Nat → ClassId) (dI : Nat → Nat → Nat) (h0 h1 h2 h3 : Nat) (k1 k2 k3 : ClassId) (N : Nat) (a1 : Int32) (v0_amount : Int32) (c1 : Nat → Int32) (c2 : Nat → Int32) (c3 : Nat → Int32) (ru : Int32) (hm : fX4_leaning N a1 v0_amount c1 c2 c3 = some ru) : Met l yX4_leaning wsX4_leaning ({ frames := 1, cells := 0, slots := 0, locals := 24 } : Room) (va_Pc [.ref h0, .int a1] (fun U => va_P (dC, dI) vwCl [(h0, .inr (4, [.ref h1, .ref h3, .ref h2, .int v0_amount])), (h1, .inl (k1, 60, .inl c1)), (h2, .inl (k2, 60, .inl c2)), (h3, .inl (k3, 60, .inl c3))] U.heap ∧ va_K (dC, dI) vwCl [(k1, .int), (k2, .boolean), (k3, .int)] U)) (vp_Si (fun r => r = ru)) 0 0 (fun _ => False) := by
  refine Met.ofW (cc := cX4_leaning) (maxL := 7) (ret := (some .int)) (by decide) rfl ?_
  intro p e s m args below meth c s₁ B hml hv
  obtain ⟨rfl, hP, hK⟩ := hv
  have hx := B.exec
  have hb := B.bytes
  have hr := B.returns
  have hts := atoms_spec (ws := wsX4_leaning) B.pre
  have hown : s.vm.findClass RX4 = some m.cls := findClass_of_methodNamed B.named
  have hlocks := B.notSynchronized
  have hl := lv_entry ([.ref h0, .int a1]) (n := 7) (Nat.le_of_ble_eq_true rfl)
  rw [lg_entry_eq]
  generalize (lg_sl ([.ref h0, .int a1]) ++ List.replicate (7 - (lg_sl ([.ref h0, .int a1])).length) Slot.unset).toArray = ls at hl ⊢
  have hl : lv_has ls 7 [(0, .ref h0), (1, .int a1)] := hl
  have hrun := hm
  rw [fX4_leaning] at hrun
  refine lv_iconst (v := (0 : Int32)) hx hb dX4_leaning_0 (by decide) ?_
  refine lv_istore_n (lv' := [(2, .int (0 : Int32)), (0, .ref h0), (1, .int a1)]) hx hb dX4_leaning_1 rfl hl (by decide) rfl (fun ls hl => ?_)
  refine lv_aload_n hx hb dX4_leaning_2 rfl (lv_at hl 1 rfl) ?_
  refine lv_iload_n hx hb dX4_leaning_3 rfl (lv_at hl 2 rfl) ?_
  refine lv_iconst (v := (0 : Int32)) hx hb dX4_leaning_4 (by decide) ?_
  obtain ⟨q5, hc5, hrun⟩ := ob_e hrun
  refine wz_csi (va_runV (As := [.int a1, .int (0 : Int32)]) (rest := []) ⟨hx, hb, hml, hown, hts⟩ (tX4_unlike l dC dI h0 h1 h2 h3 k1 k2 k3 N a1 ((0 : Int32)) v0_amount c1 c2 c3 q5 hc5) (cwV 2 hts gX4_leaning_X4_unlike rfl rfl rfl (by decide +kernel) ⟨Nat.le_of_ble_eq_true rfl, Nat.le_of_ble_eq_true rfl⟩) (wz_pVr (hP.sub (ws' := [(h0, .inr (4, [.ref h1, .ref h3, .ref h2, .int v0_amount])), (h1, .inl (k1, 60, .inl c1)), (h2, .inl (k2, 60, .inl c2)), (h3, .inl (k3, 60, .inl c3))]) [0, 1, 2, 3] rfl) (hK.sub (tys' := [(k1, .int), (k2, .boolean), (k3, .int)]) [0, 1, 2] rfl) (va_recv hK hP (ci := 4) (q0 := 0) rfl rfl)) rfl rfl hl.1 rfl (lv_room (Nat.le_of_ble_eq_true rfl)) dX4_leaning_5 ⟨Nat.zero_le _, Nat.zero_le _⟩) ?_
  refine lv_istore_n (lv' := [(3, .int q5), (2, .int (0 : Int32)), (0, .ref h0), (1, .int a1)]) hx hb dX4_leaning_8 rfl hl (by decide) rfl (fun ls hl => ?_)
  refine lv_iconst (v := (1 : Int32)) hx hb dX4_leaning_9 (by decide) ?_
  refine lv_istore (lv' := [(4, .int (1 : Int32)), (3, .int q5), (2, .int (0 : Int32)), (0, .ref h0), (1, .int a1)]) hx hb dX4_leaning_10 hl (by decide) rfl (fun ls hl => ?_)
  obtain ⟨k69, ek69, hrun⟩ := jn_e hrun
  have J69 : ∀ (x2_69 : Int32) (ls : Array Slot), k69 x2_69 = some ru → lv_has ls 7 [(2, .int x2_69)] → W p l e (headSpec wsX4_leaning ({ frames := 1, cells := 0, slots := 0, locals := 24 } : Room)).room s m ([.ref h0, .int a1] : List Value).toArray below meth c s.heap [] 0 0 (MQ below (vp_Si (fun r => r = ru)) ([.ref h0, .int a1] : List Value).toArray s 0 0 (fun _ => False)) (F0 m 69 ls []) := by
    intro x2_69 ls hrun hl
    rw [ek69] at hrun
    refine lv_iload_n hx hb dX4_leaning_69 rfl (lv_at hl 0 rfl) ?_
    exact W.iret hx hb hr (fun t ht _ => ⟨_, rfl, Option.some.inj hrun, ht⟩) (fun _ h => by cases h) dX4_leaning_70
  have L12 : ∀ (n : Nat) (x2_12 : Int32) (x3_12 : Int32) (x4_12 : Int32) (ls : Array Slot), fX4_leaning_p12 N a1 v0_amount c1 c2 c3 k69 n x2_12 x3_12 x4_12 = some ru → lv_has ls 7 [(0, .ref h0), (1, .int a1), (2, .int x2_12), (3, .int x3_12), (4, .int x4_12)] → W p l e (headSpec wsX4_leaning ({ frames := 1, cells := 0, slots := 0, locals := 24 } : Room)).room s m ([.ref h0, .int a1] : List Value).toArray below meth c s.heap [] 0 0 (MQ below (vp_Si (fun r => r = ru)) ([.ref h0, .int a1] : List Value).toArray s 0 0 (fun _ => False)) (F0 m 12 ls []) := by
    intro n
    induction n with
    | zero => intro x2_12 x3_12 x4_12 ls hrun; rw [fX4_leaning_p12] at hrun; exact on_e hrun
    | succ n ih =>
      intro x2_12 x3_12 x4_12 ls hrun hl
      rw [fX4_leaning_p12] at hrun
      refine lv_iload hx hb dX4_leaning_12 (lv_at hl 4 rfl) ?_
      refine lv_bipush (v := (20 : Int32)) hx hb dX4_leaning_14 (by decide) ?_
      refine lv_icmp_gt (tgt := 69) hx hb dX4_leaning_16 (by decide) (fun cc => ?_) (fun cc => ?_)
      · have hrun := oi_t hrun cc
        exact J69 x2_12 ls hrun (lv_sub hl [2] rfl)
      · have hrun := oi_f hrun cc
        refine lv_aload_n hx hb dX4_leaning_19 rfl (lv_at hl 0 rfl) ?_
        refine lv_iload_n hx hb dX4_leaning_20 rfl (lv_at hl 1 rfl) ?_
        refine lv_iload hx hb dX4_leaning_21 (lv_at hl 4 rfl) ?_
        refine lv_ineg hx hb dX4_leaning_23 ?_
        obtain ⟨q24, hc24, hrun⟩ := ob_e hrun
        refine wz_csi (va_runV (As := [.int a1, .int (-x4_12)]) (rest := []) ⟨hx, hb, hml, hown, hts⟩ (tX4_unlike l dC dI h0 h1 h2 h3 k1 k2 k3 N a1 ((-x4_12)) v0_amount c1 c2 c3 q24 hc24) (cwV 2 hts gX4_leaning_X4_unlike rfl rfl rfl (by decide +kernel) ⟨Nat.le_of_ble_eq_true rfl, Nat.le_of_ble_eq_true rfl⟩) (wz_pVr (hP.sub (ws' := [(h0, .inr (4, [.ref h1, .ref h3, .ref h2, .int v0_amount])), (h1, .inl (k1, 60, .inl c1)), (h2, .inl (k2, 60, .inl c2)), (h3, .inl (k3, 60, .inl c3))]) [0, 1, 2, 3] rfl) (hK.sub (tys' := [(k1, .int), (k2, .boolean), (k3, .int)]) [0, 1, 2] rfl) (va_recv hK hP (ci := 4) (q0 := 0) rfl rfl)) rfl rfl hl.1 rfl (lv_room (Nat.le_of_ble_eq_true rfl)) dX4_leaning_24 ⟨Nat.zero_le _, Nat.zero_le _⟩) ?_
        refine lv_istore (lv' := [(5, .int q24), (0, .ref h0), (1, .int a1), (2, .int x2_12), (3, .int x3_12), (4, .int x4_12)]) hx hb dX4_leaning_27 hl (by decide) rfl (fun ls hl => ?_)
        refine lv_iload hx hb dX4_leaning_29 (lv_at hl 0 rfl) ?_
        refine lv_iload_n hx hb dX4_leaning_31 rfl (lv_at hl 4 rfl) ?_
        obtain ⟨k42, ek42, hrun⟩ := jn_e hrun
        have J42 : ∀ (x2_42 : Int32) (x3_42 : Int32) (ls : Array Slot), k42 x2_42 x3_42 = some ru → lv_has ls 7 [(0, .ref h0), (1, .int a1), (2, .int x2_42), (3, .int x3_42), (4, .int x4_12)] → W p l e (headSpec wsX4_leaning ({ frames := 1, cells := 0, slots := 0, locals := 24 } : Room)).room s m ([.ref h0, .int a1] : List Value).toArray below meth c s.heap [] 0 0 (MQ below (vp_Si (fun r => r = ru)) ([.ref h0, .int a1] : List Value).toArray s 0 0 (fun _ => False)) (F0 m 42 ls []) := by
          intro x2_42 x3_42 ls hrun hl
          rw [ek42] at hrun
          refine lv_aload_n hx hb dX4_leaning_42 rfl (lv_at hl 0 rfl) ?_
          refine lv_iload_n hx hb dX4_leaning_43 rfl (lv_at hl 1 rfl) ?_
          refine lv_iload hx hb dX4_leaning_44 (lv_at hl 4 rfl) ?_
          obtain ⟨q46, hc46, hrun⟩ := ob_e hrun
          refine wz_csi (va_runV (As := [.int a1, .int x4_12]) (rest := []) ⟨hx, hb, hml, hown, hts⟩ (tX4_unlike l dC dI h0 h1 h2 h3 k1 k2 k3 N a1 x4_12 v0_amount c1 c2 c3 q46 hc46) (cwV 2 hts gX4_leaning_X4_unlike rfl rfl rfl (by decide +kernel) ⟨Nat.le_of_ble_eq_true rfl, Nat.le_of_ble_eq_true rfl⟩) (wz_pVr (hP.sub (ws' := [(h0, .inr (4, [.ref h1, .ref h3, .ref h2, .int v0_amount])), (h1, .inl (k1, 60, .inl c1)), (h2, .inl (k2, 60, .inl c2)), (h3, .inl (k3, 60, .inl c3))]) [0, 1, 2, 3] rfl) (hK.sub (tys' := [(k1, .int), (k2, .boolean), (k3, .int)]) [0, 1, 2] rfl) (va_recv hK hP (ci := 4) (q0 := 0) rfl rfl)) rfl rfl hl.1 rfl (lv_room (Nat.le_of_ble_eq_true rfl)) dX4_leaning_46 ⟨Nat.zero_le _, Nat.zero_le _⟩) ?_
          refine lv_istore (lv' := [(6, .int q46), (0, .ref h0), (1, .int a1), (2, .int x2_42), (3, .int x3_42), (4, .int x4_12)]) hx hb dX4_leaning_49 hl (by decide) rfl (fun ls hl => ?_)
          refine lv_iload hx hb dX4_leaning_51 (lv_at hl 0 rfl) ?_
          refine lv_iload_n hx hb dX4_leaning_53 rfl (lv_at hl 4 rfl) ?_
          obtain ⟨k63, ek63, hrun⟩ := jn_e hrun
          have J63 : ∀ (x2_63 : Int32) (x3_63 : Int32) (ls : Array Slot), k63 x2_63 x3_63 = some ru → lv_has ls 7 [(0, .ref h0), (1, .int a1), (2, .int x2_63), (3, .int x3_63), (4, .int x4_12)] → W p l e (headSpec wsX4_leaning ({ frames := 1, cells := 0, slots := 0, locals := 24 } : Room)).room s m ([.ref h0, .int a1] : List Value).toArray below meth c s.heap [] 0 0 (MQ below (vp_Si (fun r => r = ru)) ([.ref h0, .int a1] : List Value).toArray s 0 0 (fun _ => False)) (F0 m 63 ls []) := by
            intro x2_63 x3_63 ls hrun hl
            rw [ek63] at hrun
            refine lv_iinc (v := (x4_12 + (1 : Int32))) (lv' := [(4, .int (x4_12 + (1 : Int32))), (0, .ref h0), (1, .int a1), (2, .int x2_63), (3, .int x3_63)]) hx hb dX4_leaning_63 hl (k := 4) rfl rfl (by decide) rfl (fun ls hl => ?_)
            refine lv_goto (tgt := 12) hx hb dX4_leaning_66 (by decide) ?_
            exact ih x2_63 x3_63 ((x4_12 + (1 : Int32))) ls hrun (lv_sub hl [1, 2, 3, 4, 0] rfl)
          refine lv_icmp_ge (tgt := 63) hx hb dX4_leaning_54 (by decide) (fun cc => ?_) (fun cc => ?_)
          · have hrun := oi_t hrun cc
            exact J63 x2_42 x3_42 ls hrun (lv_sub hl [1, 2, 3, 4, 5] rfl)
          · have hrun := oi_f hrun cc
            refine lv_iload hx hb dX4_leaning_57 (lv_at hl 5 rfl) ?_
            refine lv_istore_n (lv' := [(2, .int x4_12), (6, .int q46), (0, .ref h0), (1, .int a1), (3, .int x3_42), (4, .int x4_12)]) hx hb dX4_leaning_59 rfl hl (by decide) rfl (fun ls hl => ?_)
            refine lv_iload hx hb dX4_leaning_60 (lv_at hl 1 rfl) ?_
            refine lv_istore_n (lv' := [(3, .int q46), (2, .int x4_12), (6, .int q46), (0, .ref h0), (1, .int a1), (4, .int x4_12)]) hx hb dX4_leaning_62 rfl hl (by decide) rfl (fun ls hl => ?_)
            exact J63 x4_12 q46 ls hrun (lv_sub hl [3, 4, 1, 0, 5] rfl)
        refine lv_icmp_ge (tgt := 42) hx hb dX4_leaning_32 (by decide) (fun cc => ?_) (fun cc => ?_)
        · have hrun := oi_t hrun cc
          exact J42 x2_12 x3_12 ls hrun (lv_sub hl [1, 2, 3, 4, 5] rfl)
        · have hrun := oi_f hrun cc
          refine lv_iload hx hb dX4_leaning_35 (lv_at hl 5 rfl) ?_
          refine lv_ineg hx hb dX4_leaning_37 ?_
          refine lv_istore_n (lv' := [(2, .int (-x4_12)), (5, .int q24), (0, .ref h0), (1, .int a1), (3, .int x3_12), (4, .int x4_12)]) hx hb dX4_leaning_38 rfl hl (by decide) rfl (fun ls hl => ?_)
          refine lv_iload hx hb dX4_leaning_39 (lv_at hl 1 rfl) ?_
          refine lv_istore_n (lv' := [(3, .int q24), (2, .int (-x4_12)), (5, .int q24), (0, .ref h0), (1, .int a1), (4, .int x4_12)]) hx hb dX4_leaning_41 rfl hl (by decide) rfl (fun ls hl => ?_)
          exact J42 ((-x4_12)) q24 ls hrun (lv_sub hl [3, 4, 1, 0, 5] rfl)
  exact L12 N ((0 : Int32)) q5 ((1 : Int32)) ls hrun (lv_sub hl [3, 4, 2, 1, 0] rfl)
set_option maxHeartbeats 4000000 in
set_option maxRecDepth 100000 in
theorem tX4_size (l : Launch) (dC : Nat → ClassId) (dI : Nat → Nat → Nat) (h0 : Nat) (g0_byHowMuch g0_sides g0_saidOut : Value) (N : Nat)  (v0_amount : Int32) (ru : Int32) (hm : fX4_size N v0_amount = some ru) : Met l yX4_size wsX4_size ({ frames := 0, cells := 0, slots := 0, locals := 0 } : Room) (va_Pc [.ref h0] (fun U => va_P (dC, dI) vwCl [(h0, .inr (4, [g0_byHowMuch, g0_sides, g0_saidOut, .int v0_amount]))] U.heap ∧ va_K (dC, dI) vwCl [] U)) (vp_Si (fun r => r = ru)) 0 0 (fun _ => False) := by
  refine Met.ofW (cc := cX4_size) (maxL := 1) (ret := (some .int)) (by decide) rfl ?_
  intro p e s m args below meth c s₁ B hml hv
  obtain ⟨rfl, hP, hK⟩ := hv
  have hx := B.exec
  have hb := B.bytes
  have hr := B.returns
  have hts := atoms_spec (ws := wsX4_size) B.pre
  have hown : s.vm.findClass RX4 = some m.cls := findClass_of_methodNamed B.named
  have hlocks := B.notSynchronized
  have hinX4 : ∀ w ∈ wsX40, w ∈ wsX4_size := by decide +kernel
  have hl := lv_entry ([.ref h0]) (n := 1) (Nat.le_of_ble_eq_true rfl)
  rw [lg_entry_eq]
  generalize (lg_sl ([.ref h0]) ++ List.replicate (1 - (lg_sl ([.ref h0])).length) Slot.unset).toArray = ls at hl ⊢
  have hl : lv_has ls 1 [(0, .ref h0)] := hl
  have hrun := hm
  rw [fX4_size] at hrun
  refine lv_aload_n hx hb dX4_size_0 rfl (lv_at hl 0 rfl) ?_
  refine va_get (D := (dC, dI)) (ci := 4) (v := .int v0_amount) (C := RX4) (T := TX4) (N := 4) hx hb hts hinX4 hown hK hP 0 rfl rfl 3 (by decide) (hts (.fieldLink RX4 22 "WasItOut$Judge" "amount" "I") (by decide +kernel)) (fun _ h9 => h9) rfl dX4_size_1 ?_
  exact W.iret hx hb hr (fun t ht _ => ⟨_, rfl, Option.some.inj hrun, ht⟩) (fun _ h => by cases h) dX4_size_4
set_option maxHeartbeats 4000000 in
set_option maxRecDepth 100000 in
theorem tJ6_bitCount_0f7a4 (l : Launch) (dC : Nat → ClassId) (dI : Nat → Nat → Nat) (N : Nat) (a0 : Int32)  (ru : Int32) (hm : fJ6_bitCount_0f7a4 N a0 = some ru) : Met l yJ6_bitCount_0f7a4 wsJ6_bitCount_0f7a4 ({ frames := 0, cells := 0, slots := 0, locals := 0 } : Room) (va_Pc [.int a0] (fun U => va_P (dC, dI) vwCl [] U.heap ∧ va_K (dC, dI) vwCl [] U)) (vp_Si (fun r => r = ru)) 0 0 (fun _ => False) := by
  refine Met.ofW (cc := cJ6_bitCount_0f7a4) (maxL := 1) (ret := (some .int)) (by decide) rfl ?_
  intro p e s m args below meth c s₁ B hml hv
  obtain ⟨rfl, hP, hK⟩ := hv
  have hx := B.exec
  have hb := B.bytes
  have hr := B.returns
  have hts := atoms_spec (ws := wsJ6_bitCount_0f7a4) B.pre
  have hown : s.vm.findClass RJ6 = some m.cls := findClass_of_methodNamed B.named
  have hlocks := B.notSynchronized
  have hl := lv_entry ([.int a0]) (n := 1) (Nat.le_of_ble_eq_true rfl)
  rw [lg_entry_eq]
  generalize (lg_sl ([.int a0]) ++ List.replicate (1 - (lg_sl ([.int a0])).length) Slot.unset).toArray = ls at hl ⊢
  have hl : lv_has ls 1 [(0, .int a0)] := hl
  have hrun := hm
  rw [fJ6_bitCount_0f7a4] at hrun
  refine lv_iload_n hx hb dJ6_bitCount_0f7a4_0 rfl (lv_at hl 0 rfl) ?_
  refine lv_iload_n hx hb dJ6_bitCount_0f7a4_1 rfl (lv_at hl 0 rfl) ?_
  refine lv_iconst (v := (1 : Int32)) hx hb dJ6_bitCount_0f7a4_2 (by decide) ?_
  refine lv_iushr (v := (a0.toUInt32 >>> ((1 : Int32).toUInt32 &&& Int32.toUInt32 31)).toInt32) hx hb dJ6_bitCount_0f7a4_3 rfl ?_
  refine lv_ldcw (v := (1431655765 : Int32)) hx hb hown (hts (.constant RJ6 265 (1431655765 : Int32)) (by decide +kernel)) dJ6_bitCount_0f7a4_4 ?_
  refine lv_iand hx hb dJ6_bitCount_0f7a4_7 ?_
  refine lv_isub hx hb dJ6_bitCount_0f7a4_8 ?_
  refine lv_istore_n (lv' := [(0, .int (a0 - ((a0.toUInt32 >>> ((1 : Int32).toUInt32 &&& Int32.toUInt32 31)).toInt32 &&& (1431655765 : Int32))))]) hx hb dJ6_bitCount_0f7a4_9 rfl hl (by decide) rfl (fun ls hl => ?_)
  refine lv_iload_n hx hb dJ6_bitCount_0f7a4_10 rfl (lv_at hl 0 rfl) ?_
  refine lv_ldcw (v := (858993459 : Int32)) hx hb hown (hts (.constant RJ6 266 (858993459 : Int32)) (by decide +kernel)) dJ6_bitCount_0f7a4_11 ?_
  refine lv_iand hx hb dJ6_bitCount_0f7a4_14 ?_
  refine lv_iload_n hx hb dJ6_bitCount_0f7a4_15 rfl (lv_at hl 0 rfl) ?_
  refine lv_iconst (v := (2 : Int32)) hx hb dJ6_bitCount_0f7a4_16 (by decide) ?_
  refine lv_iushr (v := ((a0 - ((a0.toUInt32 >>> ((1 : Int32).toUInt32 &&& Int32.toUInt32 31)).toInt32 &&& (1431655765 : Int32))).toUInt32 >>> ((2 : Int32).toUInt32 &&& Int32.toUInt32 31)).toInt32) hx hb dJ6_bitCount_0f7a4_17 rfl ?_
  refine lv_ldcw (v := (858993459 : Int32)) hx hb hown (hts (.constant RJ6 266 (858993459 : Int32)) (by decide +kernel)) dJ6_bitCount_0f7a4_18 ?_
  refine lv_iand hx hb dJ6_bitCount_0f7a4_21 ?_
  refine lv_iadd hx hb dJ6_bitCount_0f7a4_22 ?_
  refine lv_istore_n (lv' := [(0, .int (((a0 - ((a0.toUInt32 >>> ((1 : Int32).toUInt32 &&& Int32.toUInt32 31)).toInt32 &&& (1431655765 : Int32))) &&& (858993459 : Int32)) + (((a0 - ((a0.toUInt32 >>> ((1 : Int32).toUInt32 &&& Int32.toUInt32 31)).toInt32 &&& (1431655765 : Int32))).toUInt32 >>> ((2 : Int32).toUInt32 &&& Int32.toUInt32 31)).toInt32 &&& (858993459 : Int32))))]) hx hb dJ6_bitCount_0f7a4_23 rfl hl (by decide) rfl (fun ls hl => ?_)
  refine lv_iload_n hx hb dJ6_bitCount_0f7a4_24 rfl (lv_at hl 0 rfl) ?_
  refine lv_iload_n hx hb dJ6_bitCount_0f7a4_25 rfl (lv_at hl 0 rfl) ?_
  refine lv_iconst (v := (4 : Int32)) hx hb dJ6_bitCount_0f7a4_26 (by decide) ?_
  refine lv_iushr (v := ((((a0 - ((a0.toUInt32 >>> ((1 : Int32).toUInt32 &&& Int32.toUInt32 31)).toInt32 &&& (1431655765 : Int32))) &&& (858993459 : Int32)) + (((a0 - ((a0.toUInt32 >>> ((1 : Int32).toUInt32 &&& Int32.toUInt32 31)).toInt32 &&& (1431655765 : Int32))).toUInt32 >>> ((2 : Int32).toUInt32 &&& Int32.toUInt32 31)).toInt32 &&& (858993459 : Int32))).toUInt32 >>> ((4 : Int32).toUInt32 &&& Int32.toUInt32 31)).toInt32) hx hb dJ6_bitCount_0f7a4_27 rfl ?_
  refine lv_iadd hx hb dJ6_bitCount_0f7a4_28 ?_
  refine lv_ldcw (v := (252645135 : Int32)) hx hb hown (hts (.constant RJ6 267 (252645135 : Int32)) (by decide +kernel)) dJ6_bitCount_0f7a4_29 ?_
  refine lv_iand hx hb dJ6_bitCount_0f7a4_32 ?_
  refine lv_istore_n (lv' := [(0, .int (((((a0 - ((a0.toUInt32 >>> ((1 : Int32).toUInt32 &&& Int32.toUInt32 31)).toInt32 &&& (1431655765 : Int32))) &&& (858993459 : Int32)) + (((a0 - ((a0.toUInt32 >>> ((1 : Int32).toUInt32 &&& Int32.toUInt32 31)).toInt32 &&& (1431655765 : Int32))).toUInt32 >>> ((2 : Int32).toUInt32 &&& Int32.toUInt32 31)).toInt32 &&& (858993459 : Int32))) + ((((a0 - ((a0.toUInt32 >>> ((1 : Int32).toUInt32 &&& Int32.toUInt32 31)).toInt32 &&& (1431655765 : Int32))) &&& (858993459 : Int32)) + (((a0 - ((a0.toUInt32 >>> ((1 : Int32).toUInt32 &&& Int32.toUInt32 31)).toInt32 &&& (1431655765 : Int32))).toUInt32 >>> ((2 : Int32).toUInt32 &&& Int32.toUInt32 31)).toInt32 &&& (858993459 : Int32))).toUInt32 >>> ((4 : Int32).toUInt32 &&& Int32.toUInt32 31)).toInt32) &&& (252645135 : Int32)))]) hx hb dJ6_bitCount_0f7a4_33 rfl hl (by decide) rfl (fun ls hl => ?_)
  refine lv_iload_n hx hb dJ6_bitCount_0f7a4_34 rfl (lv_at hl 0 rfl) ?_
  refine lv_iload_n hx hb dJ6_bitCount_0f7a4_35 rfl (lv_at hl 0 rfl) ?_
  refine lv_bipush (v := (8 : Int32)) hx hb dJ6_bitCount_0f7a4_36 (by decide) ?_
  refine lv_iushr (v := ((((((a0 - ((a0.toUInt32 >>> ((1 : Int32).toUInt32 &&& Int32.toUInt32 31)).toInt32 &&& (1431655765 : Int32))) &&& (858993459 : Int32)) + (((a0 - ((a0.toUInt32 >>> ((1 : Int32).toUInt32 &&& Int32.toUInt32 31)).toInt32 &&& (1431655765 : Int32))).toUInt32 >>> ((2 : Int32).toUInt32 &&& Int32.toUInt32 31)).toInt32 &&& (858993459 : Int32))) + ((((a0 - ((a0.toUInt32 >>> ((1 : Int32).toUInt32 &&& Int32.toUInt32 31)).toInt32 &&& (1431655765 : Int32))) &&& (858993459 : Int32)) + (((a0 - ((a0.toUInt32 >>> ((1 : Int32).toUInt32 &&& Int32.toUInt32 31)).toInt32 &&& (1431655765 : Int32))).toUInt32 >>> ((2 : Int32).toUInt32 &&& Int32.toUInt32 31)).toInt32 &&& (858993459 : Int32))).toUInt32 >>> ((4 : Int32).toUInt32 &&& Int32.toUInt32 31)).toInt32) &&& (252645135 : Int32)).toUInt32 >>> ((8 : Int32).toUInt32 &&& Int32.toUInt32 31)).toInt32) hx hb dJ6_bitCount_0f7a4_38 rfl ?_
  refine lv_iadd hx hb dJ6_bitCount_0f7a4_39 ?_
  refine lv_istore_n (lv' := [(0, .int ((((((a0 - ((a0.toUInt32 >>> ((1 : Int32).toUInt32 &&& Int32.toUInt32 31)).toInt32 &&& (1431655765 : Int32))) &&& (858993459 : Int32)) + (((a0 - ((a0.toUInt32 >>> ((1 : Int32).toUInt32 &&& Int32.toUInt32 31)).toInt32 &&& (1431655765 : Int32))).toUInt32 >>> ((2 : Int32).toUInt32 &&& Int32.toUInt32 31)).toInt32 &&& (858993459 : Int32))) + ((((a0 - ((a0.toUInt32 >>> ((1 : Int32).toUInt32 &&& Int32.toUInt32 31)).toInt32 &&& (1431655765 : Int32))) &&& (858993459 : Int32)) + (((a0 - ((a0.toUInt32 >>> ((1 : Int32).toUInt32 &&& Int32.toUInt32 31)).toInt32 &&& (1431655765 : Int32))).toUInt32 >>> ((2 : Int32).toUInt32 &&& Int32.toUInt32 31)).toInt32 &&& (858993459 : Int32))).toUInt32 >>> ((4 : Int32).toUInt32 &&& Int32.toUInt32 31)).toInt32) &&& (252645135 : Int32)) + ((((((a0 - ((a0.toUInt32 >>> ((1 : Int32).toUInt32 &&& Int32.toUInt32 31)).toInt32 &&& (1431655765 : Int32))) &&& (858993459 : Int32)) + (((a0 - ((a0.toUInt32 >>> ((1 : Int32).toUInt32 &&& Int32.toUInt32 31)).toInt32 &&& (1431655765 : Int32))).toUInt32 >>> ((2 : Int32).toUInt32 &&& Int32.toUInt32 31)).toInt32 &&& (858993459 : Int32))) + ((((a0 - ((a0.toUInt32 >>> ((1 : Int32).toUInt32 &&& Int32.toUInt32 31)).toInt32 &&& (1431655765 : Int32))) &&& (858993459 : Int32)) + (((a0 - ((a0.toUInt32 >>> ((1 : Int32).toUInt32 &&& Int32.toUInt32 31)).toInt32 &&& (1431655765 : Int32))).toUInt32 >>> ((2 : Int32).toUInt32 &&& Int32.toUInt32 31)).toInt32 &&& (858993459 : Int32))).toUInt32 >>> ((4 : Int32).toUInt32 &&& Int32.toUInt32 31)).toInt32) &&& (252645135 : Int32)).toUInt32 >>> ((8 : Int32).toUInt32 &&& Int32.toUInt32 31)).toInt32))]) hx hb dJ6_bitCount_0f7a4_40 rfl hl (by decide) rfl (fun ls hl => ?_)
  refine lv_iload_n hx hb dJ6_bitCount_0f7a4_41 rfl (lv_at hl 0 rfl) ?_
  refine lv_iload_n hx hb dJ6_bitCount_0f7a4_42 rfl (lv_at hl 0 rfl) ?_
  refine lv_bipush (v := (16 : Int32)) hx hb dJ6_bitCount_0f7a4_43 (by decide) ?_
  refine lv_iushr (v := (((((((a0 - ((a0.toUInt32 >>> ((1 : Int32).toUInt32 &&& Int32.toUInt32 31)).toInt32 &&& (1431655765 : Int32))) &&& (858993459 : Int32)) + (((a0 - ((a0.toUInt32 >>> ((1 : Int32).toUInt32 &&& Int32.toUInt32 31)).toInt32 &&& (1431655765 : Int32))).toUInt32 >>> ((2 : Int32).toUInt32 &&& Int32.toUInt32 31)).toInt32 &&& (858993459 : Int32))) + ((((a0 - ((a0.toUInt32 >>> ((1 : Int32).toUInt32 &&& Int32.toUInt32 31)).toInt32 &&& (1431655765 : Int32))) &&& (858993459 : Int32)) + (((a0 - ((a0.toUInt32 >>> ((1 : Int32).toUInt32 &&& Int32.toUInt32 31)).toInt32 &&& (1431655765 : Int32))).toUInt32 >>> ((2 : Int32).toUInt32 &&& Int32.toUInt32 31)).toInt32 &&& (858993459 : Int32))).toUInt32 >>> ((4 : Int32).toUInt32 &&& Int32.toUInt32 31)).toInt32) &&& (252645135 : Int32)) + ((((((a0 - ((a0.toUInt32 >>> ((1 : Int32).toUInt32 &&& Int32.toUInt32 31)).toInt32 &&& (1431655765 : Int32))) &&& (858993459 : Int32)) + (((a0 - ((a0.toUInt32 >>> ((1 : Int32).toUInt32 &&& Int32.toUInt32 31)).toInt32 &&& (1431655765 : Int32))).toUInt32 >>> ((2 : Int32).toUInt32 &&& Int32.toUInt32 31)).toInt32 &&& (858993459 : Int32))) + ((((a0 - ((a0.toUInt32 >>> ((1 : Int32).toUInt32 &&& Int32.toUInt32 31)).toInt32 &&& (1431655765 : Int32))) &&& (858993459 : Int32)) + (((a0 - ((a0.toUInt32 >>> ((1 : Int32).toUInt32 &&& Int32.toUInt32 31)).toInt32 &&& (1431655765 : Int32))).toUInt32 >>> ((2 : Int32).toUInt32 &&& Int32.toUInt32 31)).toInt32 &&& (858993459 : Int32))).toUInt32 >>> ((4 : Int32).toUInt32 &&& Int32.toUInt32 31)).toInt32) &&& (252645135 : Int32)).toUInt32 >>> ((8 : Int32).toUInt32 &&& Int32.toUInt32 31)).toInt32).toUInt32 >>> ((16 : Int32).toUInt32 &&& Int32.toUInt32 31)).toInt32) hx hb dJ6_bitCount_0f7a4_45 rfl ?_
  refine lv_iadd hx hb dJ6_bitCount_0f7a4_46 ?_
  refine lv_istore_n (lv' := [(0, .int (((((((a0 - ((a0.toUInt32 >>> ((1 : Int32).toUInt32 &&& Int32.toUInt32 31)).toInt32 &&& (1431655765 : Int32))) &&& (858993459 : Int32)) + (((a0 - ((a0.toUInt32 >>> ((1 : Int32).toUInt32 &&& Int32.toUInt32 31)).toInt32 &&& (1431655765 : Int32))).toUInt32 >>> ((2 : Int32).toUInt32 &&& Int32.toUInt32 31)).toInt32 &&& (858993459 : Int32))) + ((((a0 - ((a0.toUInt32 >>> ((1 : Int32).toUInt32 &&& Int32.toUInt32 31)).toInt32 &&& (1431655765 : Int32))) &&& (858993459 : Int32)) + (((a0 - ((a0.toUInt32 >>> ((1 : Int32).toUInt32 &&& Int32.toUInt32 31)).toInt32 &&& (1431655765 : Int32))).toUInt32 >>> ((2 : Int32).toUInt32 &&& Int32.toUInt32 31)).toInt32 &&& (858993459 : Int32))).toUInt32 >>> ((4 : Int32).toUInt32 &&& Int32.toUInt32 31)).toInt32) &&& (252645135 : Int32)) + ((((((a0 - ((a0.toUInt32 >>> ((1 : Int32).toUInt32 &&& Int32.toUInt32 31)).toInt32 &&& (1431655765 : Int32))) &&& (858993459 : Int32)) + (((a0 - ((a0.toUInt32 >>> ((1 : Int32).toUInt32 &&& Int32.toUInt32 31)).toInt32 &&& (1431655765 : Int32))).toUInt32 >>> ((2 : Int32).toUInt32 &&& Int32.toUInt32 31)).toInt32 &&& (858993459 : Int32))) + ((((a0 - ((a0.toUInt32 >>> ((1 : Int32).toUInt32 &&& Int32.toUInt32 31)).toInt32 &&& (1431655765 : Int32))) &&& (858993459 : Int32)) + (((a0 - ((a0.toUInt32 >>> ((1 : Int32).toUInt32 &&& Int32.toUInt32 31)).toInt32 &&& (1431655765 : Int32))).toUInt32 >>> ((2 : Int32).toUInt32 &&& Int32.toUInt32 31)).toInt32 &&& (858993459 : Int32))).toUInt32 >>> ((4 : Int32).toUInt32 &&& Int32.toUInt32 31)).toInt32) &&& (252645135 : Int32)).toUInt32 >>> ((8 : Int32).toUInt32 &&& Int32.toUInt32 31)).toInt32) + (((((((a0 - ((a0.toUInt32 >>> ((1 : Int32).toUInt32 &&& Int32.toUInt32 31)).toInt32 &&& (1431655765 : Int32))) &&& (858993459 : Int32)) + (((a0 - ((a0.toUInt32 >>> ((1 : Int32).toUInt32 &&& Int32.toUInt32 31)).toInt32 &&& (1431655765 : Int32))).toUInt32 >>> ((2 : Int32).toUInt32 &&& Int32.toUInt32 31)).toInt32 &&& (858993459 : Int32))) + ((((a0 - ((a0.toUInt32 >>> ((1 : Int32).toUInt32 &&& Int32.toUInt32 31)).toInt32 &&& (1431655765 : Int32))) &&& (858993459 : Int32)) + (((a0 - ((a0.toUInt32 >>> ((1 : Int32).toUInt32 &&& Int32.toUInt32 31)).toInt32 &&& (1431655765 : Int32))).toUInt32 >>> ((2 : Int32).toUInt32 &&& Int32.toUInt32 31)).toInt32 &&& (858993459 : Int32))).toUInt32 >>> ((4 : Int32).toUInt32 &&& Int32.toUInt32 31)).toInt32) &&& (252645135 : Int32)) + ((((((a0 - ((a0.toUInt32 >>> ((1 : Int32).toUInt32 &&& Int32.toUInt32 31)).toInt32 &&& (1431655765 : Int32))) &&& (858993459 : Int32)) + (((a0 - ((a0.toUInt32 >>> ((1 : Int32).toUInt32 &&& Int32.toUInt32 31)).toInt32 &&& (1431655765 : Int32))).toUInt32 >>> ((2 : Int32).toUInt32 &&& Int32.toUInt32 31)).toInt32 &&& (858993459 : Int32))) + ((((a0 - ((a0.toUInt32 >>> ((1 : Int32).toUInt32 &&& Int32.toUInt32 31)).toInt32 &&& (1431655765 : Int32))) &&& (858993459 : Int32)) + (((a0 - ((a0.toUInt32 >>> ((1 : Int32).toUInt32 &&& Int32.toUInt32 31)).toInt32 &&& (1431655765 : Int32))).toUInt32 >>> ((2 : Int32).toUInt32 &&& Int32.toUInt32 31)).toInt32 &&& (858993459 : Int32))).toUInt32 >>> ((4 : Int32).toUInt32 &&& Int32.toUInt32 31)).toInt32) &&& (252645135 : Int32)).toUInt32 >>> ((8 : Int32).toUInt32 &&& Int32.toUInt32 31)).toInt32).toUInt32 >>> ((16 : Int32).toUInt32 &&& Int32.toUInt32 31)).toInt32))]) hx hb dJ6_bitCount_0f7a4_47 rfl hl (by decide) rfl (fun ls hl => ?_)
  refine lv_iload_n hx hb dJ6_bitCount_0f7a4_48 rfl (lv_at hl 0 rfl) ?_
  refine lv_bipush (v := (63 : Int32)) hx hb dJ6_bitCount_0f7a4_49 (by decide) ?_
  refine lv_iand hx hb dJ6_bitCount_0f7a4_51 ?_
  exact W.iret hx hb hr (fun t ht _ => ⟨_, rfl, Option.some.inj hrun, ht⟩) (fun _ h => by cases h) dJ6_bitCount_0f7a4_52
set_option maxHeartbeats 4000000 in
set_option maxRecDepth 100000 in
theorem tJ7_fill_53178 (l : Launch) (dC : Nat → ClassId) (dI : Nat → Nat → Nat) (sz : Nat) (h0 : Nat) (k0 : ClassId) (n0 : Nat) (N : Nat) (a1 : Int32) (c0 : Nat → Int32) (ru : (Nat → Int32)) (hm : fJ7_fill_53178 N n0 a1 c0 = some ru) : Met l yJ7_fill_53178 wsJ7_fill_53178 ({ frames := 0, cells := 0, slots := 0, locals := 0 } : Room) (va_Pc [.ref h0, .int a1] (fun U => U.heap.size = sz ∧ va_P (dC, dI) vwCl [(h0, .inl (k0, n0, .inl c0))] U.heap ∧ va_K (dC, dI) vwCl [(k0, .int)] U ∧ va_D (fun _ => True) [(h0, .inl (k0, n0, .inl c0))])) (va_Qv (fun (_ : Unit) => True) (fun (_ : Unit) t => va_P (dC, dI) vwCl [(h0, .inl (k0, n0, .inl ru))] t.heap ∧ va_K (dC, dI) vwCl [(k0, .int)] t ∧ va_D (va_A [(h0, .inl (k0, n0, .inl c0))] sz) [(h0, .inl (k0, n0, .inl ru))]) (va_A [(h0, .inl (k0, n0, .inl c0))] sz)) 0 0 (va_A [(h0, .inl (k0, n0, .inl c0))] sz) := by
  refine Met.ofW (cc := cJ7_fill_53178) (maxL := 4) (ret := none) (by decide) rfl ?_
  intro p e s m args below meth c s₁ B hml hv
  obtain ⟨rfl, hsz, hP, hK, hD0⟩ := hv
  have hx := B.exec
  have hb := B.bytes
  have hr := B.returns
  have hts := atoms_spec (ws := wsJ7_fill_53178) B.pre
  have hown : s.vm.findClass RJ7 = some m.cls := findClass_of_methodNamed B.named
  have hlocks := B.notSynchronized
  subst hsz
  have hD := hD0.self (sz := s.heap.size)
  generalize hAe : va_A [(h0, .inl (k0, n0, .inl c0))] s.heap.size = A at hD ⊢
  have hA : ∀ q : Nat, s.heap.size ≤ q → A q := fun q h => by rw [← hAe]; exact Or.inr h
  have hS : va_S A s.heap s.heap [] := va_S.rf
  have hl := lv_entry ([.ref h0, .int a1]) (n := 4) (Nat.le_of_ble_eq_true rfl)
  rw [lg_entry_eq]
  generalize (lg_sl ([.ref h0, .int a1]) ++ List.replicate (4 - (lg_sl ([.ref h0, .int a1])).length) Slot.unset).toArray = ls at hl ⊢
  have hl : lv_has ls 4 [(0, .ref h0), (1, .int a1)] := hl
  have hrun := hm
  rw [fJ7_fill_53178] at hrun
  obtain ⟨H, hHe⟩ : ∃ H, H = s.heap := ⟨_, rfl⟩
  obtain ⟨locs, hLe⟩ : ∃ locs : List Loc, locs = [] := ⟨_, rfl⟩
  rw [← hHe] at hP
  have hS : va_S A s.heap H locs := by rw [hHe, hLe]; exact hS
  have key : W p l e (headSpec wsJ7_fill_53178 ({ frames := 0, cells := 0, slots := 0, locals := 0 } : Room)).room s m ([.ref h0, .int a1] : List Value).toArray below meth c H locs 0 0 (MQ below (va_Qv (fun (_ : Unit) => True) (fun (_ : Unit) t => va_P (dC, dI) vwCl [(h0, .inl (k0, n0, .inl ru))] t.heap ∧ va_K (dC, dI) vwCl [(k0, .int)] t ∧ va_D A [(h0, .inl (k0, n0, .inl ru))]) A) ([.ref h0, .int a1] : List Value).toArray s 0 0 A) (F0 m 0 ls []) := by
    clear hHe hLe
    refine lv_iconst (v := (0 : Int32)) hx hb dJ7_fill_53178_0 (by decide) ?_
    refine lv_istore_n (lv' := [(2, .int (0 : Int32)), (0, .ref h0), (1, .int a1)]) hx hb dJ7_fill_53178_1 rfl hl (by decide) rfl (fun ls hl => ?_)
    refine lv_aload_n hx hb dJ7_fill_53178_2 rfl (lv_at hl 1 rfl) ?_
    refine va_alen (v := (Int32.ofNat n0)) hx hb hK hP 0 0 rfl rfl (by first | rfl | decide) dJ7_fill_53178_3 ?_
    refine lv_istore_n (lv' := [(3, .int (Int32.ofNat n0)), (2, .int (0 : Int32)), (0, .ref h0), (1, .int a1)]) hx hb dJ7_fill_53178_4 rfl hl (by decide) rfl (fun ls hl => ?_)
    obtain ⟨k20, ek20, hrun⟩ := jn_e hrun
    have J20 : ∀ (c0_20 : Nat → Int32) (ls : Array Slot) (H : Heap) (locs : List Loc), k20 c0_20 = some ru → va_P (dC, dI) vwCl [(h0, .inl (k0, n0, .inl c0_20))] H → va_D A [(h0, .inl (k0, n0, .inl c0_20))] → va_S A s.heap H locs → lv_has ls 4 [] → W p l e (headSpec wsJ7_fill_53178 ({ frames := 0, cells := 0, slots := 0, locals := 0 } : Room)).room s m ([.ref h0, .int a1] : List Value).toArray below meth c H locs 0 0 (MQ below (va_Qv (fun (_ : Unit) => True) (fun (_ : Unit) t => va_P (dC, dI) vwCl [(h0, .inl (k0, n0, .inl ru))] t.heap ∧ va_K (dC, dI) vwCl [(k0, .int)] t ∧ va_D A [(h0, .inl (k0, n0, .inl ru))]) A) ([.ref h0, .int a1] : List Value).toArray s 0 0 A) (F0 m 20 ls []) := by
      intro c0_20 ls H locs hrun hP hD hS hl
      rw [ek20] at hrun
      rw [← Option.some.inj hrun]
      have hP9 : va_P (dC, dI) vwCl [(h0, .inl (k0, n0, .inl c0_20))] H := hP
      have hD9 : va_D A [(h0, .inl (k0, n0, .inl c0_20))] := hD
      exact W.vret hx hb hr (fun t ht hW => ⟨⟨(), rfl, trivial, by rw [ht]; exact hP9, va_K.moved hW.alike hK, hD9⟩, hS.F ht⟩) hS.2.2 dJ7_fill_53178_20
    have L5 : ∀ (n : Nat) (x2_5 : Int32) (c0_5 : Nat → Int32) (ls : Array Slot) (H : Heap) (locs : List Loc), fJ7_fill_53178_p5 N n0 a1 ((Int32.ofNat n0)) k20 n x2_5 c0_5 = some ru → va_P (dC, dI) vwCl [(h0, .inl (k0, n0, .inl c0_5))] H → va_D A [(h0, .inl (k0, n0, .inl c0_5))] → va_S A s.heap H locs → lv_has ls 4 [(0, .ref h0), (1, .int a1), (2, .int x2_5), (3, .int (Int32.ofNat n0))] → W p l e (headSpec wsJ7_fill_53178 ({ frames := 0, cells := 0, slots := 0, locals := 0 } : Room)).room s m ([.ref h0, .int a1] : List Value).toArray below meth c H locs 0 0 (MQ below (va_Qv (fun (_ : Unit) => True) (fun (_ : Unit) t => va_P (dC, dI) vwCl [(h0, .inl (k0, n0, .inl ru))] t.heap ∧ va_K (dC, dI) vwCl [(k0, .int)] t ∧ va_D A [(h0, .inl (k0, n0, .inl ru))]) A) ([.ref h0, .int a1] : List Value).toArray s 0 0 A) (F0 m 5 ls []) := by
      intro n
      induction n with
      | zero => intro x2_5 c0_5 ls H locs hrun; rw [fJ7_fill_53178_p5] at hrun; exact on_e hrun
      | succ n ih =>
        intro x2_5 c0_5 ls H locs hrun hP hD hS hl
        rw [fJ7_fill_53178_p5] at hrun
        refine lv_iload_n hx hb dJ7_fill_53178_5 rfl (lv_at hl 2 rfl) ?_
        refine lv_iload_n hx hb dJ7_fill_53178_6 rfl (lv_at hl 3 rfl) ?_
        refine lv_icmp_ge (tgt := 20) hx hb dJ7_fill_53178_7 (by decide) (fun cc => ?_) (fun cc => ?_)
        · have hrun := oi_t hrun cc
          exact J20 c0_5 ls H locs hrun hP hD hS (lv_sub hl [] rfl)
        · have hrun := oi_f hrun cc
          refine lv_aload_n hx hb dJ7_fill_53178_10 rfl (lv_at hl 0 rfl) ?_
          refine lv_iload_n hx hb dJ7_fill_53178_11 rfl (lv_at hl 2 rfl) ?_
          refine lv_iload_n hx hb dJ7_fill_53178_12 rfl (lv_at hl 1 rfl) ?_
          obtain ⟨hi, hrun⟩ := oi_x hrun
          refine va_iast hx hb hK hP hD hS 0 0 rfl rfl hi dJ7_fill_53178_13 (fun H locs hP hD hS => ?_)
          have hP : va_P (dC, dI) vwCl [(h0, .inl (k0, n0, .inl (upd c0_5 x2_5.toNatClampNeg a1)))] H := hP
          have hD : va_D A [(h0, .inl (k0, n0, .inl (upd c0_5 x2_5.toNatClampNeg a1)))] := hD
          refine lv_iinc (v := (x2_5 + (1 : Int32))) (lv' := [(2, .int (x2_5 + (1 : Int32))), (0, .ref h0), (1, .int a1), (3, .int (Int32.ofNat n0))]) hx hb dJ7_fill_53178_14 hl (k := 2) rfl rfl (by decide) rfl (fun ls hl => ?_)
          refine lv_goto (tgt := 5) hx hb dJ7_fill_53178_17 (by decide) ?_
          exact ih ((x2_5 + (1 : Int32))) ((upd c0_5 x2_5.toNatClampNeg a1)) ls H locs hrun hP hD hS (lv_sub hl [1, 2, 0, 3] rfl)
    exact L5 N ((0 : Int32)) c0 ls H locs hrun hP hD hS (lv_sub hl [2, 3, 1, 0] rfl)
  rw [hHe, hLe] at key
  exact key
set_option maxHeartbeats 4000000 in
set_option maxRecDepth 100000 in
theorem tX8_part (l : Launch) (dC : Nat → ClassId) (dI : Nat → Nat → Nat) (h0 h1 : Nat) (k1 : ClassId) (g0_start g0_left : Value) (N : Nat) (a1 : Int32) (a2 : Int32) (v0_amount : Int32) (c1 : Nat → Int32) (ru : Int32) (hm : fX8_part N a1 a2 v0_amount c1 = some ru) : Met l yX8_part wsX8_part ({ frames := 0, cells := 0, slots := 0, locals := 0 } : Room) (va_Pc [.ref h0, .int a1, .int a2] (fun U => va_P (dC, dI) vwCl [(h0, .inr (8, [g0_start, .ref h1, .int v0_amount, g0_left])), (h1, .inl (k1, 180, .inl c1))] U.heap ∧ va_K (dC, dI) vwCl [(k1, .int)] U)) (vp_Si (fun r => r = ru)) 0 0 (fun _ => False) := by
  refine Met.ofW (cc := cX8_part) (maxL := 4) (ret := (some .int)) (by decide) rfl ?_
  intro p e s m args below meth c s₁ B hml hv
  obtain ⟨rfl, hP, hK⟩ := hv
  have hx := B.exec
  have hb := B.bytes
  have hr := B.returns
  have hts := atoms_spec (ws := wsX8_part) B.pre
  have hown : s.vm.findClass RX8 = some m.cls := findClass_of_methodNamed B.named
  have hlocks := B.notSynchronized
  have hinX8 : ∀ w ∈ wsX80, w ∈ wsX8_part := by decide +kernel
  have hl := lv_entry ([.ref h0, .int a1, .int a2]) (n := 4) (Nat.le_of_ble_eq_true rfl)
  rw [lg_entry_eq]
  generalize (lg_sl ([.ref h0, .int a1, .int a2]) ++ List.replicate (4 - (lg_sl ([.ref h0, .int a1, .int a2])).length) Slot.unset).toArray = ls at hl ⊢
  have hl : lv_has ls 4 [(0, .ref h0), (1, .int a1), (2, .int a2)] := hl
  have hrun := hm
  rw [fX8_part] at hrun
  refine lv_iload_n hx hb dX8_part_0 rfl (lv_at hl 1 rfl) ?_
  refine lv_bipush (v := (6 : Int32)) hx hb dX8_part_1 (by decide) ?_
  refine lv_imul hx hb dX8_part_3 ?_
  refine lv_iload_n hx hb dX8_part_4 rfl (lv_at hl 2 rfl) ?_
  refine lv_iadd hx hb dX8_part_5 ?_
  refine lv_istore_n (lv' := [(3, .int ((a1 * (6 : Int32)) + a2)), (0, .ref h0), (1, .int a1), (2, .int a2)]) hx hb dX8_part_6 rfl hl (by decide) rfl (fun ls hl => ?_)
  refine lv_iload_n hx hb dX8_part_7 rfl (lv_at hl 2 rfl) ?_
  refine lv_if_lt (tgt := 37) hx hb dX8_part_8 (by decide) (fun cc => ?_) (fun cc => ?_)
  · have hrun := oi_t hrun cc
    refine lv_iconst (v := (0 : Int32)) hx hb dX8_part_37 (by decide) ?_
    exact W.iret hx hb hr (fun t ht _ => ⟨_, rfl, Option.some.inj hrun, ht⟩) (fun _ h => by cases h) dX8_part_38
  · have hrun := oi_f hrun cc
    refine lv_iload_n hx hb dX8_part_11 rfl (lv_at hl 2 rfl) ?_
    refine lv_aload_n hx hb dX8_part_12 rfl (lv_at hl 1 rfl) ?_
    refine va_get (D := (dC, dI)) (ci := 8) (v := .int v0_amount) (C := RX8) (T := TX8) (N := 4) hx hb hts hinX8 hown hK hP 0 rfl rfl 2 (by decide) (hts (.fieldLink RX8 32 "WasItOut$World" "amount" "I") (by decide +kernel)) (fun _ h9 => h9) rfl dX8_part_13 ?_
    refine lv_icmp_ge (tgt := 37) hx hb dX8_part_16 (by decide) (fun cc => ?_) (fun cc => ?_)
    · have hrun := oi_t hrun cc
      refine lv_iconst (v := (0 : Int32)) hx hb dX8_part_37 (by decide) ?_
      exact W.iret hx hb hr (fun t ht _ => ⟨_, rfl, Option.some.inj hrun, ht⟩) (fun _ h => by cases h) dX8_part_38
    · have hrun := oi_f hrun cc
      refine lv_iload_n hx hb dX8_part_19 rfl (lv_at hl 0 rfl) ?_
      refine lv_aload_n hx hb dX8_part_20 rfl (lv_at hl 1 rfl) ?_
      refine va_get (D := (dC, dI)) (ci := 8) (v := .ref h1) (C := RX8) (T := TX8) (N := 4) hx hb hts hinX8 hown hK hP 0 rfl rfl 1 (by decide) (hts (.fieldLink RX8 15 "WasItOut$World" "rows" "[I") (by decide +kernel)) (fun _ h9 => h9) rfl dX8_part_21 ?_
      refine va_alen (v := (180 : Int32)) hx hb hK hP 1 0 rfl rfl (by first | rfl | decide) dX8_part_24 ?_
      refine lv_icmp_ge (tgt := 37) hx hb dX8_part_25 (by decide) (fun cc => ?_) (fun cc => ?_)
      · have hrun := oi_t hrun cc
        refine lv_iconst (v := (0 : Int32)) hx hb dX8_part_37 (by decide) ?_
        exact W.iret hx hb hr (fun t ht _ => ⟨_, rfl, Option.some.inj hrun, ht⟩) (fun _ h => by cases h) dX8_part_38
      · have hrun := oi_f hrun cc
        refine lv_aload_n hx hb dX8_part_28 rfl (lv_at hl 1 rfl) ?_
        refine va_get (D := (dC, dI)) (ci := 8) (v := .ref h1) (C := RX8) (T := TX8) (N := 4) hx hb hts hinX8 hown hK hP 0 rfl rfl 1 (by decide) (hts (.fieldLink RX8 15 "WasItOut$World" "rows" "[I") (by decide +kernel)) (fun _ h9 => h9) rfl dX8_part_29 ?_
        refine lv_iload_n hx hb dX8_part_32 rfl (lv_at hl 0 rfl) ?_
        obtain ⟨hi, hrun⟩ := oi_x hrun
        refine va_iald hx hb hK hP 1 0 rfl rfl hi dX8_part_33 ?_
        refine lv_goto (tgt := 38) hx hb dX8_part_34 (by decide) ?_
        exact W.iret hx hb hr (fun t ht _ => ⟨_, rfl, Option.some.inj hrun, ht⟩) (fun _ h => by cases h) dX8_part_38
set_option maxHeartbeats 4000000 in
set_option maxRecDepth 100000 in
theorem tX8_isBlur (l : Launch) (dC : Nat → ClassId) (dI : Nat → Nat → Nat) (h0 h1 : Nat) (k1 : ClassId) (g0_start g0_left : Value) (N : Nat) (a1 : Int32) (v0_amount : Int32) (c1 : Nat → Int32) (ru : Int32) (hm : fX8_isBlur N a1 v0_amount c1 = some ru) : Met l yX8_isBlur wsX8_isBlur ({ frames := 1, cells := 0, slots := 0, locals := 23 } : Room) (va_Pc [.ref h0, .int a1] (fun U => va_P (dC, dI) vwCl [(h0, .inr (8, [g0_start, .ref h1, .int v0_amount, g0_left])), (h1, .inl (k1, 180, .inl c1))] U.heap ∧ va_K (dC, dI) vwCl [(k1, .int)] U)) (vp_Si (fun r => r = ru ∧ narrow .boolean (.int r) = .int r)) 0 0 (fun _ => False) := by
  refine Met.ofW (cc := cX8_isBlur) (maxL := 2) (ret := (some .boolean)) (by decide) rfl ?_
  intro p e s m args below meth c s₁ B hml hv
  obtain ⟨rfl, hP, hK⟩ := hv
  have hx := B.exec
  have hb := B.bytes
  have hr := B.returns
  have hts := atoms_spec (ws := wsX8_isBlur) B.pre
  have hown : s.vm.findClass RX8 = some m.cls := findClass_of_methodNamed B.named
  have hlocks := B.notSynchronized
  have hl := lv_entry ([.ref h0, .int a1]) (n := 2) (Nat.le_of_ble_eq_true rfl)
  rw [lg_entry_eq]
  generalize (lg_sl ([.ref h0, .int a1]) ++ List.replicate (2 - (lg_sl ([.ref h0, .int a1])).length) Slot.unset).toArray = ls at hl ⊢
  have hl : lv_has ls 2 [(0, .ref h0), (1, .int a1)] := hl
  have hrun := hm
  rw [fX8_isBlur] at hrun
  refine lv_aload_n hx hb dX8_isBlur_0 rfl (lv_at hl 0 rfl) ?_
  refine lv_iload_n hx hb dX8_isBlur_1 rfl (lv_at hl 1 rfl) ?_
  refine lv_iconst (v := (0 : Int32)) hx hb dX8_isBlur_2 (by decide) ?_
  obtain ⟨q3, hc3, hrun⟩ := ob_e hrun
  refine wz_csi (va_runV (As := [.int a1, .int (0 : Int32)]) (rest := []) ⟨hx, hb, hml, hown, hts⟩ (tX8_part l dC dI h0 h1 k1 (g0_start) (g0_left) N a1 ((0 : Int32)) v0_amount c1 q3 hc3) (cwV 2 hts gX8_isBlur_X8_part rfl rfl rfl (by decide +kernel) ⟨Nat.le_of_ble_eq_true rfl, Nat.le_of_ble_eq_true rfl⟩) (wz_pVr (hP.sub (ws' := [(h0, .inr (8, [g0_start, .ref h1, .int v0_amount, g0_left])), (h1, .inl (k1, 180, .inl c1))]) [0, 1] rfl) (hK.sub (tys' := [(k1, .int)]) [0] rfl) (va_recv hK hP (ci := 8) (q0 := 0) rfl rfl)) rfl rfl hl.1 rfl (lv_room (Nat.le_of_ble_eq_true rfl)) dX8_isBlur_3 ⟨Nat.zero_le _, Nat.zero_le _⟩) ?_
  refine lv_if_ne (tgt := 13) hx hb dX8_isBlur_6 (by decide) (fun cc => ?_) (fun cc => ?_)
  · have hrun := oi_t hrun cc
    refine lv_iconst (v := (0 : Int32)) hx hb dX8_isBlur_13 (by decide) ?_
    exact W.zret hx hb hr (by rfl) (fun t ht _ => ⟨_, rfl, ⟨Option.some.inj hrun, (by rfl)⟩, ht⟩) (fun _ h => by cases h) dX8_isBlur_14
  · have hrun := oi_n hrun cc
    refine lv_iconst (v := (1 : Int32)) hx hb dX8_isBlur_9 (by decide) ?_
    refine lv_goto (tgt := 14) hx hb dX8_isBlur_10 (by decide) ?_
    exact W.zret hx hb hr (by rfl) (fun t ht _ => ⟨_, rfl, ⟨Option.some.inj hrun, (by rfl)⟩, ht⟩) (fun _ h => by cases h) dX8_isBlur_14
set_option maxHeartbeats 4000000 in
set_option maxRecDepth 100000 in
theorem tX8_firstOf (l : Launch) (dC : Nat → ClassId) (dI : Nat → Nat → Nat) (h0 h1 : Nat) (k1 : ClassId) (g0_start g0_left : Value) (N : Nat) (a1 : Int32) (v0_amount : Int32) (c1 : Nat → Int32) (ru : Int32) (hm : fX8_firstOf N a1 v0_amount c1 = some ru) : Met l yX8_firstOf wsX8_firstOf ({ frames := 1, cells := 0, slots := 0, locals := 23 } : Room) (va_Pc [.ref h0, .int a1] (fun U => va_P (dC, dI) vwCl [(h0, .inr (8, [g0_start, .ref h1, .int v0_amount, g0_left])), (h1, .inl (k1, 180, .inl c1))] U.heap ∧ va_K (dC, dI) vwCl [(k1, .int)] U)) (vp_Si (fun r => r = ru)) 0 0 (fun _ => False) := by
  refine Met.ofW (cc := cX8_firstOf) (maxL := 2) (ret := (some .int)) (by decide) rfl ?_
  intro p e s m args below meth c s₁ B hml hv
  obtain ⟨rfl, hP, hK⟩ := hv
  have hx := B.exec
  have hb := B.bytes
  have hr := B.returns
  have hts := atoms_spec (ws := wsX8_firstOf) B.pre
  have hown : s.vm.findClass RX8 = some m.cls := findClass_of_methodNamed B.named
  have hlocks := B.notSynchronized
  have hl := lv_entry ([.ref h0, .int a1]) (n := 2) (Nat.le_of_ble_eq_true rfl)
  rw [lg_entry_eq]
  generalize (lg_sl ([.ref h0, .int a1]) ++ List.replicate (2 - (lg_sl ([.ref h0, .int a1])).length) Slot.unset).toArray = ls at hl ⊢
  have hl : lv_has ls 2 [(0, .ref h0), (1, .int a1)] := hl
  have hrun := hm
  rw [fX8_firstOf] at hrun
  refine lv_aload_n hx hb dX8_firstOf_0 rfl (lv_at hl 0 rfl) ?_
  refine lv_iload_n hx hb dX8_firstOf_1 rfl (lv_at hl 1 rfl) ?_
  refine lv_iconst (v := (1 : Int32)) hx hb dX8_firstOf_2 (by decide) ?_
  obtain ⟨q3, hc3, hrun⟩ := ob_e hrun
  refine wz_csi (va_runV (As := [.int a1, .int (1 : Int32)]) (rest := []) ⟨hx, hb, hml, hown, hts⟩ (tX8_part l dC dI h0 h1 k1 (g0_start) (g0_left) N a1 ((1 : Int32)) v0_amount c1 q3 hc3) (cwV 2 hts gX8_firstOf_X8_part rfl rfl rfl (by decide +kernel) ⟨Nat.le_of_ble_eq_true rfl, Nat.le_of_ble_eq_true rfl⟩) (wz_pVr (hP.sub (ws' := [(h0, .inr (8, [g0_start, .ref h1, .int v0_amount, g0_left])), (h1, .inl (k1, 180, .inl c1))]) [0, 1] rfl) (hK.sub (tys' := [(k1, .int)]) [0] rfl) (va_recv hK hP (ci := 8) (q0 := 0) rfl rfl)) rfl rfl hl.1 rfl (lv_room (Nat.le_of_ble_eq_true rfl)) dX8_firstOf_3 ⟨Nat.zero_le _, Nat.zero_le _⟩) ?_
  exact W.iret hx hb hr (fun t ht _ => ⟨_, rfl, Option.some.inj hrun, ht⟩) (fun _ h => by cases h) dX8_firstOf_6
set_option maxHeartbeats 4000000 in
set_option maxRecDepth 100000 in
theorem tX8_tickOf (l : Launch) (dC : Nat → ClassId) (dI : Nat → Nat → Nat) (h0 h1 : Nat) (k1 : ClassId) (g0_start g0_left : Value) (N : Nat) (a1 : Int32) (v0_amount : Int32) (c1 : Nat → Int32) (ru : Int32) (hm : fX8_tickOf N a1 v0_amount c1 = some ru) : Met l yX8_tickOf wsX8_tickOf ({ frames := 1, cells := 0, slots := 0, locals := 23 } : Room) (va_Pc [.ref h0, .int a1] (fun U => va_P (dC, dI) vwCl [(h0, .inr (8, [g0_start, .ref h1, .int v0_amount, g0_left])), (h1, .inl (k1, 180, .inl c1))] U.heap ∧ va_K (dC, dI) vwCl [(k1, .int)] U)) (vp_Si (fun r => r = ru)) 0 0 (fun _ => False) := by
  refine Met.ofW (cc := cX8_tickOf) (maxL := 2) (ret := (some .int)) (by decide) rfl ?_
  intro p e s m args below meth c s₁ B hml hv
  obtain ⟨rfl, hP, hK⟩ := hv
  have hx := B.exec
  have hb := B.bytes
  have hr := B.returns
  have hts := atoms_spec (ws := wsX8_tickOf) B.pre
  have hown : s.vm.findClass RX8 = some m.cls := findClass_of_methodNamed B.named
  have hlocks := B.notSynchronized
  have hl := lv_entry ([.ref h0, .int a1]) (n := 2) (Nat.le_of_ble_eq_true rfl)
  rw [lg_entry_eq]
  generalize (lg_sl ([.ref h0, .int a1]) ++ List.replicate (2 - (lg_sl ([.ref h0, .int a1])).length) Slot.unset).toArray = ls at hl ⊢
  have hl : lv_has ls 2 [(0, .ref h0), (1, .int a1)] := hl
  have hrun := hm
  rw [fX8_tickOf] at hrun
  refine lv_aload_n hx hb dX8_tickOf_0 rfl (lv_at hl 0 rfl) ?_
  refine lv_iload_n hx hb dX8_tickOf_1 rfl (lv_at hl 1 rfl) ?_
  refine lv_iconst (v := (3 : Int32)) hx hb dX8_tickOf_2 (by decide) ?_
  obtain ⟨q3, hc3, hrun⟩ := ob_e hrun
  refine wz_csi (va_runV (As := [.int a1, .int (3 : Int32)]) (rest := []) ⟨hx, hb, hml, hown, hts⟩ (tX8_part l dC dI h0 h1 k1 (g0_start) (g0_left) N a1 ((3 : Int32)) v0_amount c1 q3 hc3) (cwV 2 hts gX8_tickOf_X8_part rfl rfl rfl (by decide +kernel) ⟨Nat.le_of_ble_eq_true rfl, Nat.le_of_ble_eq_true rfl⟩) (wz_pVr (hP.sub (ws' := [(h0, .inr (8, [g0_start, .ref h1, .int v0_amount, g0_left])), (h1, .inl (k1, 180, .inl c1))]) [0, 1] rfl) (hK.sub (tys' := [(k1, .int)]) [0] rfl) (va_recv hK hP (ci := 8) (q0 := 0) rfl rfl)) rfl rfl hl.1 rfl (lv_room (Nat.le_of_ble_eq_true rfl)) dX8_tickOf_3 ⟨Nat.zero_le _, Nat.zero_le _⟩) ?_
  exact W.iret hx hb hr (fun t ht _ => ⟨_, rfl, Option.some.inj hrun, ht⟩) (fun _ h => by cases h) dX8_tickOf_6
set_option maxHeartbeats 4000000 in
set_option maxRecDepth 100000 in
theorem tX8_secondOf (l : Launch) (dC : Nat → ClassId) (dI : Nat → Nat → Nat) (h0 h1 : Nat) (k1 : ClassId) (g0_start g0_left : Value) (N : Nat) (a1 : Int32) (v0_amount : Int32) (c1 : Nat → Int32) (ru : Int32) (hm : fX8_secondOf N a1 v0_amount c1 = some ru) : Met l yX8_secondOf wsX8_secondOf ({ frames := 1, cells := 0, slots := 0, locals := 23 } : Room) (va_Pc [.ref h0, .int a1] (fun U => va_P (dC, dI) vwCl [(h0, .inr (8, [g0_start, .ref h1, .int v0_amount, g0_left])), (h1, .inl (k1, 180, .inl c1))] U.heap ∧ va_K (dC, dI) vwCl [(k1, .int)] U)) (vp_Si (fun r => r = ru)) 0 0 (fun _ => False) := by
  refine Met.ofW (cc := cX8_secondOf) (maxL := 2) (ret := (some .int)) (by decide) rfl ?_
  intro p e s m args below meth c s₁ B hml hv
  obtain ⟨rfl, hP, hK⟩ := hv
  have hx := B.exec
  have hb := B.bytes
  have hr := B.returns
  have hts := atoms_spec (ws := wsX8_secondOf) B.pre
  have hown : s.vm.findClass RX8 = some m.cls := findClass_of_methodNamed B.named
  have hlocks := B.notSynchronized
  have hl := lv_entry ([.ref h0, .int a1]) (n := 2) (Nat.le_of_ble_eq_true rfl)
  rw [lg_entry_eq]
  generalize (lg_sl ([.ref h0, .int a1]) ++ List.replicate (2 - (lg_sl ([.ref h0, .int a1])).length) Slot.unset).toArray = ls at hl ⊢
  have hl : lv_has ls 2 [(0, .ref h0), (1, .int a1)] := hl
  have hrun := hm
  rw [fX8_secondOf] at hrun
  refine lv_aload_n hx hb dX8_secondOf_0 rfl (lv_at hl 0 rfl) ?_
  refine lv_iload_n hx hb dX8_secondOf_1 rfl (lv_at hl 1 rfl) ?_
  refine lv_iconst (v := (2 : Int32)) hx hb dX8_secondOf_2 (by decide) ?_
  obtain ⟨q3, hc3, hrun⟩ := ob_e hrun
  refine wz_csi (va_runV (As := [.int a1, .int (2 : Int32)]) (rest := []) ⟨hx, hb, hml, hown, hts⟩ (tX8_part l dC dI h0 h1 k1 (g0_start) (g0_left) N a1 ((2 : Int32)) v0_amount c1 q3 hc3) (cwV 2 hts gX8_secondOf_X8_part rfl rfl rfl (by decide +kernel) ⟨Nat.le_of_ble_eq_true rfl, Nat.le_of_ble_eq_true rfl⟩) (wz_pVr (hP.sub (ws' := [(h0, .inr (8, [g0_start, .ref h1, .int v0_amount, g0_left])), (h1, .inl (k1, 180, .inl c1))]) [0, 1] rfl) (hK.sub (tys' := [(k1, .int)]) [0] rfl) (va_recv hK hP (ci := 8) (q0 := 0) rfl rfl)) rfl rfl hl.1 rfl (lv_room (Nat.le_of_ble_eq_true rfl)) dX8_secondOf_3 ⟨Nat.zero_le _, Nat.zero_le _⟩) ?_
  exact W.iret hx hb hr (fun t ht _ => ⟨_, rfl, Option.some.inj hrun, ht⟩) (fun _ h => by cases h) dX8_secondOf_6
set_option maxHeartbeats 4000000 in
set_option maxRecDepth 100000 in
theorem tX8_kindOf (l : Launch) (dC : Nat → ClassId) (dI : Nat → Nat → Nat) (h0 h1 : Nat) (k1 : ClassId) (g0_start g0_left : Value) (N : Nat) (a1 : Int32) (v0_amount : Int32) (c1 : Nat → Int32) (ru : Int32) (hm : fX8_kindOf N a1 v0_amount c1 = some ru) : Met l yX8_kindOf wsX8_kindOf ({ frames := 1, cells := 0, slots := 0, locals := 23 } : Room) (va_Pc [.ref h0, .int a1] (fun U => va_P (dC, dI) vwCl [(h0, .inr (8, [g0_start, .ref h1, .int v0_amount, g0_left])), (h1, .inl (k1, 180, .inl c1))] U.heap ∧ va_K (dC, dI) vwCl [(k1, .int)] U)) (vp_Si (fun r => r = ru)) 0 0 (fun _ => False) := by
  refine Met.ofW (cc := cX8_kindOf) (maxL := 2) (ret := (some .int)) (by decide) rfl ?_
  intro p e s m args below meth c s₁ B hml hv
  obtain ⟨rfl, hP, hK⟩ := hv
  have hx := B.exec
  have hb := B.bytes
  have hr := B.returns
  have hts := atoms_spec (ws := wsX8_kindOf) B.pre
  have hown : s.vm.findClass RX8 = some m.cls := findClass_of_methodNamed B.named
  have hlocks := B.notSynchronized
  have hl := lv_entry ([.ref h0, .int a1]) (n := 2) (Nat.le_of_ble_eq_true rfl)
  rw [lg_entry_eq]
  generalize (lg_sl ([.ref h0, .int a1]) ++ List.replicate (2 - (lg_sl ([.ref h0, .int a1])).length) Slot.unset).toArray = ls at hl ⊢
  have hl : lv_has ls 2 [(0, .ref h0), (1, .int a1)] := hl
  have hrun := hm
  rw [fX8_kindOf] at hrun
  refine lv_aload_n hx hb dX8_kindOf_0 rfl (lv_at hl 0 rfl) ?_
  refine lv_iload_n hx hb dX8_kindOf_1 rfl (lv_at hl 1 rfl) ?_
  refine lv_iconst (v := (0 : Int32)) hx hb dX8_kindOf_2 (by decide) ?_
  obtain ⟨q3, hc3, hrun⟩ := ob_e hrun
  refine wz_csi (va_runV (As := [.int a1, .int (0 : Int32)]) (rest := []) ⟨hx, hb, hml, hown, hts⟩ (tX8_part l dC dI h0 h1 k1 (g0_start) (g0_left) N a1 ((0 : Int32)) v0_amount c1 q3 hc3) (cwV 2 hts gX8_kindOf_X8_part rfl rfl rfl (by decide +kernel) ⟨Nat.le_of_ble_eq_true rfl, Nat.le_of_ble_eq_true rfl⟩) (wz_pVr (hP.sub (ws' := [(h0, .inr (8, [g0_start, .ref h1, .int v0_amount, g0_left])), (h1, .inl (k1, 180, .inl c1))]) [0, 1] rfl) (hK.sub (tys' := [(k1, .int)]) [0] rfl) (va_recv hK hP (ci := 8) (q0 := 0) rfl rfl)) rfl rfl hl.1 rfl (lv_room (Nat.le_of_ble_eq_true rfl)) dX8_kindOf_3 ⟨Nat.zero_le _, Nat.zero_le _⟩) ?_
  exact W.iret hx hb hr (fun t ht _ => ⟨_, rfl, Option.some.inj hrun, ht⟩) (fun _ h => by cases h) dX8_kindOf_6
set_option maxHeartbeats 4000000 in
set_option maxRecDepth 100000 in
theorem tX8_speedOf (l : Launch) (dC : Nat → ClassId) (dI : Nat → Nat → Nat) (h0 h1 : Nat) (k1 : ClassId) (g0_start g0_left : Value) (N : Nat) (a1 : Int32) (v0_amount : Int32) (c1 : Nat → Int32) (ru : Int32) (hm : fX8_speedOf N a1 v0_amount c1 = some ru) : Met l yX8_speedOf wsX8_speedOf ({ frames := 1, cells := 0, slots := 0, locals := 23 } : Room) (va_Pc [.ref h0, .int a1] (fun U => va_P (dC, dI) vwCl [(h0, .inr (8, [g0_start, .ref h1, .int v0_amount, g0_left])), (h1, .inl (k1, 180, .inl c1))] U.heap ∧ va_K (dC, dI) vwCl [(k1, .int)] U)) (vp_Si (fun r => r = ru)) 0 0 (fun _ => False) := by
  refine Met.ofW (cc := cX8_speedOf) (maxL := 2) (ret := (some .int)) (by decide) rfl ?_
  intro p e s m args below meth c s₁ B hml hv
  obtain ⟨rfl, hP, hK⟩ := hv
  have hx := B.exec
  have hb := B.bytes
  have hr := B.returns
  have hts := atoms_spec (ws := wsX8_speedOf) B.pre
  have hown : s.vm.findClass RX8 = some m.cls := findClass_of_methodNamed B.named
  have hlocks := B.notSynchronized
  have hl := lv_entry ([.ref h0, .int a1]) (n := 2) (Nat.le_of_ble_eq_true rfl)
  rw [lg_entry_eq]
  generalize (lg_sl ([.ref h0, .int a1]) ++ List.replicate (2 - (lg_sl ([.ref h0, .int a1])).length) Slot.unset).toArray = ls at hl ⊢
  have hl : lv_has ls 2 [(0, .ref h0), (1, .int a1)] := hl
  have hrun := hm
  rw [fX8_speedOf] at hrun
  refine lv_aload_n hx hb dX8_speedOf_0 rfl (lv_at hl 0 rfl) ?_
  refine lv_iload_n hx hb dX8_speedOf_1 rfl (lv_at hl 1 rfl) ?_
  refine lv_iconst (v := (5 : Int32)) hx hb dX8_speedOf_2 (by decide) ?_
  obtain ⟨q3, hc3, hrun⟩ := ob_e hrun
  refine wz_csi (va_runV (As := [.int a1, .int (5 : Int32)]) (rest := []) ⟨hx, hb, hml, hown, hts⟩ (tX8_part l dC dI h0 h1 k1 (g0_start) (g0_left) N a1 ((5 : Int32)) v0_amount c1 q3 hc3) (cwV 2 hts gX8_speedOf_X8_part rfl rfl rfl (by decide +kernel) ⟨Nat.le_of_ble_eq_true rfl, Nat.le_of_ble_eq_true rfl⟩) (wz_pVr (hP.sub (ws' := [(h0, .inr (8, [g0_start, .ref h1, .int v0_amount, g0_left])), (h1, .inl (k1, 180, .inl c1))]) [0, 1] rfl) (hK.sub (tys' := [(k1, .int)]) [0] rfl) (va_recv hK hP (ci := 8) (q0 := 0) rfl rfl)) rfl rfl hl.1 rfl (lv_room (Nat.le_of_ble_eq_true rfl)) dX8_speedOf_3 ⟨Nat.zero_le _, Nat.zero_le _⟩) ?_
  exact W.iret hx hb hr (fun t ht _ => ⟨_, rfl, Option.some.inj hrun, ht⟩) (fun _ h => by cases h) dX8_speedOf_6
set_option maxHeartbeats 4000000 in
set_option maxRecDepth 100000 in
theorem tX8_doubtOf (l : Launch) (dC : Nat → ClassId) (dI : Nat → Nat → Nat) (h0 h1 : Nat) (k1 : ClassId) (g0_start g0_left : Value) (N : Nat) (a1 : Int32) (v0_amount : Int32) (c1 : Nat → Int32) (ru : Int32) (hm : fX8_doubtOf N a1 v0_amount c1 = some ru) : Met l yX8_doubtOf wsX8_doubtOf ({ frames := 1, cells := 0, slots := 0, locals := 23 } : Room) (va_Pc [.ref h0, .int a1] (fun U => va_P (dC, dI) vwCl [(h0, .inr (8, [g0_start, .ref h1, .int v0_amount, g0_left])), (h1, .inl (k1, 180, .inl c1))] U.heap ∧ va_K (dC, dI) vwCl [(k1, .int)] U)) (vp_Si (fun r => r = ru)) 0 0 (fun _ => False) := by
  refine Met.ofW (cc := cX8_doubtOf) (maxL := 2) (ret := (some .int)) (by decide) rfl ?_
  intro p e s m args below meth c s₁ B hml hv
  obtain ⟨rfl, hP, hK⟩ := hv
  have hx := B.exec
  have hb := B.bytes
  have hr := B.returns
  have hts := atoms_spec (ws := wsX8_doubtOf) B.pre
  have hown : s.vm.findClass RX8 = some m.cls := findClass_of_methodNamed B.named
  have hlocks := B.notSynchronized
  have hl := lv_entry ([.ref h0, .int a1]) (n := 2) (Nat.le_of_ble_eq_true rfl)
  rw [lg_entry_eq]
  generalize (lg_sl ([.ref h0, .int a1]) ++ List.replicate (2 - (lg_sl ([.ref h0, .int a1])).length) Slot.unset).toArray = ls at hl ⊢
  have hl : lv_has ls 2 [(0, .ref h0), (1, .int a1)] := hl
  have hrun := hm
  rw [fX8_doubtOf] at hrun
  refine lv_aload_n hx hb dX8_doubtOf_0 rfl (lv_at hl 0 rfl) ?_
  refine lv_iload_n hx hb dX8_doubtOf_1 rfl (lv_at hl 1 rfl) ?_
  refine lv_iconst (v := (4 : Int32)) hx hb dX8_doubtOf_2 (by decide) ?_
  obtain ⟨q3, hc3, hrun⟩ := ob_e hrun
  refine wz_csi (va_runV (As := [.int a1, .int (4 : Int32)]) (rest := []) ⟨hx, hb, hml, hown, hts⟩ (tX8_part l dC dI h0 h1 k1 (g0_start) (g0_left) N a1 ((4 : Int32)) v0_amount c1 q3 hc3) (cwV 2 hts gX8_doubtOf_X8_part rfl rfl rfl (by decide +kernel) ⟨Nat.le_of_ble_eq_true rfl, Nat.le_of_ble_eq_true rfl⟩) (wz_pVr (hP.sub (ws' := [(h0, .inr (8, [g0_start, .ref h1, .int v0_amount, g0_left])), (h1, .inl (k1, 180, .inl c1))]) [0, 1] rfl) (hK.sub (tys' := [(k1, .int)]) [0] rfl) (va_recv hK hP (ci := 8) (q0 := 0) rfl rfl)) rfl rfl hl.1 rfl (lv_room (Nat.le_of_ble_eq_true rfl)) dX8_doubtOf_3 ⟨Nat.zero_le _, Nat.zero_le _⟩) ?_
  exact W.iret hx hb hr (fun t ht _ => ⟨_, rfl, Option.some.inj hrun, ht⟩) (fun _ h => by cases h) dX8_doubtOf_6
set_option maxHeartbeats 4000000 in
set_option maxRecDepth 100000 in
theorem tX8_leftOut (l : Launch) (dC : Nat → ClassId) (dI : Nat → Nat → Nat) (h0 : Nat) (g0_start g0_rows g0_amount : Value) (N : Nat)  (v0_left : Int32) (ru : Int32) (hm : fX8_leftOut N v0_left = some ru) : Met l yX8_leftOut wsX8_leftOut ({ frames := 0, cells := 0, slots := 0, locals := 0 } : Room) (va_Pc [.ref h0] (fun U => va_P (dC, dI) vwCl [(h0, .inr (8, [g0_start, g0_rows, g0_amount, .int v0_left]))] U.heap ∧ va_K (dC, dI) vwCl [] U)) (vp_Si (fun r => r = ru)) 0 0 (fun _ => False) := by
  refine Met.ofW (cc := cX8_leftOut) (maxL := 1) (ret := (some .int)) (by decide) rfl ?_
  intro p e s m args below meth c s₁ B hml hv
  obtain ⟨rfl, hP, hK⟩ := hv
  have hx := B.exec
  have hb := B.bytes
  have hr := B.returns
  have hts := atoms_spec (ws := wsX8_leftOut) B.pre
  have hown : s.vm.findClass RX8 = some m.cls := findClass_of_methodNamed B.named
  have hlocks := B.notSynchronized
  have hinX8 : ∀ w ∈ wsX80, w ∈ wsX8_leftOut := by decide +kernel
  have hl := lv_entry ([.ref h0]) (n := 1) (Nat.le_of_ble_eq_true rfl)
  rw [lg_entry_eq]
  generalize (lg_sl ([.ref h0]) ++ List.replicate (1 - (lg_sl ([.ref h0])).length) Slot.unset).toArray = ls at hl ⊢
  have hl : lv_has ls 1 [(0, .ref h0)] := hl
  have hrun := hm
  rw [fX8_leftOut] at hrun
  refine lv_aload_n hx hb dX8_leftOut_0 rfl (lv_at hl 0 rfl) ?_
  refine va_get (D := (dC, dI)) (ci := 8) (v := .int v0_left) (C := RX8) (T := TX8) (N := 4) hx hb hts hinX8 hown hK hP 0 rfl rfl 3 (by decide) (hts (.fieldLink RX8 36 "WasItOut$World" "left" "I") (by decide +kernel)) (fun _ h9 => h9) rfl dX8_leftOut_1 ?_
  exact W.iret hx hb hr (fun t ht _ => ⟨_, rfl, Option.some.inj hrun, ht⟩) (fun _ h => by cases h) dX8_leftOut_4
set_option maxHeartbeats 4000000 in
set_option maxRecDepth 100000 in
theorem tX8_askedBlurs (l : Launch) (dC : Nat → ClassId) (dI : Nat → Nat → Nat) (h0 h1 : Nat) (k1 : ClassId) (g0_start g0_left : Value) (N : Nat) (a1 : Int32) (v0_amount : Int32) (c1 : Nat → Int32) (ru : Int32) (hm : fX8_askedBlurs N a1 v0_amount c1 = some ru) : Met l yX8_askedBlurs wsX8_askedBlurs ({ frames := 2, cells := 0, slots := 0, locals := 44 } : Room) (va_Pc [.ref h0, .int a1] (fun U => va_P (dC, dI) vwCl [(h0, .inr (8, [g0_start, .ref h1, .int v0_amount, g0_left])), (h1, .inl (k1, 180, .inl c1))] U.heap ∧ va_K (dC, dI) vwCl [(k1, .int)] U)) (vp_Si (fun r => r = ru)) 0 0 (fun _ => False) := by
  refine Met.ofW (cc := cX8_askedBlurs) (maxL := 4) (ret := (some .int)) (by decide) rfl ?_
  intro p e s m args below meth c s₁ B hml hv
  obtain ⟨rfl, hP, hK⟩ := hv
  have hx := B.exec
  have hb := B.bytes
  have hr := B.returns
  have hts := atoms_spec (ws := wsX8_askedBlurs) B.pre
  have hown : s.vm.findClass RX8 = some m.cls := findClass_of_methodNamed B.named
  have hlocks := B.notSynchronized
  have hinX8 : ∀ w ∈ wsX80, w ∈ wsX8_askedBlurs := by decide +kernel
  have hl := lv_entry ([.ref h0, .int a1]) (n := 4) (Nat.le_of_ble_eq_true rfl)
  rw [lg_entry_eq]
  generalize (lg_sl ([.ref h0, .int a1]) ++ List.replicate (4 - (lg_sl ([.ref h0, .int a1])).length) Slot.unset).toArray = ls at hl ⊢
  have hl : lv_has ls 4 [(0, .ref h0), (1, .int a1)] := hl
  have hrun := hm
  rw [fX8_askedBlurs] at hrun
  refine lv_iconst (v := (0 : Int32)) hx hb dX8_askedBlurs_0 (by decide) ?_
  refine lv_istore_n (lv' := [(2, .int (0 : Int32)), (0, .ref h0), (1, .int a1)]) hx hb dX8_askedBlurs_1 rfl hl (by decide) rfl (fun ls hl => ?_)
  refine lv_iconst (v := (0 : Int32)) hx hb dX8_askedBlurs_2 (by decide) ?_
  refine lv_istore_n (lv' := [(3, .int (0 : Int32)), (2, .int (0 : Int32)), (0, .ref h0), (1, .int a1)]) hx hb dX8_askedBlurs_3 rfl hl (by decide) rfl (fun ls hl => ?_)
  obtain ⟨k44, ek44, hrun⟩ := jn_e hrun
  have J44 : ∀ (x2_44 : Int32) (ls : Array Slot), k44 x2_44 = some ru → lv_has ls 4 [(2, .int x2_44)] → W p l e (headSpec wsX8_askedBlurs ({ frames := 2, cells := 0, slots := 0, locals := 44 } : Room)).room s m ([.ref h0, .int a1] : List Value).toArray below meth c s.heap [] 0 0 (MQ below (vp_Si (fun r => r = ru)) ([.ref h0, .int a1] : List Value).toArray s 0 0 (fun _ => False)) (F0 m 44 ls []) := by
    intro x2_44 ls hrun hl
    rw [ek44] at hrun
    refine lv_iload_n hx hb dX8_askedBlurs_44 rfl (lv_at hl 0 rfl) ?_
    exact W.iret hx hb hr (fun t ht _ => ⟨_, rfl, Option.some.inj hrun, ht⟩) (fun _ h => by cases h) dX8_askedBlurs_45
  have L4 : ∀ (n : Nat) (x2_4 : Int32) (x3_4 : Int32) (ls : Array Slot), fX8_askedBlurs_p4 N a1 v0_amount c1 k44 n x2_4 x3_4 = some ru → lv_has ls 4 [(0, .ref h0), (1, .int a1), (2, .int x2_4), (3, .int x3_4)] → W p l e (headSpec wsX8_askedBlurs ({ frames := 2, cells := 0, slots := 0, locals := 44 } : Room)).room s m ([.ref h0, .int a1] : List Value).toArray below meth c s.heap [] 0 0 (MQ below (vp_Si (fun r => r = ru)) ([.ref h0, .int a1] : List Value).toArray s 0 0 (fun _ => False)) (F0 m 4 ls []) := by
    intro n
    induction n with
    | zero => intro x2_4 x3_4 ls hrun; rw [fX8_askedBlurs_p4] at hrun; exact on_e hrun
    | succ n ih =>
      intro x2_4 x3_4 ls hrun hl
      rw [fX8_askedBlurs_p4] at hrun
      refine lv_iload_n hx hb dX8_askedBlurs_4 rfl (lv_at hl 3 rfl) ?_
      refine lv_aload_n hx hb dX8_askedBlurs_5 rfl (lv_at hl 0 rfl) ?_
      refine va_get (D := (dC, dI)) (ci := 8) (v := .int v0_amount) (C := RX8) (T := TX8) (N := 4) hx hb hts hinX8 hown hK hP 0 rfl rfl 2 (by decide) (hts (.fieldLink RX8 32 "WasItOut$World" "amount" "I") (by decide +kernel)) (fun _ h9 => h9) rfl dX8_askedBlurs_6 ?_
      refine lv_icmp_ge (tgt := 44) hx hb dX8_askedBlurs_9 (by decide) (fun cc => ?_) (fun cc => ?_)
      · have hrun := oi_t hrun cc
        exact J44 x2_4 ls hrun (lv_sub hl [2] rfl)
      · have hrun := oi_f hrun cc
        refine lv_aload_n hx hb dX8_askedBlurs_12 rfl (lv_at hl 0 rfl) ?_
        refine lv_iload_n hx hb dX8_askedBlurs_13 rfl (lv_at hl 3 rfl) ?_
        obtain ⟨q14, hc14, hrun⟩ := ob_e hrun
        refine wz_csz (va_runV (As := [.int x3_4]) (rest := []) ⟨hx, hb, hml, hown, hts⟩ (tX8_isBlur l dC dI h0 h1 k1 (g0_start) (g0_left) N x3_4 v0_amount c1 q14 hc14) (cwV 1 hts gX8_askedBlurs_X8_isBlur rfl rfl rfl (by decide +kernel) ⟨Nat.le_of_ble_eq_true rfl, Nat.le_of_ble_eq_true rfl⟩) (wz_pVr (hP.sub (ws' := [(h0, .inr (8, [g0_start, .ref h1, .int v0_amount, g0_left])), (h1, .inl (k1, 180, .inl c1))]) [0, 1] rfl) (hK.sub (tys' := [(k1, .int)]) [0] rfl) (va_recv hK hP (ci := 8) (q0 := 0) rfl rfl)) rfl rfl hl.1 rfl (lv_room (Nat.le_of_ble_eq_true rfl)) dX8_askedBlurs_14 ⟨Nat.zero_le _, Nat.zero_le _⟩) (fun hz14 => ?_)
        obtain ⟨k38, ek38, hrun⟩ := jn_e hrun
        have J38 : ∀ (x2_38 : Int32) (ls : Array Slot), k38 x2_38 = some ru → lv_has ls 4 [(0, .ref h0), (1, .int a1), (2, .int x2_38), (3, .int x3_4)] → W p l e (headSpec wsX8_askedBlurs ({ frames := 2, cells := 0, slots := 0, locals := 44 } : Room)).room s m ([.ref h0, .int a1] : List Value).toArray below meth c s.heap [] 0 0 (MQ below (vp_Si (fun r => r = ru)) ([.ref h0, .int a1] : List Value).toArray s 0 0 (fun _ => False)) (F0 m 38 ls []) := by
          intro x2_38 ls hrun hl
          rw [ek38] at hrun
          refine lv_iinc (v := (x3_4 + (1 : Int32))) (lv' := [(3, .int (x3_4 + (1 : Int32))), (0, .ref h0), (1, .int a1), (2, .int x2_38)]) hx hb dX8_askedBlurs_38 hl (k := 3) rfl rfl (by decide) rfl (fun ls hl => ?_)
          refine lv_goto (tgt := 4) hx hb dX8_askedBlurs_41 (by decide) ?_
          exact ih x2_38 ((x3_4 + (1 : Int32))) ls hrun (lv_sub hl [1, 2, 3, 0] rfl)
        refine lv_if_eq (tgt := 38) hx hb dX8_askedBlurs_17 (by decide) (fun cc => ?_) (fun cc => ?_)
        · have hrun := oi_t hrun cc
          exact J38 x2_4 ls hrun hl
        · have hrun := oi_f hrun cc
          refine lv_iload_n hx hb dX8_askedBlurs_20 rfl (lv_at hl 1 rfl) ?_
          refine lv_aload_n hx hb dX8_askedBlurs_21 rfl (lv_at hl 0 rfl) ?_
          refine lv_iload_n hx hb dX8_askedBlurs_22 rfl (lv_at hl 3 rfl) ?_
          obtain ⟨q23, hc23, hrun⟩ := ob_e hrun
          refine wz_csi (va_runV (As := [.int x3_4]) (rest := [.int a1]) ⟨hx, hb, hml, hown, hts⟩ (tX8_firstOf l dC dI h0 h1 k1 (g0_start) (g0_left) N x3_4 v0_amount c1 q23 hc23) (cwV 1 hts gX8_askedBlurs_X8_firstOf rfl rfl rfl (by decide +kernel) ⟨Nat.le_of_ble_eq_true rfl, Nat.le_of_ble_eq_true rfl⟩) (wz_pVr (hP.sub (ws' := [(h0, .inr (8, [g0_start, .ref h1, .int v0_amount, g0_left])), (h1, .inl (k1, 180, .inl c1))]) [0, 1] rfl) (hK.sub (tys' := [(k1, .int)]) [0] rfl) (va_recv hK hP (ci := 8) (q0 := 0) rfl rfl)) rfl rfl hl.1 rfl (lv_room (Nat.le_of_ble_eq_true rfl)) dX8_askedBlurs_23 ⟨Nat.zero_le _, Nat.zero_le _⟩) ?_
          refine lv_ishr hx hb dX8_askedBlurs_26 ?_
          refine lv_iconst (v := (1 : Int32)) hx hb dX8_askedBlurs_27 (by decide) ?_
          refine lv_iand hx hb dX8_askedBlurs_28 ?_
          refine lv_if_ne (tgt := 38) hx hb dX8_askedBlurs_29 (by decide) (fun cc => ?_) (fun cc => ?_)
          · have hrun := oi_t hrun cc
            exact J38 x2_4 ls hrun hl
          · have hrun := oi_n hrun cc
            refine lv_iload_n hx hb dX8_askedBlurs_32 rfl (lv_at hl 2 rfl) ?_
            refine lv_iconst (v := (1 : Int32)) hx hb dX8_askedBlurs_33 (by decide) ?_
            refine lv_iload_n hx hb dX8_askedBlurs_34 rfl (lv_at hl 3 rfl) ?_
            refine lv_ishl hx hb dX8_askedBlurs_35 ?_
            refine lv_ior hx hb dX8_askedBlurs_36 ?_
            refine lv_istore_n (lv' := [(2, .int (x2_4 ||| ((1 : Int32) <<< (x3_4 &&& 31)))), (0, .ref h0), (1, .int a1), (3, .int x3_4)]) hx hb dX8_askedBlurs_37 rfl hl (by decide) rfl (fun ls hl => ?_)
            exact J38 ((x2_4 ||| ((1 : Int32) <<< (x3_4 &&& 31)))) ls hrun (lv_sub hl [1, 2, 0, 3] rfl)
  exact L4 N ((0 : Int32)) ((0 : Int32)) ls hrun (lv_sub hl [2, 3, 1, 0] rfl)
set_option maxHeartbeats 4000000 in
set_option maxRecDepth 100000 in
theorem tX8_askedSights (l : Launch) (dC : Nat → ClassId) (dI : Nat → Nat → Nat) (h0 h1 : Nat) (k1 : ClassId) (g0_start g0_left : Value) (N : Nat) (a1 : Int32) (v0_amount : Int32) (c1 : Nat → Int32) (ru : Int32) (hm : fX8_askedSights N a1 v0_amount c1 = some ru) : Met l yX8_askedSights wsX8_askedSights ({ frames := 3, cells := 0, slots := 0, locals := 67 } : Room) (va_Pc [.ref h0, .int a1] (fun U => va_P (dC, dI) vwCl [(h0, .inr (8, [g0_start, .ref h1, .int v0_amount, g0_left])), (h1, .inl (k1, 180, .inl c1))] U.heap ∧ va_K (dC, dI) vwCl [(k1, .int)] U)) (vp_Si (fun r => r = ru)) 0 0 (fun _ => False) := by
  refine Met.ofW (cc := cX8_askedSights) (maxL := 4) (ret := (some .int)) (by decide) rfl ?_
  intro p e s m args below meth c s₁ B hml hv
  obtain ⟨rfl, hP, hK⟩ := hv
  have hx := B.exec
  have hb := B.bytes
  have hr := B.returns
  have hts := atoms_spec (ws := wsX8_askedSights) B.pre
  have hown : s.vm.findClass RX8 = some m.cls := findClass_of_methodNamed B.named
  have hlocks := B.notSynchronized
  have hinX8 : ∀ w ∈ wsX80, w ∈ wsX8_askedSights := by decide +kernel
  have hl := lv_entry ([.ref h0, .int a1]) (n := 4) (Nat.le_of_ble_eq_true rfl)
  rw [lg_entry_eq]
  generalize (lg_sl ([.ref h0, .int a1]) ++ List.replicate (4 - (lg_sl ([.ref h0, .int a1])).length) Slot.unset).toArray = ls at hl ⊢
  have hl : lv_has ls 4 [(0, .ref h0), (1, .int a1)] := hl
  have hrun := hm
  rw [fX8_askedSights] at hrun
  refine lv_aload_n hx hb dX8_askedSights_0 rfl (lv_at hl 0 rfl) ?_
  refine lv_iload_n hx hb dX8_askedSights_1 rfl (lv_at hl 1 rfl) ?_
  obtain ⟨q2, hc2, hrun⟩ := ob_e hrun
  refine wz_csi (va_runV (As := [.int a1]) (rest := []) ⟨hx, hb, hml, hown, hts⟩ (tX8_askedBlurs l dC dI h0 h1 k1 (g0_start) (g0_left) N a1 v0_amount c1 q2 hc2) (cwV 1 hts gX8_askedSights_X8_askedBlurs rfl rfl rfl (by decide +kernel) ⟨Nat.le_of_ble_eq_true rfl, Nat.le_of_ble_eq_true rfl⟩) (wz_pVr (hP.sub (ws' := [(h0, .inr (8, [g0_start, .ref h1, .int v0_amount, g0_left])), (h1, .inl (k1, 180, .inl c1))]) [0, 1] rfl) (hK.sub (tys' := [(k1, .int)]) [0] rfl) (va_recv hK hP (ci := 8) (q0 := 0) rfl rfl)) rfl rfl hl.1 rfl (lv_room (Nat.le_of_ble_eq_true rfl)) dX8_askedSights_2 ⟨Nat.zero_le _, Nat.zero_le _⟩) ?_
  refine lv_istore_n (lv' := [(2, .int q2), (0, .ref h0), (1, .int a1)]) hx hb dX8_askedSights_5 rfl hl (by decide) rfl (fun ls hl => ?_)
  refine lv_iconst (v := (0 : Int32)) hx hb dX8_askedSights_6 (by decide) ?_
  refine lv_istore_n (lv' := [(3, .int (0 : Int32)), (2, .int q2), (0, .ref h0), (1, .int a1)]) hx hb dX8_askedSights_7 rfl hl (by decide) rfl (fun ls hl => ?_)
  obtain ⟨k36, ek36, hrun⟩ := jn_e hrun
  have J36 : ∀ (x2_36 : Int32) (ls : Array Slot), k36 x2_36 = some ru → lv_has ls 4 [(2, .int x2_36)] → W p l e (headSpec wsX8_askedSights ({ frames := 3, cells := 0, slots := 0, locals := 67 } : Room)).room s m ([.ref h0, .int a1] : List Value).toArray below meth c s.heap [] 0 0 (MQ below (vp_Si (fun r => r = ru)) ([.ref h0, .int a1] : List Value).toArray s 0 0 (fun _ => False)) (F0 m 36 ls []) := by
    intro x2_36 ls hrun hl
    rw [ek36] at hrun
    refine lv_iload_n hx hb dX8_askedSights_36 rfl (lv_at hl 0 rfl) ?_
    exact W.iret hx hb hr (fun t ht _ => ⟨_, rfl, Option.some.inj hrun, ht⟩) (fun _ h => by cases h) dX8_askedSights_37
  have L8 : ∀ (n : Nat) (x2_8 : Int32) (x3_8 : Int32) (ls : Array Slot), fX8_askedSights_p8 N v0_amount c1 k36 n x2_8 x3_8 = some ru → lv_has ls 4 [(0, .ref h0), (2, .int x2_8), (3, .int x3_8)] → W p l e (headSpec wsX8_askedSights ({ frames := 3, cells := 0, slots := 0, locals := 67 } : Room)).room s m ([.ref h0, .int a1] : List Value).toArray below meth c s.heap [] 0 0 (MQ below (vp_Si (fun r => r = ru)) ([.ref h0, .int a1] : List Value).toArray s 0 0 (fun _ => False)) (F0 m 8 ls []) := by
    intro n
    induction n with
    | zero => intro x2_8 x3_8 ls hrun; rw [fX8_askedSights_p8] at hrun; exact on_e hrun
    | succ n ih =>
      intro x2_8 x3_8 ls hrun hl
      rw [fX8_askedSights_p8] at hrun
      refine lv_iload_n hx hb dX8_askedSights_8 rfl (lv_at hl 2 rfl) ?_
      refine lv_aload_n hx hb dX8_askedSights_9 rfl (lv_at hl 0 rfl) ?_
      refine va_get (D := (dC, dI)) (ci := 8) (v := .int v0_amount) (C := RX8) (T := TX8) (N := 4) hx hb hts hinX8 hown hK hP 0 rfl rfl 2 (by decide) (hts (.fieldLink RX8 32 "WasItOut$World" "amount" "I") (by decide +kernel)) (fun _ h9 => h9) rfl dX8_askedSights_10 ?_
      refine lv_icmp_ge (tgt := 36) hx hb dX8_askedSights_13 (by decide) (fun cc => ?_) (fun cc => ?_)
      · have hrun := oi_t hrun cc
        exact J36 x2_8 ls hrun (lv_sub hl [1] rfl)
      · have hrun := oi_f hrun cc
        refine lv_aload_n hx hb dX8_askedSights_16 rfl (lv_at hl 0 rfl) ?_
        refine lv_iload_n hx hb dX8_askedSights_17 rfl (lv_at hl 2 rfl) ?_
        obtain ⟨q18, hc18, hrun⟩ := ob_e hrun
        refine wz_csz (va_runV (As := [.int x3_8]) (rest := []) ⟨hx, hb, hml, hown, hts⟩ (tX8_isBlur l dC dI h0 h1 k1 (g0_start) (g0_left) N x3_8 v0_amount c1 q18 hc18) (cwV 1 hts gX8_askedSights_X8_isBlur rfl rfl rfl (by decide +kernel) ⟨Nat.le_of_ble_eq_true rfl, Nat.le_of_ble_eq_true rfl⟩) (wz_pVr (hP.sub (ws' := [(h0, .inr (8, [g0_start, .ref h1, .int v0_amount, g0_left])), (h1, .inl (k1, 180, .inl c1))]) [0, 1] rfl) (hK.sub (tys' := [(k1, .int)]) [0] rfl) (va_recv hK hP (ci := 8) (q0 := 0) rfl rfl)) rfl rfl hl.1 rfl (lv_room (Nat.le_of_ble_eq_true rfl)) dX8_askedSights_18 ⟨Nat.zero_le _, Nat.zero_le _⟩) (fun hz18 => ?_)
        obtain ⟨k30, ek30, hrun⟩ := jn_e hrun
        have J30 : ∀ (x2_30 : Int32) (ls : Array Slot), k30 x2_30 = some ru → lv_has ls 4 [(0, .ref h0), (2, .int x2_30), (3, .int x3_8)] → W p l e (headSpec wsX8_askedSights ({ frames := 3, cells := 0, slots := 0, locals := 67 } : Room)).room s m ([.ref h0, .int a1] : List Value).toArray below meth c s.heap [] 0 0 (MQ below (vp_Si (fun r => r = ru)) ([.ref h0, .int a1] : List Value).toArray s 0 0 (fun _ => False)) (F0 m 30 ls []) := by
          intro x2_30 ls hrun hl
          rw [ek30] at hrun
          refine lv_iinc (v := (x3_8 + (1 : Int32))) (lv' := [(3, .int (x3_8 + (1 : Int32))), (0, .ref h0), (2, .int x2_30)]) hx hb dX8_askedSights_30 hl (k := 2) rfl rfl (by decide) rfl (fun ls hl => ?_)
          refine lv_goto (tgt := 8) hx hb dX8_askedSights_33 (by decide) ?_
          exact ih x2_30 ((x3_8 + (1 : Int32))) ls hrun (lv_sub hl [1, 2, 0] rfl)
        refine lv_if_ne (tgt := 30) hx hb dX8_askedSights_21 (by decide) (fun cc => ?_) (fun cc => ?_)
        · have hrun := oi_t hrun cc
          exact J30 x2_8 ls hrun hl
        · have hrun := oi_n hrun cc
          refine lv_iload_n hx hb dX8_askedSights_24 rfl (lv_at hl 1 rfl) ?_
          refine lv_iconst (v := (1 : Int32)) hx hb dX8_askedSights_25 (by decide) ?_
          refine lv_iload_n hx hb dX8_askedSights_26 rfl (lv_at hl 2 rfl) ?_
          refine lv_ishl hx hb dX8_askedSights_27 ?_
          refine lv_ior hx hb dX8_askedSights_28 ?_
          refine lv_istore_n (lv' := [(2, .int (x2_8 ||| ((1 : Int32) <<< (x3_8 &&& 31)))), (0, .ref h0), (3, .int x3_8)]) hx hb dX8_askedSights_29 rfl hl (by decide) rfl (fun ls hl => ?_)
          exact J30 ((x2_8 ||| ((1 : Int32) <<< (x3_8 &&& 31)))) ls hrun (lv_sub hl [1, 0, 2] rfl)
  exact L8 N q2 ((0 : Int32)) ls hrun (lv_sub hl [2, 1, 0] rfl)
set_option maxHeartbeats 4000000 in
set_option maxRecDepth 100000 in
theorem tX8_sightCount (l : Launch) (dC : Nat → ClassId) (dI : Nat → Nat → Nat) (h0 : Nat) (g0_start g0_rows g0_left : Value) (N : Nat)  (v0_amount : Int32) (ru : Int32) (hm : fX8_sightCount N v0_amount = some ru) : Met l yX8_sightCount wsX8_sightCount ({ frames := 0, cells := 0, slots := 0, locals := 0 } : Room) (va_Pc [.ref h0] (fun U => va_P (dC, dI) vwCl [(h0, .inr (8, [g0_start, g0_rows, .int v0_amount, g0_left]))] U.heap ∧ va_K (dC, dI) vwCl [] U)) (vp_Si (fun r => r = ru)) 0 0 (fun _ => False) := by
  refine Met.ofW (cc := cX8_sightCount) (maxL := 1) (ret := (some .int)) (by decide) rfl ?_
  intro p e s m args below meth c s₁ B hml hv
  obtain ⟨rfl, hP, hK⟩ := hv
  have hx := B.exec
  have hb := B.bytes
  have hr := B.returns
  have hts := atoms_spec (ws := wsX8_sightCount) B.pre
  have hown : s.vm.findClass RX8 = some m.cls := findClass_of_methodNamed B.named
  have hlocks := B.notSynchronized
  have hinX8 : ∀ w ∈ wsX80, w ∈ wsX8_sightCount := by decide +kernel
  have hl := lv_entry ([.ref h0]) (n := 1) (Nat.le_of_ble_eq_true rfl)
  rw [lg_entry_eq]
  generalize (lg_sl ([.ref h0]) ++ List.replicate (1 - (lg_sl ([.ref h0])).length) Slot.unset).toArray = ls at hl ⊢
  have hl : lv_has ls 1 [(0, .ref h0)] := hl
  have hrun := hm
  rw [fX8_sightCount] at hrun
  refine lv_aload_n hx hb dX8_sightCount_0 rfl (lv_at hl 0 rfl) ?_
  refine va_get (D := (dC, dI)) (ci := 8) (v := .int v0_amount) (C := RX8) (T := TX8) (N := 4) hx hb hts hinX8 hown hK hP 0 rfl rfl 2 (by decide) (hts (.fieldLink RX8 32 "WasItOut$World" "amount" "I") (by decide +kernel)) (fun _ h9 => h9) rfl dX8_sightCount_1 ?_
  exact W.iret hx hb hr (fun t ht _ => ⟨_, rfl, Option.some.inj hrun, ht⟩) (fun _ h => by cases h) dX8_sightCount_4
set_option maxHeartbeats 4000000 in
set_option maxRecDepth 100000 in
theorem tX8_addSight (l : Launch) (dC : Nat → ClassId) (dI : Nat → Nat → Nat) (sz : Nat) (h0 h1 : Nat) (k1 : ClassId) (g0_start g0_left : Value) (N : Nat) (a1 : Int32) (a2 : Int32) (a3 : Int32) (a4 : Int32) (a5 : Int32) (a6 : Int32) (v0_amount : Int32) (c1 : Nat → Int32) (ru : Int32 × (Int32) × (Nat → Int32)) (hm : fX8_addSight N a1 a2 a3 a4 a5 a6 v0_amount c1 = some ru) : Met l yX8_addSight wsX8_addSight ({ frames := 0, cells := 0, slots := 0, locals := 0 } : Room) (va_Pc [.ref h0, .int a1, .int a2, .int a3, .int a4, .int a5, .int a6] (fun U => U.heap.size = sz ∧ va_P (dC, dI) vwCl [(h0, .inr (8, [g0_start, .ref h1, .int v0_amount, g0_left])), (h1, .inl (k1, 180, .inl c1))] U.heap ∧ va_K (dC, dI) vwCl [(k1, .int)] U ∧ va_D (fun _ => True) [(h0, .inr (8, [g0_start, .ref h1, .int v0_amount, g0_left])), (h1, .inl (k1, 180, .inl c1))])) (va_Qi (fun r (_ : Unit) => r = ru.1) (fun (_ : Unit) t => va_P (dC, dI) vwCl [(h0, .inr (8, [g0_start, .ref h1, .int ru.2.1, g0_left])), (h1, .inl (k1, 180, .inl ru.2.2))] t.heap ∧ va_K (dC, dI) vwCl [(k1, .int)] t ∧ va_D (va_A [(h0, .inr (8, [g0_start, .ref h1, .int v0_amount, g0_left])), (h1, .inl (k1, 180, .inl c1))] sz) [(h0, .inr (8, [g0_start, .ref h1, .int ru.2.1, g0_left])), (h1, .inl (k1, 180, .inl ru.2.2))]) (va_A [(h0, .inr (8, [g0_start, .ref h1, .int v0_amount, g0_left])), (h1, .inl (k1, 180, .inl c1))] sz)) 0 0 (va_A [(h0, .inr (8, [g0_start, .ref h1, .int v0_amount, g0_left])), (h1, .inl (k1, 180, .inl c1))] sz) := by
  refine Met.ofW (cc := cX8_addSight) (maxL := 8) (ret := (some .int)) (by decide) rfl ?_
  intro p e s m args below meth c s₁ B hml hv
  obtain ⟨rfl, hsz, hP, hK, hD0⟩ := hv
  have hx := B.exec
  have hb := B.bytes
  have hr := B.returns
  have hts := atoms_spec (ws := wsX8_addSight) B.pre
  have hown : s.vm.findClass RX8 = some m.cls := findClass_of_methodNamed B.named
  have hlocks := B.notSynchronized
  subst hsz
  have hD := hD0.self (sz := s.heap.size)
  generalize hAe : va_A [(h0, .inr (8, [g0_start, .ref h1, .int v0_amount, g0_left])), (h1, .inl (k1, 180, .inl c1))] s.heap.size = A at hD ⊢
  have hA : ∀ q : Nat, s.heap.size ≤ q → A q := fun q h => by rw [← hAe]; exact Or.inr h
  have hS : va_S A s.heap s.heap [] := va_S.rf
  have hinX8 : ∀ w ∈ wsX80, w ∈ wsX8_addSight := by decide +kernel
  have hl := lv_entry ([.ref h0, .int a1, .int a2, .int a3, .int a4, .int a5, .int a6]) (n := 8) (Nat.le_of_ble_eq_true rfl)
  rw [lg_entry_eq]
  generalize (lg_sl ([.ref h0, .int a1, .int a2, .int a3, .int a4, .int a5, .int a6]) ++ List.replicate (8 - (lg_sl ([.ref h0, .int a1, .int a2, .int a3, .int a4, .int a5, .int a6])).length) Slot.unset).toArray = ls at hl ⊢
  have hl : lv_has ls 8 [(0, .ref h0), (1, .int a1), (2, .int a2), (3, .int a3), (4, .int a4), (5, .int a5), (6, .int a6)] := hl
  have hrun := hm
  rw [fX8_addSight] at hrun
  obtain ⟨H, hHe⟩ : ∃ H, H = s.heap := ⟨_, rfl⟩
  obtain ⟨locs, hLe⟩ : ∃ locs : List Loc, locs = [] := ⟨_, rfl⟩
  rw [← hHe] at hP
  have hS : va_S A s.heap H locs := by rw [hHe, hLe]; exact hS
  have key : W p l e (headSpec wsX8_addSight ({ frames := 0, cells := 0, slots := 0, locals := 0 } : Room)).room s m ([.ref h0, .int a1, .int a2, .int a3, .int a4, .int a5, .int a6] : List Value).toArray below meth c H locs 0 0 (MQ below (va_Qi (fun r (_ : Unit) => r = ru.1) (fun (_ : Unit) t => va_P (dC, dI) vwCl [(h0, .inr (8, [g0_start, .ref h1, .int ru.2.1, g0_left])), (h1, .inl (k1, 180, .inl ru.2.2))] t.heap ∧ va_K (dC, dI) vwCl [(k1, .int)] t ∧ va_D A [(h0, .inr (8, [g0_start, .ref h1, .int ru.2.1, g0_left])), (h1, .inl (k1, 180, .inl ru.2.2))]) A) ([.ref h0, .int a1, .int a2, .int a3, .int a4, .int a5, .int a6] : List Value).toArray s 0 0 A) (F0 m 0 ls []) := by
    clear hHe hLe
    refine lv_aload_n hx hb dX8_addSight_0 rfl (lv_at hl 0 rfl) ?_
    refine va_get (D := (dC, dI)) (ci := 8) (v := .int v0_amount) (C := RX8) (T := TX8) (N := 4) hx hb hts hinX8 hown hK hP 0 rfl rfl 2 (by decide) (hts (.fieldLink RX8 32 "WasItOut$World" "amount" "I") (by decide +kernel)) (fun _ h9 => h9) rfl dX8_addSight_1 ?_
    refine lv_bipush (v := (6 : Int32)) hx hb dX8_addSight_4 (by decide) ?_
    refine lv_imul hx hb dX8_addSight_6 ?_
    refine lv_istore (lv' := [(7, .int (v0_amount * (6 : Int32))), (0, .ref h0), (1, .int a1), (2, .int a2), (3, .int a3), (4, .int a4), (5, .int a5), (6, .int a6)]) hx hb dX8_addSight_7 hl (by decide) rfl (fun ls hl => ?_)
    refine lv_aload_n hx hb dX8_addSight_9 rfl (lv_at hl 1 rfl) ?_
    refine va_get (D := (dC, dI)) (ci := 8) (v := .int v0_amount) (C := RX8) (T := TX8) (N := 4) hx hb hts hinX8 hown hK hP 0 rfl rfl 2 (by decide) (hts (.fieldLink RX8 32 "WasItOut$World" "amount" "I") (by decide +kernel)) (fun _ h9 => h9) rfl dX8_addSight_10 ?_
    refine lv_bipush (v := (30 : Int32)) hx hb dX8_addSight_13 (by decide) ?_
    refine lv_icmp_ge (tgt := 36) hx hb dX8_addSight_15 (by decide) (fun cc => ?_) (fun cc => ?_)
    · have hrun := oi_t hrun cc
      refine lv_bipush (v := (-3 : Int32)) hx hb dX8_addSight_36 (by decide) ?_
      cases hrun
      have hP9 : va_P (dC, dI) vwCl [(h0, .inr (8, [g0_start, .ref h1, .int v0_amount, g0_left])), (h1, .inl (k1, 180, .inl c1))] H := hP
      have hD9 : va_D A [(h0, .inr (8, [g0_start, .ref h1, .int v0_amount, g0_left])), (h1, .inl (k1, 180, .inl c1))] := hD
      exact W.iret hx hb hr (fun t ht hW => ⟨⟨_, (), rfl, rfl, by rw [ht]; exact hP9, va_K.moved hW.alike hK, hD9⟩, hS.F ht⟩) hS.2.2 dX8_addSight_38
    · have hrun := oi_f hrun cc
      refine lv_iload hx hb dX8_addSight_18 (lv_at hl 0 rfl) ?_
      refine lv_if_lt (tgt := 36) hx hb dX8_addSight_20 (by decide) (fun cc => ?_) (fun cc => ?_)
      · have hrun := oi_t hrun cc
        refine lv_bipush (v := (-3 : Int32)) hx hb dX8_addSight_36 (by decide) ?_
        cases hrun
        have hP9 : va_P (dC, dI) vwCl [(h0, .inr (8, [g0_start, .ref h1, .int v0_amount, g0_left])), (h1, .inl (k1, 180, .inl c1))] H := hP
        have hD9 : va_D A [(h0, .inr (8, [g0_start, .ref h1, .int v0_amount, g0_left])), (h1, .inl (k1, 180, .inl c1))] := hD
        exact W.iret hx hb hr (fun t ht hW => ⟨⟨_, (), rfl, rfl, by rw [ht]; exact hP9, va_K.moved hW.alike hK, hD9⟩, hS.F ht⟩) hS.2.2 dX8_addSight_38
      · have hrun := oi_f hrun cc
        refine lv_iload hx hb dX8_addSight_23 (lv_at hl 0 rfl) ?_
        refine lv_bipush (v := (6 : Int32)) hx hb dX8_addSight_25 (by decide) ?_
        refine lv_iadd hx hb dX8_addSight_27 ?_
        refine lv_aload_n hx hb dX8_addSight_28 rfl (lv_at hl 1 rfl) ?_
        refine va_get (D := (dC, dI)) (ci := 8) (v := .ref h1) (C := RX8) (T := TX8) (N := 4) hx hb hts hinX8 hown hK hP 0 rfl rfl 1 (by decide) (hts (.fieldLink RX8 15 "WasItOut$World" "rows" "[I") (by decide +kernel)) (fun _ h9 => h9) rfl dX8_addSight_29 ?_
        refine va_alen (v := (180 : Int32)) hx hb hK hP 1 0 rfl rfl (by first | rfl | decide) dX8_addSight_32 ?_
        refine lv_icmp_le (tgt := 39) hx hb dX8_addSight_33 (by decide) (fun cc => ?_) (fun cc => ?_)
        · have hrun := oi_t hrun cc
          refine lv_aload_n hx hb dX8_addSight_39 rfl (lv_at hl 1 rfl) ?_
          refine va_get (D := (dC, dI)) (ci := 8) (v := .ref h1) (C := RX8) (T := TX8) (N := 4) hx hb hts hinX8 hown hK hP 0 rfl rfl 1 (by decide) (hts (.fieldLink RX8 15 "WasItOut$World" "rows" "[I") (by decide +kernel)) (fun _ h9 => h9) rfl dX8_addSight_40 ?_
          refine lv_iload hx hb dX8_addSight_43 (lv_at hl 0 rfl) ?_
          refine lv_iload_n hx hb dX8_addSight_45 rfl (lv_at hl 2 rfl) ?_
          obtain ⟨hi, hrun⟩ := oi_x hrun
          refine va_iast hx hb hK hP hD hS 1 0 rfl rfl hi dX8_addSight_46 (fun H locs hP hD hS => ?_)
          have hP : va_P (dC, dI) vwCl [(h0, .inr (8, [g0_start, .ref h1, .int v0_amount, g0_left])), (h1, .inl (k1, 180, .inl (upd c1 (v0_amount * (6 : Int32)).toNatClampNeg a1)))] H := hP
          have hD : va_D A [(h0, .inr (8, [g0_start, .ref h1, .int v0_amount, g0_left])), (h1, .inl (k1, 180, .inl (upd c1 (v0_amount * (6 : Int32)).toNatClampNeg a1)))] := hD
          refine lv_aload_n hx hb dX8_addSight_47 rfl (lv_at hl 1 rfl) ?_
          refine va_get (D := (dC, dI)) (ci := 8) (v := .ref h1) (C := RX8) (T := TX8) (N := 4) hx hb hts hinX8 hown hK hP 0 rfl rfl 1 (by decide) (hts (.fieldLink RX8 15 "WasItOut$World" "rows" "[I") (by decide +kernel)) (fun _ h9 => h9) rfl dX8_addSight_48 ?_
          refine lv_iload hx hb dX8_addSight_51 (lv_at hl 0 rfl) ?_
          refine lv_iconst (v := (1 : Int32)) hx hb dX8_addSight_53 (by decide) ?_
          refine lv_iadd hx hb dX8_addSight_54 ?_
          refine lv_iload_n hx hb dX8_addSight_55 rfl (lv_at hl 3 rfl) ?_
          obtain ⟨hi, hrun⟩ := oi_x hrun
          refine va_iast hx hb hK hP hD hS 1 0 rfl rfl hi dX8_addSight_56 (fun H locs hP hD hS => ?_)
          have hP : va_P (dC, dI) vwCl [(h0, .inr (8, [g0_start, .ref h1, .int v0_amount, g0_left])), (h1, .inl (k1, 180, .inl (upd (upd c1 (v0_amount * (6 : Int32)).toNatClampNeg a1) ((v0_amount * (6 : Int32)) + (1 : Int32)).toNatClampNeg a2)))] H := hP
          have hD : va_D A [(h0, .inr (8, [g0_start, .ref h1, .int v0_amount, g0_left])), (h1, .inl (k1, 180, .inl (upd (upd c1 (v0_amount * (6 : Int32)).toNatClampNeg a1) ((v0_amount * (6 : Int32)) + (1 : Int32)).toNatClampNeg a2)))] := hD
          refine lv_aload_n hx hb dX8_addSight_57 rfl (lv_at hl 1 rfl) ?_
          refine va_get (D := (dC, dI)) (ci := 8) (v := .ref h1) (C := RX8) (T := TX8) (N := 4) hx hb hts hinX8 hown hK hP 0 rfl rfl 1 (by decide) (hts (.fieldLink RX8 15 "WasItOut$World" "rows" "[I") (by decide +kernel)) (fun _ h9 => h9) rfl dX8_addSight_58 ?_
          refine lv_iload hx hb dX8_addSight_61 (lv_at hl 0 rfl) ?_
          refine lv_iconst (v := (2 : Int32)) hx hb dX8_addSight_63 (by decide) ?_
          refine lv_iadd hx hb dX8_addSight_64 ?_
          refine lv_iload_n hx hb dX8_addSight_65 rfl (lv_at hl 4 rfl) ?_
          obtain ⟨hi, hrun⟩ := oi_x hrun
          refine va_iast hx hb hK hP hD hS 1 0 rfl rfl hi dX8_addSight_66 (fun H locs hP hD hS => ?_)
          have hP : va_P (dC, dI) vwCl [(h0, .inr (8, [g0_start, .ref h1, .int v0_amount, g0_left])), (h1, .inl (k1, 180, .inl (upd (upd (upd c1 (v0_amount * (6 : Int32)).toNatClampNeg a1) ((v0_amount * (6 : Int32)) + (1 : Int32)).toNatClampNeg a2) ((v0_amount * (6 : Int32)) + (2 : Int32)).toNatClampNeg a3)))] H := hP
          have hD : va_D A [(h0, .inr (8, [g0_start, .ref h1, .int v0_amount, g0_left])), (h1, .inl (k1, 180, .inl (upd (upd (upd c1 (v0_amount * (6 : Int32)).toNatClampNeg a1) ((v0_amount * (6 : Int32)) + (1 : Int32)).toNatClampNeg a2) ((v0_amount * (6 : Int32)) + (2 : Int32)).toNatClampNeg a3)))] := hD
          refine lv_aload_n hx hb dX8_addSight_67 rfl (lv_at hl 1 rfl) ?_
          refine va_get (D := (dC, dI)) (ci := 8) (v := .ref h1) (C := RX8) (T := TX8) (N := 4) hx hb hts hinX8 hown hK hP 0 rfl rfl 1 (by decide) (hts (.fieldLink RX8 15 "WasItOut$World" "rows" "[I") (by decide +kernel)) (fun _ h9 => h9) rfl dX8_addSight_68 ?_
          refine lv_iload hx hb dX8_addSight_71 (lv_at hl 0 rfl) ?_
          refine lv_iconst (v := (3 : Int32)) hx hb dX8_addSight_73 (by decide) ?_
          refine lv_iadd hx hb dX8_addSight_74 ?_
          refine lv_iload hx hb dX8_addSight_75 (lv_at hl 5 rfl) ?_
          obtain ⟨hi, hrun⟩ := oi_x hrun
          refine va_iast hx hb hK hP hD hS 1 0 rfl rfl hi dX8_addSight_77 (fun H locs hP hD hS => ?_)
          have hP : va_P (dC, dI) vwCl [(h0, .inr (8, [g0_start, .ref h1, .int v0_amount, g0_left])), (h1, .inl (k1, 180, .inl (upd (upd (upd (upd c1 (v0_amount * (6 : Int32)).toNatClampNeg a1) ((v0_amount * (6 : Int32)) + (1 : Int32)).toNatClampNeg a2) ((v0_amount * (6 : Int32)) + (2 : Int32)).toNatClampNeg a3) ((v0_amount * (6 : Int32)) + (3 : Int32)).toNatClampNeg a4)))] H := hP
          have hD : va_D A [(h0, .inr (8, [g0_start, .ref h1, .int v0_amount, g0_left])), (h1, .inl (k1, 180, .inl (upd (upd (upd (upd c1 (v0_amount * (6 : Int32)).toNatClampNeg a1) ((v0_amount * (6 : Int32)) + (1 : Int32)).toNatClampNeg a2) ((v0_amount * (6 : Int32)) + (2 : Int32)).toNatClampNeg a3) ((v0_amount * (6 : Int32)) + (3 : Int32)).toNatClampNeg a4)))] := hD
          refine lv_aload_n hx hb dX8_addSight_78 rfl (lv_at hl 1 rfl) ?_
          refine va_get (D := (dC, dI)) (ci := 8) (v := .ref h1) (C := RX8) (T := TX8) (N := 4) hx hb hts hinX8 hown hK hP 0 rfl rfl 1 (by decide) (hts (.fieldLink RX8 15 "WasItOut$World" "rows" "[I") (by decide +kernel)) (fun _ h9 => h9) rfl dX8_addSight_79 ?_
          refine lv_iload hx hb dX8_addSight_82 (lv_at hl 0 rfl) ?_
          refine lv_iconst (v := (4 : Int32)) hx hb dX8_addSight_84 (by decide) ?_
          refine lv_iadd hx hb dX8_addSight_85 ?_
          refine lv_iload hx hb dX8_addSight_86 (lv_at hl 6 rfl) ?_
          obtain ⟨hi, hrun⟩ := oi_x hrun
          refine va_iast hx hb hK hP hD hS 1 0 rfl rfl hi dX8_addSight_88 (fun H locs hP hD hS => ?_)
          have hP : va_P (dC, dI) vwCl [(h0, .inr (8, [g0_start, .ref h1, .int v0_amount, g0_left])), (h1, .inl (k1, 180, .inl (upd (upd (upd (upd (upd c1 (v0_amount * (6 : Int32)).toNatClampNeg a1) ((v0_amount * (6 : Int32)) + (1 : Int32)).toNatClampNeg a2) ((v0_amount * (6 : Int32)) + (2 : Int32)).toNatClampNeg a3) ((v0_amount * (6 : Int32)) + (3 : Int32)).toNatClampNeg a4) ((v0_amount * (6 : Int32)) + (4 : Int32)).toNatClampNeg a5)))] H := hP
          have hD : va_D A [(h0, .inr (8, [g0_start, .ref h1, .int v0_amount, g0_left])), (h1, .inl (k1, 180, .inl (upd (upd (upd (upd (upd c1 (v0_amount * (6 : Int32)).toNatClampNeg a1) ((v0_amount * (6 : Int32)) + (1 : Int32)).toNatClampNeg a2) ((v0_amount * (6 : Int32)) + (2 : Int32)).toNatClampNeg a3) ((v0_amount * (6 : Int32)) + (3 : Int32)).toNatClampNeg a4) ((v0_amount * (6 : Int32)) + (4 : Int32)).toNatClampNeg a5)))] := hD
          refine lv_aload_n hx hb dX8_addSight_89 rfl (lv_at hl 1 rfl) ?_
          refine va_get (D := (dC, dI)) (ci := 8) (v := .ref h1) (C := RX8) (T := TX8) (N := 4) hx hb hts hinX8 hown hK hP 0 rfl rfl 1 (by decide) (hts (.fieldLink RX8 15 "WasItOut$World" "rows" "[I") (by decide +kernel)) (fun _ h9 => h9) rfl dX8_addSight_90 ?_
          refine lv_iload hx hb dX8_addSight_93 (lv_at hl 0 rfl) ?_
          refine lv_iconst (v := (5 : Int32)) hx hb dX8_addSight_95 (by decide) ?_
          refine lv_iadd hx hb dX8_addSight_96 ?_
          refine lv_iload hx hb dX8_addSight_97 (lv_at hl 7 rfl) ?_
          obtain ⟨hi, hrun⟩ := oi_x hrun
          refine va_iast hx hb hK hP hD hS 1 0 rfl rfl hi dX8_addSight_99 (fun H locs hP hD hS => ?_)
          have hP : va_P (dC, dI) vwCl [(h0, .inr (8, [g0_start, .ref h1, .int v0_amount, g0_left])), (h1, .inl (k1, 180, .inl (upd (upd (upd (upd (upd (upd c1 (v0_amount * (6 : Int32)).toNatClampNeg a1) ((v0_amount * (6 : Int32)) + (1 : Int32)).toNatClampNeg a2) ((v0_amount * (6 : Int32)) + (2 : Int32)).toNatClampNeg a3) ((v0_amount * (6 : Int32)) + (3 : Int32)).toNatClampNeg a4) ((v0_amount * (6 : Int32)) + (4 : Int32)).toNatClampNeg a5) ((v0_amount * (6 : Int32)) + (5 : Int32)).toNatClampNeg a6)))] H := hP
          have hD : va_D A [(h0, .inr (8, [g0_start, .ref h1, .int v0_amount, g0_left])), (h1, .inl (k1, 180, .inl (upd (upd (upd (upd (upd (upd c1 (v0_amount * (6 : Int32)).toNatClampNeg a1) ((v0_amount * (6 : Int32)) + (1 : Int32)).toNatClampNeg a2) ((v0_amount * (6 : Int32)) + (2 : Int32)).toNatClampNeg a3) ((v0_amount * (6 : Int32)) + (3 : Int32)).toNatClampNeg a4) ((v0_amount * (6 : Int32)) + (4 : Int32)).toNatClampNeg a5) ((v0_amount * (6 : Int32)) + (5 : Int32)).toNatClampNeg a6)))] := hD
          refine lv_aload_n hx hb dX8_addSight_100 rfl (lv_at hl 1 rfl) ?_
          refine lv_dup hx hb dX8_addSight_101 rfl ?_
          refine va_get (D := (dC, dI)) (ci := 8) (v := .int v0_amount) (C := RX8) (T := TX8) (N := 4) hx hb hts hinX8 hown hK hP 0 rfl rfl 2 (by decide) (hts (.fieldLink RX8 32 "WasItOut$World" "amount" "I") (by decide +kernel)) (fun _ h9 => h9) rfl dX8_addSight_102 ?_
          refine lv_iconst (v := (1 : Int32)) hx hb dX8_addSight_105 (by decide) ?_
          refine lv_iadd hx hb dX8_addSight_106 ?_
          refine va_put (D := (dC, dI)) (ci := 8) (v := .int (v0_amount + (1 : Int32))) (ty := .int) (C := RX8) (T := TX8) (N := 4) hx hb hts hinX8 tyX8 tyX8_ok nmX8 hown hK hP hD hS 0 rfl rfl 2 (by decide) (hts (.fieldLink RX8 32 "WasItOut$World" "amount" "I") (by decide +kernel)) (fun _ h9 => h9) rfl (by decide +kernel) rfl rfl (Nat.le_of_ble_eq_true rfl) dX8_addSight_107 (fun H locs hP hD hS => ?_)
          have hP : va_P (dC, dI) vwCl [(h0, .inr (8, [g0_start, .ref h1, .int (v0_amount + (1 : Int32)), g0_left])), (h1, .inl (k1, 180, .inl (upd (upd (upd (upd (upd (upd c1 (v0_amount * (6 : Int32)).toNatClampNeg a1) ((v0_amount * (6 : Int32)) + (1 : Int32)).toNatClampNeg a2) ((v0_amount * (6 : Int32)) + (2 : Int32)).toNatClampNeg a3) ((v0_amount * (6 : Int32)) + (3 : Int32)).toNatClampNeg a4) ((v0_amount * (6 : Int32)) + (4 : Int32)).toNatClampNeg a5) ((v0_amount * (6 : Int32)) + (5 : Int32)).toNatClampNeg a6)))] H := hP
          have hD : va_D A [(h0, .inr (8, [g0_start, .ref h1, .int (v0_amount + (1 : Int32)), g0_left])), (h1, .inl (k1, 180, .inl (upd (upd (upd (upd (upd (upd c1 (v0_amount * (6 : Int32)).toNatClampNeg a1) ((v0_amount * (6 : Int32)) + (1 : Int32)).toNatClampNeg a2) ((v0_amount * (6 : Int32)) + (2 : Int32)).toNatClampNeg a3) ((v0_amount * (6 : Int32)) + (3 : Int32)).toNatClampNeg a4) ((v0_amount * (6 : Int32)) + (4 : Int32)).toNatClampNeg a5) ((v0_amount * (6 : Int32)) + (5 : Int32)).toNatClampNeg a6)))] := hD
          refine lv_aload_n hx hb dX8_addSight_110 rfl (lv_at hl 1 rfl) ?_
          refine va_get (D := (dC, dI)) (ci := 8) (v := .int (v0_amount + (1 : Int32))) (C := RX8) (T := TX8) (N := 4) hx hb hts hinX8 hown hK hP 0 rfl rfl 2 (by decide) (hts (.fieldLink RX8 32 "WasItOut$World" "amount" "I") (by decide +kernel)) (fun _ h9 => h9) rfl dX8_addSight_111 ?_
          refine lv_iconst (v := (1 : Int32)) hx hb dX8_addSight_114 (by decide) ?_
          refine lv_isub hx hb dX8_addSight_115 ?_
          cases hrun
          have hP9 : va_P (dC, dI) vwCl [(h0, .inr (8, [g0_start, .ref h1, .int (v0_amount + (1 : Int32)), g0_left])), (h1, .inl (k1, 180, .inl (upd (upd (upd (upd (upd (upd c1 (v0_amount * (6 : Int32)).toNatClampNeg a1) ((v0_amount * (6 : Int32)) + (1 : Int32)).toNatClampNeg a2) ((v0_amount * (6 : Int32)) + (2 : Int32)).toNatClampNeg a3) ((v0_amount * (6 : Int32)) + (3 : Int32)).toNatClampNeg a4) ((v0_amount * (6 : Int32)) + (4 : Int32)).toNatClampNeg a5) ((v0_amount * (6 : Int32)) + (5 : Int32)).toNatClampNeg a6)))] H := hP
          have hD9 : va_D A [(h0, .inr (8, [g0_start, .ref h1, .int (v0_amount + (1 : Int32)), g0_left])), (h1, .inl (k1, 180, .inl (upd (upd (upd (upd (upd (upd c1 (v0_amount * (6 : Int32)).toNatClampNeg a1) ((v0_amount * (6 : Int32)) + (1 : Int32)).toNatClampNeg a2) ((v0_amount * (6 : Int32)) + (2 : Int32)).toNatClampNeg a3) ((v0_amount * (6 : Int32)) + (3 : Int32)).toNatClampNeg a4) ((v0_amount * (6 : Int32)) + (4 : Int32)).toNatClampNeg a5) ((v0_amount * (6 : Int32)) + (5 : Int32)).toNatClampNeg a6)))] := hD
          exact W.iret hx hb hr (fun t ht hW => ⟨⟨_, (), rfl, rfl, by rw [ht]; exact hP9, va_K.moved hW.alike hK, hD9⟩, hS.F ht⟩) hS.2.2 dX8_addSight_116
        · have hrun := oi_f hrun cc
          refine lv_bipush (v := (-3 : Int32)) hx hb dX8_addSight_36 (by decide) ?_
          cases hrun
          have hP9 : va_P (dC, dI) vwCl [(h0, .inr (8, [g0_start, .ref h1, .int v0_amount, g0_left])), (h1, .inl (k1, 180, .inl c1))] H := hP
          have hD9 : va_D A [(h0, .inr (8, [g0_start, .ref h1, .int v0_amount, g0_left])), (h1, .inl (k1, 180, .inl c1))] := hD
          exact W.iret hx hb hr (fun t ht hW => ⟨⟨_, (), rfl, rfl, by rw [ht]; exact hP9, va_K.moved hW.alike hK, hD9⟩, hS.F ht⟩) hS.2.2 dX8_addSight_38
  rw [hHe, hLe] at key
  exact key
set_option maxHeartbeats 4000000 in
set_option maxRecDepth 100000 in
theorem tX8_begin (l : Launch) (dC : Nat → ClassId) (dI : Nat → Nat → Nat) (sz : Nat) (h0 h1 : Nat) (k1 : ClassId) (g0_rows g0_amount g0_left : Value) (N : Nat) (a1 : Int32) (a2 : Int32) (c1 : Nat → Int32) (ru : Int32 × (Nat → Int32)) (hm : fX8_begin N a1 a2 c1 = some ru) : Met l yX8_begin wsX8_begin ({ frames := 1, cells := 0, slots := 0, locals := 21 } : Room) (va_Pc [.ref h0, .int a1, .int a2] (fun U => U.heap.size = sz ∧ va_P (dC, dI) vwCl [(h0, .inr (8, [.ref h1, g0_rows, g0_amount, g0_left])), (h1, .inl (k1, 6, .inl c1))] U.heap ∧ va_K (dC, dI) vwCl [(k1, .int)] U ∧ va_D (fun _ => True) [(h0, .inr (8, [.ref h1, g0_rows, g0_amount, g0_left])), (h1, .inl (k1, 6, .inl c1))])) (va_Qi (fun r (_ : Unit) => r = ru.1) (fun (_ : Unit) t => va_P (dC, dI) vwCl [(h0, .inr (8, [.ref h1, g0_rows, g0_amount, g0_left])), (h1, .inl (k1, 6, .inl ru.2))] t.heap ∧ va_K (dC, dI) vwCl [(k1, .int)] t ∧ va_D (va_A [(h0, .inr (8, [.ref h1, g0_rows, g0_amount, g0_left])), (h1, .inl (k1, 6, .inl c1))] sz) [(h0, .inr (8, [.ref h1, g0_rows, g0_amount, g0_left])), (h1, .inl (k1, 6, .inl ru.2))]) (va_A [(h0, .inr (8, [.ref h1, g0_rows, g0_amount, g0_left])), (h1, .inl (k1, 6, .inl c1))] sz)) 0 0 (va_A [(h0, .inr (8, [.ref h1, g0_rows, g0_amount, g0_left])), (h1, .inl (k1, 6, .inl c1))] sz) := by
  refine Met.ofW (cc := cX8_begin) (maxL := 4) (ret := (some .int)) (by decide) rfl ?_
  intro p e s m args below meth c s₁ B hml hv
  obtain ⟨rfl, hsz, hP, hK, hD0⟩ := hv
  have hx := B.exec
  have hb := B.bytes
  have hr := B.returns
  have hts := atoms_spec (ws := wsX8_begin) B.pre
  have hown : s.vm.findClass RX8 = some m.cls := findClass_of_methodNamed B.named
  have hlocks := B.notSynchronized
  subst hsz
  have hD := hD0.self (sz := s.heap.size)
  generalize hAe : va_A [(h0, .inr (8, [.ref h1, g0_rows, g0_amount, g0_left])), (h1, .inl (k1, 6, .inl c1))] s.heap.size = A at hD ⊢
  have hA : ∀ q : Nat, s.heap.size ≤ q → A q := fun q h => by rw [← hAe]; exact Or.inr h
  have hS : va_S A s.heap s.heap [] := va_S.rf
  have hinX8 : ∀ w ∈ wsX80, w ∈ wsX8_begin := by decide +kernel
  have hl := lv_entry ([.ref h0, .int a1, .int a2]) (n := 4) (Nat.le_of_ble_eq_true rfl)
  rw [lg_entry_eq]
  generalize (lg_sl ([.ref h0, .int a1, .int a2]) ++ List.replicate (4 - (lg_sl ([.ref h0, .int a1, .int a2])).length) Slot.unset).toArray = ls at hl ⊢
  have hl : lv_has ls 4 [(0, .ref h0), (1, .int a1), (2, .int a2)] := hl
  have hrun := hm
  rw [fX8_begin] at hrun
  obtain ⟨H, hHe⟩ : ∃ H, H = s.heap := ⟨_, rfl⟩
  obtain ⟨locs, hLe⟩ : ∃ locs : List Loc, locs = [] := ⟨_, rfl⟩
  rw [← hHe] at hP
  have hS : va_S A s.heap H locs := by rw [hHe, hLe]; exact hS
  have key : W p l e (headSpec wsX8_begin ({ frames := 1, cells := 0, slots := 0, locals := 21 } : Room)).room s m ([.ref h0, .int a1, .int a2] : List Value).toArray below meth c H locs 0 0 (MQ below (va_Qi (fun r (_ : Unit) => r = ru.1) (fun (_ : Unit) t => va_P (dC, dI) vwCl [(h0, .inr (8, [.ref h1, g0_rows, g0_amount, g0_left])), (h1, .inl (k1, 6, .inl ru.2))] t.heap ∧ va_K (dC, dI) vwCl [(k1, .int)] t ∧ va_D A [(h0, .inr (8, [.ref h1, g0_rows, g0_amount, g0_left])), (h1, .inl (k1, 6, .inl ru.2))]) A) ([.ref h0, .int a1, .int a2] : List Value).toArray s 0 0 A) (F0 m 0 ls []) := by
    clear hHe hLe
    refine lv_aload_n hx hb dX8_begin_0 rfl (lv_at hl 0 rfl) ?_
    refine lv_iload_n hx hb dX8_begin_1 rfl (lv_at hl 1 rfl) ?_
    obtain ⟨q2, hc2, hrun⟩ := ob_e hrun
    refine wz_csi (va_runV (As := [.int a1]) (rest := []) ⟨hx, hb, hml, hown, hts⟩ (tX8_startOf l dC dI h0 h1 k1 (g0_rows) (g0_amount) (g0_left) N a1 c1 q2 hc2) (cwV 1 hts gX8_begin_X8_startOf rfl rfl rfl (by decide +kernel) ⟨Nat.le_of_ble_eq_true rfl, Nat.le_of_ble_eq_true rfl⟩) (wz_pVr (hP.sub (ws' := [(h0, .inr (8, [.ref h1, g0_rows, g0_amount, g0_left])), (h1, .inl (k1, 6, .inl c1))]) [0, 1] rfl) (hK.sub (tys' := [(k1, .int)]) [0] rfl) (va_recv hK hP (ci := 8) (q0 := 0) rfl rfl)) rfl rfl hl.1 rfl (lv_room (Nat.le_of_ble_eq_true rfl)) dX8_begin_2 ⟨Nat.zero_le _, Nat.zero_le _⟩) ?_
    refine lv_istore_n (lv' := [(3, .int q2), (0, .ref h0), (1, .int a1), (2, .int a2)]) hx hb dX8_begin_5 rfl hl (by decide) rfl (fun ls hl => ?_)
    refine lv_iload_n hx hb dX8_begin_6 rfl (lv_at hl 2 rfl) ?_
    refine lv_if_lt (tgt := 26) hx hb dX8_begin_7 (by decide) (fun cc => ?_) (fun cc => ?_)
    · have hrun := oi_t hrun cc
      refine lv_iload_n hx hb dX8_begin_26 rfl (lv_at hl 0 rfl) ?_
      cases hrun
      have hP9 : va_P (dC, dI) vwCl [(h0, .inr (8, [.ref h1, g0_rows, g0_amount, g0_left])), (h1, .inl (k1, 6, .inl c1))] H := hP
      have hD9 : va_D A [(h0, .inr (8, [.ref h1, g0_rows, g0_amount, g0_left])), (h1, .inl (k1, 6, .inl c1))] := hD
      exact W.iret hx hb hr (fun t ht hW => ⟨⟨_, (), rfl, rfl, by rw [ht]; exact hP9, va_K.moved hW.alike hK, hD9⟩, hS.F ht⟩) hS.2.2 dX8_begin_27
    · have hrun := oi_f hrun cc
      refine lv_iload_n hx hb dX8_begin_10 rfl (lv_at hl 2 rfl) ?_
      refine lv_aload_n hx hb dX8_begin_11 rfl (lv_at hl 1 rfl) ?_
      refine va_get (D := (dC, dI)) (ci := 8) (v := .ref h1) (C := RX8) (T := TX8) (N := 4) hx hb hts hinX8 hown hK hP 0 rfl rfl 0 (by decide) (hts (.fieldLink RX8 9 "WasItOut$World" "start" "[I") (by decide +kernel)) (fun _ h9 => h9) rfl dX8_begin_12 ?_
      refine va_alen (v := (6 : Int32)) hx hb hK hP 1 0 rfl rfl (by first | rfl | decide) dX8_begin_15 ?_
      refine lv_icmp_ge (tgt := 26) hx hb dX8_begin_16 (by decide) (fun cc => ?_) (fun cc => ?_)
      · have hrun := oi_t hrun cc
        refine lv_iload_n hx hb dX8_begin_26 rfl (lv_at hl 0 rfl) ?_
        cases hrun
        have hP9 : va_P (dC, dI) vwCl [(h0, .inr (8, [.ref h1, g0_rows, g0_amount, g0_left])), (h1, .inl (k1, 6, .inl c1))] H := hP
        have hD9 : va_D A [(h0, .inr (8, [.ref h1, g0_rows, g0_amount, g0_left])), (h1, .inl (k1, 6, .inl c1))] := hD
        exact W.iret hx hb hr (fun t ht hW => ⟨⟨_, (), rfl, rfl, by rw [ht]; exact hP9, va_K.moved hW.alike hK, hD9⟩, hS.F ht⟩) hS.2.2 dX8_begin_27
      · have hrun := oi_f hrun cc
        refine lv_aload_n hx hb dX8_begin_19 rfl (lv_at hl 1 rfl) ?_
        refine va_get (D := (dC, dI)) (ci := 8) (v := .ref h1) (C := RX8) (T := TX8) (N := 4) hx hb hts hinX8 hown hK hP 0 rfl rfl 0 (by decide) (hts (.fieldLink RX8 9 "WasItOut$World" "start" "[I") (by decide +kernel)) (fun _ h9 => h9) rfl dX8_begin_20 ?_
        refine lv_iload_n hx hb dX8_begin_23 rfl (lv_at hl 2 rfl) ?_
        refine lv_iload_n hx hb dX8_begin_24 rfl (lv_at hl 3 rfl) ?_
        obtain ⟨hi, hrun⟩ := oi_x hrun
        refine va_iast hx hb hK hP hD hS 1 0 rfl rfl hi dX8_begin_25 (fun H locs hP hD hS => ?_)
        have hP : va_P (dC, dI) vwCl [(h0, .inr (8, [.ref h1, g0_rows, g0_amount, g0_left])), (h1, .inl (k1, 6, .inl (upd c1 a1.toNatClampNeg a2)))] H := hP
        have hD : va_D A [(h0, .inr (8, [.ref h1, g0_rows, g0_amount, g0_left])), (h1, .inl (k1, 6, .inl (upd c1 a1.toNatClampNeg a2)))] := hD
        refine lv_iload_n hx hb dX8_begin_26 rfl (lv_at hl 0 rfl) ?_
        cases hrun
        have hP9 : va_P (dC, dI) vwCl [(h0, .inr (8, [.ref h1, g0_rows, g0_amount, g0_left])), (h1, .inl (k1, 6, .inl (upd c1 a1.toNatClampNeg a2)))] H := hP
        have hD9 : va_D A [(h0, .inr (8, [.ref h1, g0_rows, g0_amount, g0_left])), (h1, .inl (k1, 6, .inl (upd c1 a1.toNatClampNeg a2)))] := hD
        exact W.iret hx hb hr (fun t ht hW => ⟨⟨_, (), rfl, rfl, by rw [ht]; exact hP9, va_K.moved hW.alike hK, hD9⟩, hS.F ht⟩) hS.2.2 dX8_begin_27
  rw [hHe, hLe] at key
  exact key
set_option maxHeartbeats 4000000 in
set_option maxRecDepth 100000 in
theorem tX8_copyOf (l : Launch) (dC : Nat → ClassId) (dI : Nat → Nat → Nat) (sz : Nat) (h0 h1 h2 h3 h4 h5 : Nat) (k1 k2 k4 k5 : ClassId) (N : Nat)  (v0_amount : Int32) (v0_left : Int32) (c1 : Nat → Int32) (c2 : Nat → Int32) (v3_amount : Int32) (v3_left : Int32) (c4 : Nat → Int32) (c5 : Nat → Int32) (ru : (Int32) × (Int32) × (Nat → Int32) × (Nat → Int32)) (hm : fX8_copyOf N v0_amount v0_left c1 c2 v3_amount v3_left c4 c5 = some ru) : Met l yX8_copyOf wsX8_copyOf ({ frames := 1, cells := 0, slots := 0, locals := 30 } : Room) (va_Pc [.ref h0, .ref h3] (fun U => U.heap.size = sz ∧ va_P (dC, dI) vwCl [(h0, .inr (8, [.ref h2, .ref h1, .int v0_amount, .int v0_left])), (h1, .inl (k1, 180, .inl c1)), (h2, .inl (k2, 6, .inl c2)), (h3, .inr (8, [.ref h5, .ref h4, .int v3_amount, .int v3_left])), (h4, .inl (k4, 180, .inl c4)), (h5, .inl (k5, 6, .inl c5))] U.heap ∧ va_K (dC, dI) vwCl [(k1, .int), (k2, .int), (k4, .int), (k5, .int)] U ∧ va_D (fun _ => True) [(h0, .inr (8, [.ref h2, .ref h1, .int v0_amount, .int v0_left])), (h1, .inl (k1, 180, .inl c1)), (h2, .inl (k2, 6, .inl c2)), (h3, .inr (8, [.ref h5, .ref h4, .int v3_amount, .int v3_left])), (h4, .inl (k4, 180, .inl c4)), (h5, .inl (k5, 6, .inl c5))])) (va_Qv (fun (_ : Unit) => True) (fun (_ : Unit) t => va_P (dC, dI) vwCl [(h0, .inr (8, [.ref h2, .ref h1, .int ru.1, .int ru.2.1])), (h1, .inl (k1, 180, .inl ru.2.2.1)), (h2, .inl (k2, 6, .inl ru.2.2.2)), (h3, .inr (8, [.ref h5, .ref h4, .int v3_amount, .int v3_left])), (h4, .inl (k4, 180, .inl c4)), (h5, .inl (k5, 6, .inl c5))] t.heap ∧ va_K (dC, dI) vwCl [(k1, .int), (k2, .int), (k4, .int), (k5, .int)] t ∧ va_D (va_A [(h0, .inr (8, [.ref h2, .ref h1, .int v0_amount, .int v0_left])), (h1, .inl (k1, 180, .inl c1)), (h2, .inl (k2, 6, .inl c2)), (h3, .inr (8, [.ref h5, .ref h4, .int v3_amount, .int v3_left])), (h4, .inl (k4, 180, .inl c4)), (h5, .inl (k5, 6, .inl c5))] sz) [(h0, .inr (8, [.ref h2, .ref h1, .int ru.1, .int ru.2.1])), (h1, .inl (k1, 180, .inl ru.2.2.1)), (h2, .inl (k2, 6, .inl ru.2.2.2)), (h3, .inr (8, [.ref h5, .ref h4, .int v3_amount, .int v3_left])), (h4, .inl (k4, 180, .inl c4)), (h5, .inl (k5, 6, .inl c5))]) (va_A [(h0, .inr (8, [.ref h2, .ref h1, .int v0_amount, .int v0_left])), (h1, .inl (k1, 180, .inl c1)), (h2, .inl (k2, 6, .inl c2)), (h3, .inr (8, [.ref h5, .ref h4, .int v3_amount, .int v3_left])), (h4, .inl (k4, 180, .inl c4)), (h5, .inl (k5, 6, .inl c5))] sz)) 0 0 (va_A [(h0, .inr (8, [.ref h2, .ref h1, .int v0_amount, .int v0_left])), (h1, .inl (k1, 180, .inl c1)), (h2, .inl (k2, 6, .inl c2)), (h3, .inr (8, [.ref h5, .ref h4, .int v3_amount, .int v3_left])), (h4, .inl (k4, 180, .inl c4)), (h5, .inl (k5, 6, .inl c5))] sz) := by
  refine Met.ofW (cc := cX8_copyOf) (maxL := 2) (ret := none) (by decide) rfl ?_
  intro p e s m args below meth c s₁ B hml hv
  obtain ⟨rfl, hsz, hP, hK, hD0⟩ := hv
  have hx := B.exec
  have hb := B.bytes
  have hr := B.returns
  have hts := atoms_spec (ws := wsX8_copyOf) B.pre
  have hown : s.vm.findClass RX8 = some m.cls := findClass_of_methodNamed B.named
  have hlocks := B.notSynchronized
  subst hsz
  have hD := hD0.self (sz := s.heap.size)
  generalize hAe : va_A [(h0, .inr (8, [.ref h2, .ref h1, .int v0_amount, .int v0_left])), (h1, .inl (k1, 180, .inl c1)), (h2, .inl (k2, 6, .inl c2)), (h3, .inr (8, [.ref h5, .ref h4, .int v3_amount, .int v3_left])), (h4, .inl (k4, 180, .inl c4)), (h5, .inl (k5, 6, .inl c5))] s.heap.size = A at hD ⊢
  have hA : ∀ q : Nat, s.heap.size ≤ q → A q := fun q h => by rw [← hAe]; exact Or.inr h
  have hS : va_S A s.heap s.heap [] := va_S.rf
  have hinX8 : ∀ w ∈ wsX80, w ∈ wsX8_copyOf := by decide +kernel
  have hl := lv_entry ([.ref h0, .ref h3]) (n := 2) (Nat.le_of_ble_eq_true rfl)
  rw [lg_entry_eq]
  generalize (lg_sl ([.ref h0, .ref h3]) ++ List.replicate (2 - (lg_sl ([.ref h0, .ref h3])).length) Slot.unset).toArray = ls at hl ⊢
  have hl : lv_has ls 2 [(0, .ref h0), (1, .ref h3)] := hl
  have hrun := hm
  rw [fX8_copyOf] at hrun
  obtain ⟨H, hHe⟩ : ∃ H, H = s.heap := ⟨_, rfl⟩
  obtain ⟨locs, hLe⟩ : ∃ locs : List Loc, locs = [] := ⟨_, rfl⟩
  rw [← hHe] at hP
  have hS : va_S A s.heap H locs := by rw [hHe, hLe]; exact hS
  have key : W p l e (headSpec wsX8_copyOf ({ frames := 1, cells := 0, slots := 0, locals := 30 } : Room)).room s m ([.ref h0, .ref h3] : List Value).toArray below meth c H locs 0 0 (MQ below (va_Qv (fun (_ : Unit) => True) (fun (_ : Unit) t => va_P (dC, dI) vwCl [(h0, .inr (8, [.ref h2, .ref h1, .int ru.1, .int ru.2.1])), (h1, .inl (k1, 180, .inl ru.2.2.1)), (h2, .inl (k2, 6, .inl ru.2.2.2)), (h3, .inr (8, [.ref h5, .ref h4, .int v3_amount, .int v3_left])), (h4, .inl (k4, 180, .inl c4)), (h5, .inl (k5, 6, .inl c5))] t.heap ∧ va_K (dC, dI) vwCl [(k1, .int), (k2, .int), (k4, .int), (k5, .int)] t ∧ va_D A [(h0, .inr (8, [.ref h2, .ref h1, .int ru.1, .int ru.2.1])), (h1, .inl (k1, 180, .inl ru.2.2.1)), (h2, .inl (k2, 6, .inl ru.2.2.2)), (h3, .inr (8, [.ref h5, .ref h4, .int v3_amount, .int v3_left])), (h4, .inl (k4, 180, .inl c4)), (h5, .inl (k5, 6, .inl c5))]) A) ([.ref h0, .ref h3] : List Value).toArray s 0 0 A) (F0 m 0 ls []) := by
    clear hHe hLe
    refine lv_aload_n hx hb dX8_copyOf_0 rfl (lv_at hl 1 rfl) ?_
    refine va_get (D := (dC, dI)) (ci := 8) (v := .ref h5) (C := RX8) (T := TX8) (N := 4) hx hb hts hinX8 hown hK hP 3 rfl rfl 0 (by decide) (hts (.fieldLink RX8 9 "WasItOut$World" "start" "[I") (by decide +kernel)) (fun _ h9 => h9) rfl dX8_copyOf_1 ?_
    refine lv_iconst (v := (0 : Int32)) hx hb dX8_copyOf_4 (by decide) ?_
    refine lv_aload_n hx hb dX8_copyOf_5 rfl (lv_at hl 0 rfl) ?_
    refine va_get (D := (dC, dI)) (ci := 8) (v := .ref h2) (C := RX8) (T := TX8) (N := 4) hx hb hts hinX8 hown hK hP 0 rfl rfl 0 (by decide) (hts (.fieldLink RX8 9 "WasItOut$World" "start" "[I") (by decide +kernel)) (fun _ h9 => h9) rfl dX8_copyOf_6 ?_
    refine lv_iconst (v := (0 : Int32)) hx hb dX8_copyOf_9 (by decide) ?_
    refine lv_aload_n hx hb dX8_copyOf_10 rfl (lv_at hl 0 rfl) ?_
    refine va_get (D := (dC, dI)) (ci := 8) (v := .ref h2) (C := RX8) (T := TX8) (N := 4) hx hb hts hinX8 hown hK hP 0 rfl rfl 0 (by decide) (hts (.fieldLink RX8 9 "WasItOut$World" "start" "[I") (by decide +kernel)) (fun _ h9 => h9) rfl dX8_copyOf_11 ?_
    refine va_alen (v := (6 : Int32)) hx hb hK hP 2 1 rfl rfl (by first | rfl | decide) dX8_copyOf_14 ?_
    refine va_copyi hx hb (hml.trans hl.1.symm) hown (hts (.methodLink RX8 53 arraycopyName) (by decide +kernel)) (hts (.native arraycopyName) (by decide +kernel)) (hts (.static arraycopyName) (by decide +kernel)) (hts (.initialized "java/lang/System") (by decide +kernel)) hK hP hD hS 5 2 3 1 rfl rfl rfl rfl rfl (by decide) (by decide) (by decide) (by decide) (by decide) (fun _ _ => rfl) (Nat.le_of_ble_eq_true rfl) (Nat.le_of_ble_eq_true rfl) dX8_copyOf_15 (fun H locs hP hD hS => ?_)
    have hP : va_P (dC, dI) vwCl [(h0, .inr (8, [.ref h2, .ref h1, .int v0_amount, .int v0_left])), (h1, .inl (k1, 180, .inl c1)), (h2, .inl (k2, 6, .inl (va_cpy c5 c2 (0 : Int32).toNatClampNeg (0 : Int32).toNatClampNeg (6 : Int32).toNatClampNeg))), (h3, .inr (8, [.ref h5, .ref h4, .int v3_amount, .int v3_left])), (h4, .inl (k4, 180, .inl c4)), (h5, .inl (k5, 6, .inl c5))] H := hP
    have hD : va_D A [(h0, .inr (8, [.ref h2, .ref h1, .int v0_amount, .int v0_left])), (h1, .inl (k1, 180, .inl c1)), (h2, .inl (k2, 6, .inl (va_cpy c5 c2 (0 : Int32).toNatClampNeg (0 : Int32).toNatClampNeg (6 : Int32).toNatClampNeg))), (h3, .inr (8, [.ref h5, .ref h4, .int v3_amount, .int v3_left])), (h4, .inl (k4, 180, .inl c4)), (h5, .inl (k5, 6, .inl c5))] := hD
    refine lv_aload_n hx hb dX8_copyOf_18 rfl (lv_at hl 1 rfl) ?_
    refine va_get (D := (dC, dI)) (ci := 8) (v := .ref h4) (C := RX8) (T := TX8) (N := 4) hx hb hts hinX8 hown hK hP 3 rfl rfl 1 (by decide) (hts (.fieldLink RX8 15 "WasItOut$World" "rows" "[I") (by decide +kernel)) (fun _ h9 => h9) rfl dX8_copyOf_19 ?_
    refine lv_iconst (v := (0 : Int32)) hx hb dX8_copyOf_22 (by decide) ?_
    refine lv_aload_n hx hb dX8_copyOf_23 rfl (lv_at hl 0 rfl) ?_
    refine va_get (D := (dC, dI)) (ci := 8) (v := .ref h1) (C := RX8) (T := TX8) (N := 4) hx hb hts hinX8 hown hK hP 0 rfl rfl 1 (by decide) (hts (.fieldLink RX8 15 "WasItOut$World" "rows" "[I") (by decide +kernel)) (fun _ h9 => h9) rfl dX8_copyOf_24 ?_
    refine lv_iconst (v := (0 : Int32)) hx hb dX8_copyOf_27 (by decide) ?_
    refine lv_aload_n hx hb dX8_copyOf_28 rfl (lv_at hl 0 rfl) ?_
    refine va_get (D := (dC, dI)) (ci := 8) (v := .ref h1) (C := RX8) (T := TX8) (N := 4) hx hb hts hinX8 hown hK hP 0 rfl rfl 1 (by decide) (hts (.fieldLink RX8 15 "WasItOut$World" "rows" "[I") (by decide +kernel)) (fun _ h9 => h9) rfl dX8_copyOf_29 ?_
    refine va_alen (v := (180 : Int32)) hx hb hK hP 1 0 rfl rfl (by first | rfl | decide) dX8_copyOf_32 ?_
    refine va_copyi hx hb (hml.trans hl.1.symm) hown (hts (.methodLink RX8 53 arraycopyName) (by decide +kernel)) (hts (.native arraycopyName) (by decide +kernel)) (hts (.static arraycopyName) (by decide +kernel)) (hts (.initialized "java/lang/System") (by decide +kernel)) hK hP hD hS 4 1 2 0 rfl rfl rfl rfl rfl (by decide) (by decide) (by decide) (by decide) (by decide) (fun _ _ => rfl) (Nat.le_of_ble_eq_true rfl) (Nat.le_of_ble_eq_true rfl) dX8_copyOf_33 (fun H locs hP hD hS => ?_)
    have hP : va_P (dC, dI) vwCl [(h0, .inr (8, [.ref h2, .ref h1, .int v0_amount, .int v0_left])), (h1, .inl (k1, 180, .inl (va_cpy c4 c1 (0 : Int32).toNatClampNeg (0 : Int32).toNatClampNeg (180 : Int32).toNatClampNeg))), (h2, .inl (k2, 6, .inl (va_cpy c5 c2 (0 : Int32).toNatClampNeg (0 : Int32).toNatClampNeg (6 : Int32).toNatClampNeg))), (h3, .inr (8, [.ref h5, .ref h4, .int v3_amount, .int v3_left])), (h4, .inl (k4, 180, .inl c4)), (h5, .inl (k5, 6, .inl c5))] H := hP
    have hD : va_D A [(h0, .inr (8, [.ref h2, .ref h1, .int v0_amount, .int v0_left])), (h1, .inl (k1, 180, .inl (va_cpy c4 c1 (0 : Int32).toNatClampNeg (0 : Int32).toNatClampNeg (180 : Int32).toNatClampNeg))), (h2, .inl (k2, 6, .inl (va_cpy c5 c2 (0 : Int32).toNatClampNeg (0 : Int32).toNatClampNeg (6 : Int32).toNatClampNeg))), (h3, .inr (8, [.ref h5, .ref h4, .int v3_amount, .int v3_left])), (h4, .inl (k4, 180, .inl c4)), (h5, .inl (k5, 6, .inl c5))] := hD
    refine lv_aload_n hx hb dX8_copyOf_36 rfl (lv_at hl 0 rfl) ?_
    refine lv_aload_n hx hb dX8_copyOf_37 rfl (lv_at hl 1 rfl) ?_
    refine va_get (D := (dC, dI)) (ci := 8) (v := .int v3_amount) (C := RX8) (T := TX8) (N := 4) hx hb hts hinX8 hown hK hP 3 rfl rfl 2 (by decide) (hts (.fieldLink RX8 32 "WasItOut$World" "amount" "I") (by decide +kernel)) (fun _ h9 => h9) rfl dX8_copyOf_38 ?_
    refine va_put (D := (dC, dI)) (ci := 8) (v := .int v3_amount) (ty := .int) (C := RX8) (T := TX8) (N := 4) hx hb hts hinX8 tyX8 tyX8_ok nmX8 hown hK hP hD hS 0 rfl rfl 2 (by decide) (hts (.fieldLink RX8 32 "WasItOut$World" "amount" "I") (by decide +kernel)) (fun _ h9 => h9) rfl (by decide +kernel) rfl rfl (Nat.le_of_ble_eq_true rfl) dX8_copyOf_41 (fun H locs hP hD hS => ?_)
    have hP : va_P (dC, dI) vwCl [(h0, .inr (8, [.ref h2, .ref h1, .int v3_amount, .int v0_left])), (h1, .inl (k1, 180, .inl (va_cpy c4 c1 (0 : Int32).toNatClampNeg (0 : Int32).toNatClampNeg (180 : Int32).toNatClampNeg))), (h2, .inl (k2, 6, .inl (va_cpy c5 c2 (0 : Int32).toNatClampNeg (0 : Int32).toNatClampNeg (6 : Int32).toNatClampNeg))), (h3, .inr (8, [.ref h5, .ref h4, .int v3_amount, .int v3_left])), (h4, .inl (k4, 180, .inl c4)), (h5, .inl (k5, 6, .inl c5))] H := hP
    have hD : va_D A [(h0, .inr (8, [.ref h2, .ref h1, .int v3_amount, .int v0_left])), (h1, .inl (k1, 180, .inl (va_cpy c4 c1 (0 : Int32).toNatClampNeg (0 : Int32).toNatClampNeg (180 : Int32).toNatClampNeg))), (h2, .inl (k2, 6, .inl (va_cpy c5 c2 (0 : Int32).toNatClampNeg (0 : Int32).toNatClampNeg (6 : Int32).toNatClampNeg))), (h3, .inr (8, [.ref h5, .ref h4, .int v3_amount, .int v3_left])), (h4, .inl (k4, 180, .inl c4)), (h5, .inl (k5, 6, .inl c5))] := hD
    refine lv_aload_n hx hb dX8_copyOf_44 rfl (lv_at hl 0 rfl) ?_
    refine lv_aload_n hx hb dX8_copyOf_45 rfl (lv_at hl 1 rfl) ?_
    refine va_get (D := (dC, dI)) (ci := 8) (v := .int v3_left) (C := RX8) (T := TX8) (N := 4) hx hb hts hinX8 hown hK hP 3 rfl rfl 3 (by decide) (hts (.fieldLink RX8 36 "WasItOut$World" "left" "I") (by decide +kernel)) (fun _ h9 => h9) rfl dX8_copyOf_46 ?_
    refine va_put (D := (dC, dI)) (ci := 8) (v := .int v3_left) (ty := .int) (C := RX8) (T := TX8) (N := 4) hx hb hts hinX8 tyX8 tyX8_ok nmX8 hown hK hP hD hS 0 rfl rfl 3 (by decide) (hts (.fieldLink RX8 36 "WasItOut$World" "left" "I") (by decide +kernel)) (fun _ h9 => h9) rfl (by decide +kernel) rfl rfl (Nat.le_of_ble_eq_true rfl) dX8_copyOf_49 (fun H locs hP hD hS => ?_)
    have hP : va_P (dC, dI) vwCl [(h0, .inr (8, [.ref h2, .ref h1, .int v3_amount, .int v3_left])), (h1, .inl (k1, 180, .inl (va_cpy c4 c1 (0 : Int32).toNatClampNeg (0 : Int32).toNatClampNeg (180 : Int32).toNatClampNeg))), (h2, .inl (k2, 6, .inl (va_cpy c5 c2 (0 : Int32).toNatClampNeg (0 : Int32).toNatClampNeg (6 : Int32).toNatClampNeg))), (h3, .inr (8, [.ref h5, .ref h4, .int v3_amount, .int v3_left])), (h4, .inl (k4, 180, .inl c4)), (h5, .inl (k5, 6, .inl c5))] H := hP
    have hD : va_D A [(h0, .inr (8, [.ref h2, .ref h1, .int v3_amount, .int v3_left])), (h1, .inl (k1, 180, .inl (va_cpy c4 c1 (0 : Int32).toNatClampNeg (0 : Int32).toNatClampNeg (180 : Int32).toNatClampNeg))), (h2, .inl (k2, 6, .inl (va_cpy c5 c2 (0 : Int32).toNatClampNeg (0 : Int32).toNatClampNeg (6 : Int32).toNatClampNeg))), (h3, .inr (8, [.ref h5, .ref h4, .int v3_amount, .int v3_left])), (h4, .inl (k4, 180, .inl c4)), (h5, .inl (k5, 6, .inl c5))] := hD
    cases hrun
    have hP9 : va_P (dC, dI) vwCl [(h0, .inr (8, [.ref h2, .ref h1, .int v3_amount, .int v3_left])), (h1, .inl (k1, 180, .inl (va_cpy c4 c1 (0 : Int32).toNatClampNeg (0 : Int32).toNatClampNeg (180 : Int32).toNatClampNeg))), (h2, .inl (k2, 6, .inl (va_cpy c5 c2 (0 : Int32).toNatClampNeg (0 : Int32).toNatClampNeg (6 : Int32).toNatClampNeg))), (h3, .inr (8, [.ref h5, .ref h4, .int v3_amount, .int v3_left])), (h4, .inl (k4, 180, .inl c4)), (h5, .inl (k5, 6, .inl c5))] H := hP
    have hD9 : va_D A [(h0, .inr (8, [.ref h2, .ref h1, .int v3_amount, .int v3_left])), (h1, .inl (k1, 180, .inl (va_cpy c4 c1 (0 : Int32).toNatClampNeg (0 : Int32).toNatClampNeg (180 : Int32).toNatClampNeg))), (h2, .inl (k2, 6, .inl (va_cpy c5 c2 (0 : Int32).toNatClampNeg (0 : Int32).toNatClampNeg (6 : Int32).toNatClampNeg))), (h3, .inr (8, [.ref h5, .ref h4, .int v3_amount, .int v3_left])), (h4, .inl (k4, 180, .inl c4)), (h5, .inl (k5, 6, .inl c5))] := hD
    exact W.vret hx hb hr (fun t ht hW => ⟨⟨(), rfl, trivial, by rw [ht]; exact hP9, va_K.moved hW.alike hK, hD9⟩, hS.F ht⟩) hS.2.2 dX8_copyOf_52
  rw [hHe, hLe] at key
  exact key
set_option maxHeartbeats 4000000 in
set_option maxRecDepth 100000 in
theorem tX8_dropSights (l : Launch) (dC : Nat → ClassId) (dI : Nat → Nat → Nat) (sz : Nat) (h0 : Nat) (g0_start g0_rows g0_left : Value) (N : Nat)  (v0_amount : Int32) (ru : Int32 × (Int32)) (hm : fX8_dropSights N v0_amount = some ru) : Met l yX8_dropSights wsX8_dropSights ({ frames := 0, cells := 0, slots := 0, locals := 0 } : Room) (va_Pc [.ref h0] (fun U => U.heap.size = sz ∧ va_P (dC, dI) vwCl [(h0, .inr (8, [g0_start, g0_rows, .int v0_amount, g0_left]))] U.heap ∧ va_K (dC, dI) vwCl [] U ∧ va_D (fun _ => True) [(h0, .inr (8, [g0_start, g0_rows, .int v0_amount, g0_left]))])) (va_Qi (fun r (_ : Unit) => r = ru.1) (fun (_ : Unit) t => va_P (dC, dI) vwCl [(h0, .inr (8, [g0_start, g0_rows, .int ru.2, g0_left]))] t.heap ∧ va_K (dC, dI) vwCl [] t ∧ va_D (va_A [(h0, .inr (8, [g0_start, g0_rows, .int v0_amount, g0_left]))] sz) [(h0, .inr (8, [g0_start, g0_rows, .int ru.2, g0_left]))]) (va_A [(h0, .inr (8, [g0_start, g0_rows, .int v0_amount, g0_left]))] sz)) 0 0 (va_A [(h0, .inr (8, [g0_start, g0_rows, .int v0_amount, g0_left]))] sz) := by
  refine Met.ofW (cc := cX8_dropSights) (maxL := 2) (ret := (some .int)) (by decide) rfl ?_
  intro p e s m args below meth c s₁ B hml hv
  obtain ⟨rfl, hsz, hP, hK, hD0⟩ := hv
  have hx := B.exec
  have hb := B.bytes
  have hr := B.returns
  have hts := atoms_spec (ws := wsX8_dropSights) B.pre
  have hown : s.vm.findClass RX8 = some m.cls := findClass_of_methodNamed B.named
  have hlocks := B.notSynchronized
  subst hsz
  have hD := hD0.self (sz := s.heap.size)
  generalize hAe : va_A [(h0, .inr (8, [g0_start, g0_rows, .int v0_amount, g0_left]))] s.heap.size = A at hD ⊢
  have hA : ∀ q : Nat, s.heap.size ≤ q → A q := fun q h => by rw [← hAe]; exact Or.inr h
  have hS : va_S A s.heap s.heap [] := va_S.rf
  have hinX8 : ∀ w ∈ wsX80, w ∈ wsX8_dropSights := by decide +kernel
  have hl := lv_entry ([.ref h0]) (n := 2) (Nat.le_of_ble_eq_true rfl)
  rw [lg_entry_eq]
  generalize (lg_sl ([.ref h0]) ++ List.replicate (2 - (lg_sl ([.ref h0])).length) Slot.unset).toArray = ls at hl ⊢
  have hl : lv_has ls 2 [(0, .ref h0)] := hl
  have hrun := hm
  rw [fX8_dropSights] at hrun
  obtain ⟨H, hHe⟩ : ∃ H, H = s.heap := ⟨_, rfl⟩
  obtain ⟨locs, hLe⟩ : ∃ locs : List Loc, locs = [] := ⟨_, rfl⟩
  rw [← hHe] at hP
  have hS : va_S A s.heap H locs := by rw [hHe, hLe]; exact hS
  have key : W p l e (headSpec wsX8_dropSights ({ frames := 0, cells := 0, slots := 0, locals := 0 } : Room)).room s m ([.ref h0] : List Value).toArray below meth c H locs 0 0 (MQ below (va_Qi (fun r (_ : Unit) => r = ru.1) (fun (_ : Unit) t => va_P (dC, dI) vwCl [(h0, .inr (8, [g0_start, g0_rows, .int ru.2, g0_left]))] t.heap ∧ va_K (dC, dI) vwCl [] t ∧ va_D A [(h0, .inr (8, [g0_start, g0_rows, .int ru.2, g0_left]))]) A) ([.ref h0] : List Value).toArray s 0 0 A) (F0 m 0 ls []) := by
    clear hHe hLe
    refine lv_aload_n hx hb dX8_dropSights_0 rfl (lv_at hl 0 rfl) ?_
    refine va_get (D := (dC, dI)) (ci := 8) (v := .int v0_amount) (C := RX8) (T := TX8) (N := 4) hx hb hts hinX8 hown hK hP 0 rfl rfl 2 (by decide) (hts (.fieldLink RX8 32 "WasItOut$World" "amount" "I") (by decide +kernel)) (fun _ h9 => h9) rfl dX8_dropSights_1 ?_
    refine lv_istore_n (lv' := [(1, .int v0_amount), (0, .ref h0)]) hx hb dX8_dropSights_4 rfl hl (by decide) rfl (fun ls hl => ?_)
    refine lv_aload_n hx hb dX8_dropSights_5 rfl (lv_at hl 1 rfl) ?_
    refine lv_iconst (v := (0 : Int32)) hx hb dX8_dropSights_6 (by decide) ?_
    refine va_put (D := (dC, dI)) (ci := 8) (v := .int (0 : Int32)) (ty := .int) (C := RX8) (T := TX8) (N := 4) hx hb hts hinX8 tyX8 tyX8_ok nmX8 hown hK hP hD hS 0 rfl rfl 2 (by decide) (hts (.fieldLink RX8 32 "WasItOut$World" "amount" "I") (by decide +kernel)) (fun _ h9 => h9) rfl (by decide +kernel) rfl rfl (Nat.le_of_ble_eq_true rfl) dX8_dropSights_7 (fun H locs hP hD hS => ?_)
    have hP : va_P (dC, dI) vwCl [(h0, .inr (8, [g0_start, g0_rows, .int (0 : Int32), g0_left]))] H := hP
    have hD : va_D A [(h0, .inr (8, [g0_start, g0_rows, .int (0 : Int32), g0_left]))] := hD
    refine lv_iload_n hx hb dX8_dropSights_10 rfl (lv_at hl 0 rfl) ?_
    cases hrun
    have hP9 : va_P (dC, dI) vwCl [(h0, .inr (8, [g0_start, g0_rows, .int (0 : Int32), g0_left]))] H := hP
    have hD9 : va_D A [(h0, .inr (8, [g0_start, g0_rows, .int (0 : Int32), g0_left]))] := hD
    exact W.iret hx hb hr (fun t ht hW => ⟨⟨_, (), rfl, rfl, by rw [ht]; exact hP9, va_K.moved hW.alike hK, hD9⟩, hS.F ht⟩) hS.2.2 dX8_dropSights_11
  rw [hHe, hLe] at key
  exact key
set_option maxHeartbeats 4000000 in
set_option maxRecDepth 100000 in
theorem tX8_leaveOut (l : Launch) (dC : Nat → ClassId) (dI : Nat → Nat → Nat) (sz : Nat) (h0 : Nat) (g0_start g0_rows g0_amount : Value) (N : Nat) (a1 : Int32) (v0_left : Int32) (ru : Int32 × (Int32)) (hm : fX8_leaveOut N a1 v0_left = some ru) : Met l yX8_leaveOut wsX8_leaveOut ({ frames := 0, cells := 0, slots := 0, locals := 0 } : Room) (va_Pc [.ref h0, .int a1] (fun U => U.heap.size = sz ∧ va_P (dC, dI) vwCl [(h0, .inr (8, [g0_start, g0_rows, g0_amount, .int v0_left]))] U.heap ∧ va_K (dC, dI) vwCl [] U ∧ va_D (fun _ => True) [(h0, .inr (8, [g0_start, g0_rows, g0_amount, .int v0_left]))])) (va_Qi (fun r (_ : Unit) => r = ru.1) (fun (_ : Unit) t => va_P (dC, dI) vwCl [(h0, .inr (8, [g0_start, g0_rows, g0_amount, .int ru.2]))] t.heap ∧ va_K (dC, dI) vwCl [] t ∧ va_D (va_A [(h0, .inr (8, [g0_start, g0_rows, g0_amount, .int v0_left]))] sz) [(h0, .inr (8, [g0_start, g0_rows, g0_amount, .int ru.2]))]) (va_A [(h0, .inr (8, [g0_start, g0_rows, g0_amount, .int v0_left]))] sz)) 0 0 (va_A [(h0, .inr (8, [g0_start, g0_rows, g0_amount, .int v0_left]))] sz) := by
  refine Met.ofW (cc := cX8_leaveOut) (maxL := 3) (ret := (some .int)) (by decide) rfl ?_
  intro p e s m args below meth c s₁ B hml hv
  obtain ⟨rfl, hsz, hP, hK, hD0⟩ := hv
  have hx := B.exec
  have hb := B.bytes
  have hr := B.returns
  have hts := atoms_spec (ws := wsX8_leaveOut) B.pre
  have hown : s.vm.findClass RX8 = some m.cls := findClass_of_methodNamed B.named
  have hlocks := B.notSynchronized
  subst hsz
  have hD := hD0.self (sz := s.heap.size)
  generalize hAe : va_A [(h0, .inr (8, [g0_start, g0_rows, g0_amount, .int v0_left]))] s.heap.size = A at hD ⊢
  have hA : ∀ q : Nat, s.heap.size ≤ q → A q := fun q h => by rw [← hAe]; exact Or.inr h
  have hS : va_S A s.heap s.heap [] := va_S.rf
  have hinX8 : ∀ w ∈ wsX80, w ∈ wsX8_leaveOut := by decide +kernel
  have hl := lv_entry ([.ref h0, .int a1]) (n := 3) (Nat.le_of_ble_eq_true rfl)
  rw [lg_entry_eq]
  generalize (lg_sl ([.ref h0, .int a1]) ++ List.replicate (3 - (lg_sl ([.ref h0, .int a1])).length) Slot.unset).toArray = ls at hl ⊢
  have hl : lv_has ls 3 [(0, .ref h0), (1, .int a1)] := hl
  have hrun := hm
  rw [fX8_leaveOut] at hrun
  obtain ⟨H, hHe⟩ : ∃ H, H = s.heap := ⟨_, rfl⟩
  obtain ⟨locs, hLe⟩ : ∃ locs : List Loc, locs = [] := ⟨_, rfl⟩
  rw [← hHe] at hP
  have hS : va_S A s.heap H locs := by rw [hHe, hLe]; exact hS
  have key : W p l e (headSpec wsX8_leaveOut ({ frames := 0, cells := 0, slots := 0, locals := 0 } : Room)).room s m ([.ref h0, .int a1] : List Value).toArray below meth c H locs 0 0 (MQ below (va_Qi (fun r (_ : Unit) => r = ru.1) (fun (_ : Unit) t => va_P (dC, dI) vwCl [(h0, .inr (8, [g0_start, g0_rows, g0_amount, .int ru.2]))] t.heap ∧ va_K (dC, dI) vwCl [] t ∧ va_D A [(h0, .inr (8, [g0_start, g0_rows, g0_amount, .int ru.2]))]) A) ([.ref h0, .int a1] : List Value).toArray s 0 0 A) (F0 m 0 ls []) := by
    clear hHe hLe
    refine lv_aload_n hx hb dX8_leaveOut_0 rfl (lv_at hl 0 rfl) ?_
    refine va_get (D := (dC, dI)) (ci := 8) (v := .int v0_left) (C := RX8) (T := TX8) (N := 4) hx hb hts hinX8 hown hK hP 0 rfl rfl 3 (by decide) (hts (.fieldLink RX8 36 "WasItOut$World" "left" "I") (by decide +kernel)) (fun _ h9 => h9) rfl dX8_leaveOut_1 ?_
    refine lv_istore_n (lv' := [(2, .int v0_left), (0, .ref h0), (1, .int a1)]) hx hb dX8_leaveOut_4 rfl hl (by decide) rfl (fun ls hl => ?_)
    refine lv_aload_n hx hb dX8_leaveOut_5 rfl (lv_at hl 1 rfl) ?_
    refine lv_iload_n hx hb dX8_leaveOut_6 rfl (lv_at hl 2 rfl) ?_
    refine va_put (D := (dC, dI)) (ci := 8) (v := .int a1) (ty := .int) (C := RX8) (T := TX8) (N := 4) hx hb hts hinX8 tyX8 tyX8_ok nmX8 hown hK hP hD hS 0 rfl rfl 3 (by decide) (hts (.fieldLink RX8 36 "WasItOut$World" "left" "I") (by decide +kernel)) (fun _ h9 => h9) rfl (by decide +kernel) rfl rfl (Nat.le_of_ble_eq_true rfl) dX8_leaveOut_7 (fun H locs hP hD hS => ?_)
    have hP : va_P (dC, dI) vwCl [(h0, .inr (8, [g0_start, g0_rows, g0_amount, .int a1]))] H := hP
    have hD : va_D A [(h0, .inr (8, [g0_start, g0_rows, g0_amount, .int a1]))] := hD
    refine lv_iload_n hx hb dX8_leaveOut_10 rfl (lv_at hl 0 rfl) ?_
    cases hrun
    have hP9 : va_P (dC, dI) vwCl [(h0, .inr (8, [g0_start, g0_rows, g0_amount, .int a1]))] H := hP
    have hD9 : va_D A [(h0, .inr (8, [g0_start, g0_rows, g0_amount, .int a1]))] := hD
    exact W.iret hx hb hr (fun t ht hW => ⟨⟨_, (), rfl, rfl, by rw [ht]; exact hP9, va_K.moved hW.alike hK, hD9⟩, hS.F ht⟩) hS.2.2 dX8_leaveOut_11
  rw [hHe, hLe] at key
  exact key
set_option maxHeartbeats 4000000 in
set_option maxRecDepth 100000 in
theorem tX8_mayBegin (l : Launch) (dC : Nat → ClassId) (dI : Nat → Nat → Nat) (t : Nat → Nat) (N : Nat) (a0 : Int32) (a1 : Int32)  (ru : Int32) (hm : fX8_mayBegin N a0 a1 = some ru) : Met l yX8_mayBegin wsX8_mayBegin ({ frames := 1, cells := 0, slots := 0, locals := 22 } : Room) (va_Pc [.int a0, .int a1] (fun U => va_P (dC, dI) vwCl [] U.heap ∧ va_K (dC, dI) vwCl [] U ∧ gG t (fun _ => False) U U.heap)) (vp_Si (fun r => r = ru ∧ narrow .boolean (.int r) = .int r)) 0 0 (fun _ => False) := by
  refine Met.ofW (cc := cX8_mayBegin) (maxL := 2) (ret := (some .boolean)) (by decide) rfl ?_
  intro p e s m args below meth c s₁ B hml hv
  obtain ⟨rfl, hP, hK, hG⟩ := hv
  have hx := B.exec
  have hb := B.bytes
  have hr := B.returns
  have hts := atoms_spec (ws := wsX8_mayBegin) B.pre
  have hown : s.vm.findClass RX8 = some m.cls := findClass_of_methodNamed B.named
  have hlocks := B.notSynchronized
  have hl := lv_entry ([.int a0, .int a1]) (n := 2) (Nat.le_of_ble_eq_true rfl)
  rw [lg_entry_eq]
  generalize (lg_sl ([.int a0, .int a1]) ++ List.replicate (2 - (lg_sl ([.int a0, .int a1])).length) Slot.unset).toArray = ls at hl ⊢
  have hl : lv_has ls 2 [(0, .int a0), (1, .int a1)] := hl
  have hrun := hm
  rw [fX8_mayBegin] at hrun
  refine lv_iload_n hx hb dX8_mayBegin_0 rfl (lv_at hl 0 rfl) ?_
  refine lv_if_lt (tgt := 41) hx hb dX8_mayBegin_1 (by decide) (fun cc => ?_) (fun cc => ?_)
  · have hrun := oi_t hrun cc
    refine lv_iconst (v := (0 : Int32)) hx hb dX8_mayBegin_41 (by decide) ?_
    exact W.zret hx hb hr (by rfl) (fun t ht _ => ⟨_, rfl, ⟨Option.some.inj hrun, (by rfl)⟩, ht⟩) (fun _ h => by cases h) dX8_mayBegin_42
  · have hrun := oi_f hrun cc
    refine lv_iload_n hx hb dX8_mayBegin_4 rfl (lv_at hl 0 rfl) ?_
    refine va_gets hx hb hG.z6.1 va_S.rf hown (hts (.fieldLink RX8 18 "WasItOut$World" "LOWEST" "[I") (by decide +kernel)) (fun _ h9 => h9) dX8_mayBegin_5 ?_
    refine va_tlen (v := (6 : Int32)) hx hb hG.z6.2 va_S.rf (by decide) dX8_mayBegin_8 ?_
    refine lv_icmp_ge (tgt := 41) hx hb dX8_mayBegin_9 (by decide) (fun cc => ?_) (fun cc => ?_)
    · have hrun := oi_t hrun cc
      refine lv_iconst (v := (0 : Int32)) hx hb dX8_mayBegin_41 (by decide) ?_
      exact W.zret hx hb hr (by rfl) (fun t ht _ => ⟨_, rfl, ⟨Option.some.inj hrun, (by rfl)⟩, ht⟩) (fun _ h => by cases h) dX8_mayBegin_42
    · have hrun := oi_f hrun cc
      refine lv_iload_n hx hb dX8_mayBegin_12 rfl (lv_at hl 0 rfl) ?_
      refine va_gets hx hb hG.z7.1 va_S.rf hown (hts (.fieldLink RX8 21 "WasItOut$World" "HIGHEST" "[I") (by decide +kernel)) (fun _ h9 => h9) dX8_mayBegin_13 ?_
      refine va_tlen (v := (6 : Int32)) hx hb hG.z7.2 va_S.rf (by decide) dX8_mayBegin_16 ?_
      refine lv_icmp_ge (tgt := 41) hx hb dX8_mayBegin_17 (by decide) (fun cc => ?_) (fun cc => ?_)
      · have hrun := oi_t hrun cc
        refine lv_iconst (v := (0 : Int32)) hx hb dX8_mayBegin_41 (by decide) ?_
        exact W.zret hx hb hr (by rfl) (fun t ht _ => ⟨_, rfl, ⟨Option.some.inj hrun, (by rfl)⟩, ht⟩) (fun _ h => by cases h) dX8_mayBegin_42
      · have hrun := oi_f hrun cc
        refine lv_iload_n hx hb dX8_mayBegin_20 rfl (lv_at hl 1 rfl) ?_
        refine va_gets hx hb hG.z6.1 va_S.rf hown (hts (.fieldLink RX8 18 "WasItOut$World" "LOWEST" "[I") (by decide +kernel)) (fun _ h9 => h9) dX8_mayBegin_21 ?_
        refine lv_iload_n hx hb dX8_mayBegin_24 rfl (lv_at hl 0 rfl) ?_
        obtain ⟨hi, hrun⟩ := oi_x hrun
        refine va_ti (v := .int (tb_World_LOWEST a0.toNatClampNeg)) hx hb hG.z6.2 va_S.rf hi rfl dX8_mayBegin_25 ?_
        refine va_gets hx hb hG.z7.1 va_S.rf hown (hts (.fieldLink RX8 21 "WasItOut$World" "HIGHEST" "[I") (by decide +kernel)) (fun _ h9 => h9) dX8_mayBegin_26 ?_
        refine lv_iload_n hx hb dX8_mayBegin_29 rfl (lv_at hl 0 rfl) ?_
        obtain ⟨hi, hrun⟩ := oi_x hrun
        refine va_ti (v := .int (tb_World_HIGHEST a0.toNatClampNeg)) hx hb hG.z7.2 va_S.rf hi rfl dX8_mayBegin_30 ?_
        obtain ⟨q31, hc31, hrun⟩ := ob_e hrun
        refine wz_csz (va_runSN (As := [.int a1, .int (tb_World_LOWEST a0.toNatClampNeg), .int (tb_World_HIGHEST a0.toNatClampNeg)]) (rest := []) ⟨hx, hb, hml, hown, hts⟩ (tX9_within l dC dI N a1 ((tb_World_LOWEST a0.toNatClampNeg)) ((tb_World_HIGHEST a0.toNatClampNeg)) q31 hc31) ⟨va_cnB 3 hts gX8_mayBegin_X9_within_n24 rfl rfl rfl hG.n2 (hts (.initialized RX9) (by decide +kernel)) (by decide +kernel) ⟨Nat.le_of_ble_eq_true rfl, Nat.le_of_ble_eq_true rfl⟩, hts (.static yX9_within) (by decide +kernel), trivial⟩ (wz_pSr (hP.sub (ws' := []) [] rfl) (hK.sub (tys' := []) [] rfl)) rfl rfl hl.1 rfl (lv_room (Nat.le_of_ble_eq_true rfl)) dX8_mayBegin_31 ⟨Nat.zero_le _, Nat.zero_le _⟩) (fun hz31 => ?_)
        refine lv_if_eq (tgt := 41) hx hb dX8_mayBegin_34 (by decide) (fun cc => ?_) (fun cc => ?_)
        · have hrun := oi_t hrun cc
          refine lv_iconst (v := (0 : Int32)) hx hb dX8_mayBegin_41 (by decide) ?_
          exact W.zret hx hb hr (by rfl) (fun t ht _ => ⟨_, rfl, ⟨Option.some.inj hrun, (by rfl)⟩, ht⟩) (fun _ h => by cases h) dX8_mayBegin_42
        · have hrun := oi_f hrun cc
          refine lv_iconst (v := (1 : Int32)) hx hb dX8_mayBegin_37 (by decide) ?_
          refine lv_goto (tgt := 42) hx hb dX8_mayBegin_38 (by decide) ?_
          exact W.zret hx hb hr (by rfl) (fun t ht _ => ⟨_, rfl, ⟨Option.some.inj hrun, (by rfl)⟩, ht⟩) (fun _ h => by cases h) dX8_mayBegin_42
