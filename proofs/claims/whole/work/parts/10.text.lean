theorem sw_0_4 {x : Int32} (h0 : ¬ x = 0) (h1 : ¬ x = 1) (h2 : ¬ x = 2) (h3 : ¬ x = 3) : x.toInt < 0 ∨ 3 < x.toInt := by
  by_cases q : x.toInt < 0
  · exact Or.inl q
  · by_cases q2 : 3 < x.toInt
    · exact Or.inr q2
    · exfalso
      have e0 : ¬ x.toInt = 0 := fun e => h0 (Int32.toInt_inj.mp (by rw [e]; rfl))
      have e1 : ¬ x.toInt = 1 := fun e => h1 (Int32.toInt_inj.mp (by rw [e]; rfl))
      have e2 : ¬ x.toInt = 2 := fun e => h2 (Int32.toInt_inj.mp (by rw [e]; rfl))
      have e3 : ¬ x.toInt = 3 := fun e => h3 (Int32.toInt_inj.mp (by rw [e]; rfl))
      omega
theorem sw_0_5 {x : Int32} (h0 : ¬ x = 0) (h1 : ¬ x = 1) (h2 : ¬ x = 2) (h3 : ¬ x = 3) (h4 : ¬ x = 4) : x.toInt < 0 ∨ 4 < x.toInt := by
  by_cases q : x.toInt < 0
  · exact Or.inl q
  · by_cases q2 : 4 < x.toInt
    · exact Or.inr q2
    · exfalso
      have e0 : ¬ x.toInt = 0 := fun e => h0 (Int32.toInt_inj.mp (by rw [e]; rfl))
      have e1 : ¬ x.toInt = 1 := fun e => h1 (Int32.toInt_inj.mp (by rw [e]; rfl))
      have e2 : ¬ x.toInt = 2 := fun e => h2 (Int32.toInt_inj.mp (by rw [e]; rfl))
      have e3 : ¬ x.toInt = 3 := fun e => h3 (Int32.toInt_inj.mp (by rw [e]; rfl))
      have e4 : ¬ x.toInt = 4 := fun e => h4 (Int32.toInt_inj.mp (by rw [e]; rfl))
      omega
theorem sw_0_6 {x : Int32} (h0 : ¬ x = 0) (h1 : ¬ x = 1) (h2 : ¬ x = 2) (h3 : ¬ x = 3) (h4 : ¬ x = 4) (h5 : ¬ x = 5) : x.toInt < 0 ∨ 5 < x.toInt := by
  by_cases q : x.toInt < 0
  · exact Or.inl q
  · by_cases q2 : 5 < x.toInt
    · exact Or.inr q2
    · exfalso
      have e0 : ¬ x.toInt = 0 := fun e => h0 (Int32.toInt_inj.mp (by rw [e]; rfl))
      have e1 : ¬ x.toInt = 1 := fun e => h1 (Int32.toInt_inj.mp (by rw [e]; rfl))
      have e2 : ¬ x.toInt = 2 := fun e => h2 (Int32.toInt_inj.mp (by rw [e]; rfl))
      have e3 : ¬ x.toInt = 3 := fun e => h3 (Int32.toInt_inj.mp (by rw [e]; rfl))
      have e4 : ¬ x.toInt = 4 := fun e => h4 (Int32.toInt_inj.mp (by rw [e]; rfl))
      have e5 : ¬ x.toInt = 5 := fun e => h5 (Int32.toInt_inj.mp (by rw [e]; rfl))
      omega
theorem sw_97_20 {x : Int32} (h0 : ¬ x = 97) (h1 : ¬ x = 98) (h2 : ¬ x = 99) (h3 : ¬ x = 100) (h4 : ¬ x = 101) (h5 : ¬ x = 102) (h6 : ¬ x = 103) (h7 : ¬ x = 104) (h8 : ¬ x = 105) (h9 : ¬ x = 106) (h10 : ¬ x = 107) (h11 : ¬ x = 108) (h12 : ¬ x = 109) (h13 : ¬ x = 110) (h14 : ¬ x = 111) (h15 : ¬ x = 112) (h16 : ¬ x = 113) (h17 : ¬ x = 114) (h18 : ¬ x = 115) (h19 : ¬ x = 116) : x.toInt < 97 ∨ 116 < x.toInt := by
  by_cases q : x.toInt < 97
  · exact Or.inl q
  · by_cases q2 : 116 < x.toInt
    · exact Or.inr q2
    · exfalso
      have e0 : ¬ x.toInt = 97 := fun e => h0 (Int32.toInt_inj.mp (by rw [e]; rfl))
      have e1 : ¬ x.toInt = 98 := fun e => h1 (Int32.toInt_inj.mp (by rw [e]; rfl))
      have e2 : ¬ x.toInt = 99 := fun e => h2 (Int32.toInt_inj.mp (by rw [e]; rfl))
      have e3 : ¬ x.toInt = 100 := fun e => h3 (Int32.toInt_inj.mp (by rw [e]; rfl))
      have e4 : ¬ x.toInt = 101 := fun e => h4 (Int32.toInt_inj.mp (by rw [e]; rfl))
      have e5 : ¬ x.toInt = 102 := fun e => h5 (Int32.toInt_inj.mp (by rw [e]; rfl))
      have e6 : ¬ x.toInt = 103 := fun e => h6 (Int32.toInt_inj.mp (by rw [e]; rfl))
      have e7 : ¬ x.toInt = 104 := fun e => h7 (Int32.toInt_inj.mp (by rw [e]; rfl))
      have e8 : ¬ x.toInt = 105 := fun e => h8 (Int32.toInt_inj.mp (by rw [e]; rfl))
      have e9 : ¬ x.toInt = 106 := fun e => h9 (Int32.toInt_inj.mp (by rw [e]; rfl))
      have e10 : ¬ x.toInt = 107 := fun e => h10 (Int32.toInt_inj.mp (by rw [e]; rfl))
      have e11 : ¬ x.toInt = 108 := fun e => h11 (Int32.toInt_inj.mp (by rw [e]; rfl))
      have e12 : ¬ x.toInt = 109 := fun e => h12 (Int32.toInt_inj.mp (by rw [e]; rfl))
      have e13 : ¬ x.toInt = 110 := fun e => h13 (Int32.toInt_inj.mp (by rw [e]; rfl))
      have e14 : ¬ x.toInt = 111 := fun e => h14 (Int32.toInt_inj.mp (by rw [e]; rfl))
      have e15 : ¬ x.toInt = 112 := fun e => h15 (Int32.toInt_inj.mp (by rw [e]; rfl))
      have e16 : ¬ x.toInt = 113 := fun e => h16 (Int32.toInt_inj.mp (by rw [e]; rfl))
      have e17 : ¬ x.toInt = 114 := fun e => h17 (Int32.toInt_inj.mp (by rw [e]; rfl))
      have e18 : ¬ x.toInt = 115 := fun e => h18 (Int32.toInt_inj.mp (by rw [e]; rfl))
      have e19 : ¬ x.toInt = 116 := fun e => h19 (Int32.toInt_inj.mp (by rw [e]; rfl))
      omega
set_option maxHeartbeats 4000000 in
set_option maxRecDepth 100000 in
theorem tX9_within (l : Launch) (dC : Nat → ClassId) (dI : Nat → Nat → Nat) (N : Nat) (a0 : Int32) (a1 : Int32) (a2 : Int32)  (ru : Int32) (hm : fX9_within N a0 a1 a2 = some ru) : Met l yX9_within wsX9_within ({ frames := 0, cells := 0, slots := 0, locals := 0 } : Room) (va_Pc [.int a0, .int a1, .int a2] (fun U => va_P (dC, dI) vwCl [] U.heap ∧ va_K (dC, dI) vwCl [] U)) (vp_Si (fun r => r = ru ∧ narrow .boolean (.int r) = .int r)) 0 0 (fun _ => False) := by
  refine Met.ofW (cc := cX9_within) (maxL := 3) (ret := (some .boolean)) (by decide) rfl ?_
  intro p e s m args below meth c s₁ B hml hv
  obtain ⟨rfl, hP, hK⟩ := hv
  have hx := B.exec
  have hb := B.bytes
  have hr := B.returns
  have hts := atoms_spec (ws := wsX9_within) B.pre
  have hown : s.vm.findClass RX9 = some m.cls := findClass_of_methodNamed B.named
  have hlocks := B.notSynchronized
  have hl := lv_entry ([.int a0, .int a1, .int a2]) (n := 3) (Nat.le_of_ble_eq_true rfl)
  rw [lg_entry_eq]
  generalize (lg_sl ([.int a0, .int a1, .int a2]) ++ List.replicate (3 - (lg_sl ([.int a0, .int a1, .int a2])).length) Slot.unset).toArray = ls at hl ⊢
  have hl : lv_has ls 3 [(0, .int a0), (1, .int a1), (2, .int a2)] := hl
  have hrun := hm
  rw [fX9_within] at hrun
  refine lv_iload_n hx hb dX9_within_0 rfl (lv_at hl 0 rfl) ?_
  refine lv_iload_n hx hb dX9_within_1 rfl (lv_at hl 1 rfl) ?_
  refine lv_icmp_lt (tgt := 14) hx hb dX9_within_2 (by decide) (fun cc => ?_) (fun cc => ?_)
  · have hrun := oi_t hrun cc
    refine lv_iconst (v := (0 : Int32)) hx hb dX9_within_14 (by decide) ?_
    exact W.zret hx hb hr (by rfl) (fun t ht _ => ⟨_, rfl, ⟨Option.some.inj hrun, (by rfl)⟩, ht⟩) (fun _ h => by cases h) dX9_within_15
  · have hrun := oi_f hrun cc
    refine lv_iload_n hx hb dX9_within_5 rfl (lv_at hl 0 rfl) ?_
    refine lv_iload_n hx hb dX9_within_6 rfl (lv_at hl 2 rfl) ?_
    refine lv_icmp_gt (tgt := 14) hx hb dX9_within_7 (by decide) (fun cc => ?_) (fun cc => ?_)
    · have hrun := oi_t hrun cc
      refine lv_iconst (v := (0 : Int32)) hx hb dX9_within_14 (by decide) ?_
      exact W.zret hx hb hr (by rfl) (fun t ht _ => ⟨_, rfl, ⟨Option.some.inj hrun, (by rfl)⟩, ht⟩) (fun _ h => by cases h) dX9_within_15
    · have hrun := oi_f hrun cc
      refine lv_iconst (v := (1 : Int32)) hx hb dX9_within_10 (by decide) ?_
      refine lv_goto (tgt := 15) hx hb dX9_within_11 (by decide) ?_
      exact W.zret hx hb hr (by rfl) (fun t ht _ => ⟨_, rfl, ⟨Option.some.inj hrun, (by rfl)⟩, ht⟩) (fun _ h => by cases h) dX9_within_15
set_option maxHeartbeats 4000000 in
set_option maxRecDepth 100000 in
theorem tX5_number (l : Launch) (dC : Nat → ClassId) (dI : Nat → Nat → Nat) (h0 h1 : Nat) (k1 : ClassId) (g0_lineFrom g0_lineY g0_item g0_lineCount g0_wicketStands g0_wicketX g0_wicketSide g0_wicketHigh g0_items : Value) (N : Nat) (a1 : Int32) (c1 : Nat → Int32) (ru : Int32) (hm : fX5_number N a1 c1 = some ru) : Met l yX5_number wsX5_number ({ frames := 0, cells := 0, slots := 0, locals := 0 } : Room) (va_Pc [.ref h0, .int a1] (fun U => va_P (dC, dI) vwCl [(h0, .inr (5, [.ref h1, g0_lineFrom, g0_lineY, g0_item, g0_lineCount, g0_wicketStands, g0_wicketX, g0_wicketSide, g0_wicketHigh, g0_items])), (h1, .inl (k1, 6, .inl c1))] U.heap ∧ va_K (dC, dI) vwCl [(k1, .int)] U)) (vp_Si (fun r => r = ru)) 0 0 (fun _ => False) := by
  refine Met.ofW (cc := cX5_number) (maxL := 2) (ret := (some .int)) (by decide) rfl ?_
  intro p e s m args below meth c s₁ B hml hv
  obtain ⟨rfl, hP, hK⟩ := hv
  have hx := B.exec
  have hb := B.bytes
  have hr := B.returns
  have hts := atoms_spec (ws := wsX5_number) B.pre
  have hown : s.vm.findClass RX5 = some m.cls := findClass_of_methodNamed B.named
  have hlocks := B.notSynchronized
  have hinX5 : ∀ w ∈ wsX50, w ∈ wsX5_number := by decide +kernel
  have hl := lv_entry ([.ref h0, .int a1]) (n := 2) (Nat.le_of_ble_eq_true rfl)
  rw [lg_entry_eq]
  generalize (lg_sl ([.ref h0, .int a1]) ++ List.replicate (2 - (lg_sl ([.ref h0, .int a1])).length) Slot.unset).toArray = ls at hl ⊢
  have hl : lv_has ls 2 [(0, .ref h0), (1, .int a1)] := hl
  have hrun := hm
  rw [fX5_number] at hrun
  refine lv_iload_n hx hb dX5_number_0 rfl (lv_at hl 1 rfl) ?_
  refine lv_if_lt (tgt := 22) hx hb dX5_number_1 (by decide) (fun cc => ?_) (fun cc => ?_)
  · have hrun := oi_t hrun cc
    refine lv_iconst (v := (0 : Int32)) hx hb dX5_number_22 (by decide) ?_
    exact W.iret hx hb hr (fun t ht _ => ⟨_, rfl, Option.some.inj hrun, ht⟩) (fun _ h => by cases h) dX5_number_23
  · have hrun := oi_f hrun cc
    refine lv_iload_n hx hb dX5_number_4 rfl (lv_at hl 1 rfl) ?_
    refine lv_aload_n hx hb dX5_number_5 rfl (lv_at hl 0 rfl) ?_
    refine va_get (D := (dC, dI)) (ci := 5) (v := .ref h1) (C := RX5) (T := TX5) (N := 10) hx hb hts hinX5 hown hK hP 0 rfl rfl 0 (by decide) (hts (.fieldLink RX5 9 "WasItOut$Law" "numbers" "[I") (by decide +kernel)) (fun _ h9 => h9) rfl dX5_number_6 ?_
    refine va_alen (v := (6 : Int32)) hx hb hK hP 1 0 rfl rfl (by first | rfl | decide) dX5_number_9 ?_
    refine lv_icmp_ge (tgt := 22) hx hb dX5_number_10 (by decide) (fun cc => ?_) (fun cc => ?_)
    · have hrun := oi_t hrun cc
      refine lv_iconst (v := (0 : Int32)) hx hb dX5_number_22 (by decide) ?_
      exact W.iret hx hb hr (fun t ht _ => ⟨_, rfl, Option.some.inj hrun, ht⟩) (fun _ h => by cases h) dX5_number_23
    · have hrun := oi_f hrun cc
      refine lv_aload_n hx hb dX5_number_13 rfl (lv_at hl 0 rfl) ?_
      refine va_get (D := (dC, dI)) (ci := 5) (v := .ref h1) (C := RX5) (T := TX5) (N := 10) hx hb hts hinX5 hown hK hP 0 rfl rfl 0 (by decide) (hts (.fieldLink RX5 9 "WasItOut$Law" "numbers" "[I") (by decide +kernel)) (fun _ h9 => h9) rfl dX5_number_14 ?_
      refine lv_iload_n hx hb dX5_number_17 rfl (lv_at hl 1 rfl) ?_
      obtain ⟨hi, hrun⟩ := oi_x hrun
      refine va_iald hx hb hK hP 1 0 rfl rfl hi dX5_number_18 ?_
      refine lv_goto (tgt := 23) hx hb dX5_number_19 (by decide) ?_
      exact W.iret hx hb hr (fun t ht _ => ⟨_, rfl, Option.some.inj hrun, ht⟩) (fun _ h => by cases h) dX5_number_23
set_option maxHeartbeats 4000000 in
set_option maxRecDepth 100000 in
theorem tX5_paintedAt (l : Launch) (dC : Nat → ClassId) (dI : Nat → Nat → Nat) (h0 h1 h2 : Nat) (k1 k2 : ClassId) (g0_numbers g0_item g0_wicketStands g0_wicketX g0_wicketSide g0_wicketHigh g0_items : Value) (N : Nat) (a1 : Int32) (v0_lineCount : Int32) (c1 : Nat → Int32) (c2 : Nat → Int32) (ru : Int32) (hm : fX5_paintedAt N a1 v0_lineCount c1 c2 = some ru) : Met l yX5_paintedAt wsX5_paintedAt ({ frames := 0, cells := 0, slots := 0, locals := 0 } : Room) (va_Pc [.ref h0, .int a1] (fun U => va_P (dC, dI) vwCl [(h0, .inr (5, [g0_numbers, .ref h1, .ref h2, g0_item, .int v0_lineCount, g0_wicketStands, g0_wicketX, g0_wicketSide, g0_wicketHigh, g0_items])), (h1, .inl (k1, 40, .inl c1)), (h2, .inl (k2, 40, .inl c2))] U.heap ∧ va_K (dC, dI) vwCl [(k1, .int), (k2, .int)] U)) (vp_Si (fun r => r = ru)) 0 0 (fun _ => False) := by
  refine Met.ofW (cc := cX5_paintedAt) (maxL := 5) (ret := (some .int)) (by decide) rfl ?_
  intro p e s m args below meth c s₁ B hml hv
  obtain ⟨rfl, hP, hK⟩ := hv
  have hx := B.exec
  have hb := B.bytes
  have hr := B.returns
  have hts := atoms_spec (ws := wsX5_paintedAt) B.pre
  have hown : s.vm.findClass RX5 = some m.cls := findClass_of_methodNamed B.named
  have hlocks := B.notSynchronized
  have hinX5 : ∀ w ∈ wsX50, w ∈ wsX5_paintedAt := by decide +kernel
  have hl := lv_entry ([.ref h0, .int a1]) (n := 5) (Nat.le_of_ble_eq_true rfl)
  rw [lg_entry_eq]
  generalize (lg_sl ([.ref h0, .int a1]) ++ List.replicate (5 - (lg_sl ([.ref h0, .int a1])).length) Slot.unset).toArray = ls at hl ⊢
  have hl : lv_has ls 5 [(0, .ref h0), (1, .int a1)] := hl
  have hrun := hm
  rw [fX5_paintedAt] at hrun
  refine lv_iconst (v := (-1 : Int32)) hx hb dX5_paintedAt_0 (by decide) ?_
  refine lv_istore_n (lv' := [(2, .int (-1 : Int32)), (0, .ref h0), (1, .int a1)]) hx hb dX5_paintedAt_1 rfl hl (by decide) rfl (fun ls hl => ?_)
  refine lv_iconst (v := (0 : Int32)) hx hb dX5_paintedAt_2 (by decide) ?_
  refine lv_istore_n (lv' := [(3, .int (0 : Int32)), (2, .int (-1 : Int32)), (0, .ref h0), (1, .int a1)]) hx hb dX5_paintedAt_3 rfl hl (by decide) rfl (fun ls hl => ?_)
  refine lv_iconst (v := (0 : Int32)) hx hb dX5_paintedAt_4 (by decide) ?_
  refine lv_istore (lv' := [(4, .int (0 : Int32)), (3, .int (0 : Int32)), (2, .int (-1 : Int32)), (0, .ref h0), (1, .int a1)]) hx hb dX5_paintedAt_5 hl (by decide) rfl (fun ls hl => ?_)
  obtain ⟨k71, ek71, hrun⟩ := jn_e hrun
  have J71 : ∀ (x3_71 : Int32) (ls : Array Slot), k71 x3_71 = some ru → lv_has ls 5 [(3, .int x3_71)] → W p l e (headSpec wsX5_paintedAt ({ frames := 0, cells := 0, slots := 0, locals := 0 } : Room)).room s m ([.ref h0, .int a1] : List Value).toArray below meth c s.heap [] 0 0 (MQ below (vp_Si (fun r => r = ru)) ([.ref h0, .int a1] : List Value).toArray s 0 0 (fun _ => False)) (F0 m 71 ls []) := by
    intro x3_71 ls hrun hl
    rw [ek71] at hrun
    refine lv_iload_n hx hb dX5_paintedAt_71 rfl (lv_at hl 0 rfl) ?_
    exact W.iret hx hb hr (fun t ht _ => ⟨_, rfl, Option.some.inj hrun, ht⟩) (fun _ h => by cases h) dX5_paintedAt_72
  have L7 : ∀ (n : Nat) (x2_7 : Int32) (x3_7 : Int32) (x4_7 : Int32) (ls : Array Slot), fX5_paintedAt_p7 N a1 v0_lineCount c1 c2 k71 n x2_7 x3_7 x4_7 = some ru → lv_has ls 5 [(0, .ref h0), (1, .int a1), (2, .int x2_7), (3, .int x3_7), (4, .int x4_7)] → W p l e (headSpec wsX5_paintedAt ({ frames := 0, cells := 0, slots := 0, locals := 0 } : Room)).room s m ([.ref h0, .int a1] : List Value).toArray below meth c s.heap [] 0 0 (MQ below (vp_Si (fun r => r = ru)) ([.ref h0, .int a1] : List Value).toArray s 0 0 (fun _ => False)) (F0 m 7 ls []) := by
    intro n
    induction n with
    | zero => intro x2_7 x3_7 x4_7 ls hrun; rw [fX5_paintedAt_p7] at hrun; exact on_e hrun
    | succ n ih =>
      intro x2_7 x3_7 x4_7 ls hrun hl
      rw [fX5_paintedAt_p7] at hrun
      refine lv_iload hx hb dX5_paintedAt_7 (lv_at hl 4 rfl) ?_
      refine lv_aload_n hx hb dX5_paintedAt_9 rfl (lv_at hl 0 rfl) ?_
      refine va_get (D := (dC, dI)) (ci := 5) (v := .int v0_lineCount) (C := RX5) (T := TX5) (N := 10) hx hb hts hinX5 hown hK hP 0 rfl rfl 4 (by decide) (hts (.fieldLink RX5 46 "WasItOut$Law" "lineCount" "I") (by decide +kernel)) (fun _ h9 => h9) rfl dX5_paintedAt_10 ?_
      refine lv_icmp_ge (tgt := 71) hx hb dX5_paintedAt_13 (by decide) (fun cc => ?_) (fun cc => ?_)
      · have hrun := oi_t hrun cc
        exact J71 x3_7 ls hrun (lv_sub hl [3] rfl)
      · have hrun := oi_f hrun cc
        refine lv_iload hx hb dX5_paintedAt_16 (lv_at hl 4 rfl) ?_
        refine lv_bipush (v := (40 : Int32)) hx hb dX5_paintedAt_18 (by decide) ?_
        refine lv_icmp_ge (tgt := 71) hx hb dX5_paintedAt_20 (by decide) (fun cc => ?_) (fun cc => ?_)
        · have hrun := oi_t hrun cc
          exact J71 x3_7 ls hrun (lv_sub hl [3] rfl)
        · have hrun := oi_f hrun cc
          refine lv_aload_n hx hb dX5_paintedAt_23 rfl (lv_at hl 0 rfl) ?_
          refine va_get (D := (dC, dI)) (ci := 5) (v := .ref h1) (C := RX5) (T := TX5) (N := 10) hx hb hts hinX5 hown hK hP 0 rfl rfl 1 (by decide) (hts (.fieldLink RX5 13 "WasItOut$Law" "lineFrom" "[I") (by decide +kernel)) (fun _ h9 => h9) rfl dX5_paintedAt_24 ?_
          refine lv_iload hx hb dX5_paintedAt_27 (lv_at hl 4 rfl) ?_
          obtain ⟨hi, hrun⟩ := oi_x hrun
          refine va_iald hx hb hK hP 1 0 rfl rfl hi dX5_paintedAt_29 ?_
          refine lv_iload_n hx hb dX5_paintedAt_30 rfl (lv_at hl 1 rfl) ?_
          obtain ⟨k65, ek65, hrun⟩ := jn_e hrun
          have J65 : ∀ (x2_65 : Int32) (x3_65 : Int32) (ls : Array Slot), k65 x2_65 x3_65 = some ru → lv_has ls 5 [(0, .ref h0), (1, .int a1), (2, .int x2_65), (3, .int x3_65), (4, .int x4_7)] → W p l e (headSpec wsX5_paintedAt ({ frames := 0, cells := 0, slots := 0, locals := 0 } : Room)).room s m ([.ref h0, .int a1] : List Value).toArray below meth c s.heap [] 0 0 (MQ below (vp_Si (fun r => r = ru)) ([.ref h0, .int a1] : List Value).toArray s 0 0 (fun _ => False)) (F0 m 65 ls []) := by
            intro x2_65 x3_65 ls hrun hl
            rw [ek65] at hrun
            refine lv_iinc (v := (x4_7 + (1 : Int32))) (lv' := [(4, .int (x4_7 + (1 : Int32))), (0, .ref h0), (1, .int a1), (2, .int x2_65), (3, .int x3_65)]) hx hb dX5_paintedAt_65 hl (k := 4) rfl rfl (by decide) rfl (fun ls hl => ?_)
            refine lv_goto (tgt := 7) hx hb dX5_paintedAt_68 (by decide) ?_
            exact ih x2_65 x3_65 ((x4_7 + (1 : Int32))) ls hrun (lv_sub hl [1, 2, 3, 4, 0] rfl)
          refine lv_icmp_gt (tgt := 65) hx hb dX5_paintedAt_31 (by decide) (fun cc => ?_) (fun cc => ?_)
          · have hrun := oi_t hrun cc
            exact J65 x2_7 x3_7 ls hrun hl
          · have hrun := oi_f hrun cc
            refine lv_iload_n hx hb dX5_paintedAt_34 rfl (lv_at hl 2 rfl) ?_
            obtain ⟨k54, ek54, hrun⟩ := jn_e hrun
            have J54 : ∀ (u_54 : Unit) (ls : Array Slot), k54 u_54 = some ru → lv_has ls 5 [(0, .ref h0), (1, .int a1), (4, .int x4_7)] → W p l e (headSpec wsX5_paintedAt ({ frames := 0, cells := 0, slots := 0, locals := 0 } : Room)).room s m ([.ref h0, .int a1] : List Value).toArray below meth c s.heap [] 0 0 (MQ below (vp_Si (fun r => r = ru)) ([.ref h0, .int a1] : List Value).toArray s 0 0 (fun _ => False)) (F0 m 54 ls []) := by
              intro u_54 ls hrun hl
              rw [ek54] at hrun
              refine lv_iload hx hb dX5_paintedAt_54 (lv_at hl 2 rfl) ?_
              refine lv_istore_n (lv' := [(2, .int x4_7), (0, .ref h0), (1, .int a1), (4, .int x4_7)]) hx hb dX5_paintedAt_56 rfl hl (by decide) rfl (fun ls hl => ?_)
              refine lv_aload_n hx hb dX5_paintedAt_57 rfl (lv_at hl 1 rfl) ?_
              refine va_get (D := (dC, dI)) (ci := 5) (v := .ref h2) (C := RX5) (T := TX5) (N := 10) hx hb hts hinX5 hown hK hP 0 rfl rfl 2 (by decide) (hts (.fieldLink RX5 16 "WasItOut$Law" "lineY" "[I") (by decide +kernel)) (fun _ h9 => h9) rfl dX5_paintedAt_58 ?_
              refine lv_iload hx hb dX5_paintedAt_61 (lv_at hl 3 rfl) ?_
              obtain ⟨hi, hrun⟩ := oi_x hrun
              refine va_iald hx hb hK hP 2 1 rfl rfl hi dX5_paintedAt_63 ?_
              refine lv_istore_n (lv' := [(3, .int (c2 x4_7.toNatClampNeg)), (2, .int x4_7), (0, .ref h0), (1, .int a1), (4, .int x4_7)]) hx hb dX5_paintedAt_64 rfl hl (by decide) rfl (fun ls hl => ?_)
              exact J65 x4_7 ((c2 x4_7.toNatClampNeg)) ls hrun (lv_sub hl [2, 3, 1, 0, 4] rfl)
            refine lv_if_lt (tgt := 54) hx hb dX5_paintedAt_35 (by decide) (fun cc => ?_) (fun cc => ?_)
            · have hrun := oi_t hrun cc
              exact J54 (()) ls hrun (lv_sub hl [0, 1, 4] rfl)
            · have hrun := oi_f hrun cc
              refine lv_aload_n hx hb dX5_paintedAt_38 rfl (lv_at hl 0 rfl) ?_
              refine va_get (D := (dC, dI)) (ci := 5) (v := .ref h1) (C := RX5) (T := TX5) (N := 10) hx hb hts hinX5 hown hK hP 0 rfl rfl 1 (by decide) (hts (.fieldLink RX5 13 "WasItOut$Law" "lineFrom" "[I") (by decide +kernel)) (fun _ h9 => h9) rfl dX5_paintedAt_39 ?_
              refine lv_iload hx hb dX5_paintedAt_42 (lv_at hl 4 rfl) ?_
              obtain ⟨hi, hrun⟩ := oi_x hrun
              refine va_iald hx hb hK hP 1 0 rfl rfl hi dX5_paintedAt_44 ?_
              refine lv_aload_n hx hb dX5_paintedAt_45 rfl (lv_at hl 0 rfl) ?_
              refine va_get (D := (dC, dI)) (ci := 5) (v := .ref h1) (C := RX5) (T := TX5) (N := 10) hx hb hts hinX5 hown hK hP 0 rfl rfl 1 (by decide) (hts (.fieldLink RX5 13 "WasItOut$Law" "lineFrom" "[I") (by decide +kernel)) (fun _ h9 => h9) rfl dX5_paintedAt_46 ?_
              refine lv_iload_n hx hb dX5_paintedAt_49 rfl (lv_at hl 2 rfl) ?_
              obtain ⟨hi, hrun⟩ := oi_x hrun
              refine va_iald hx hb hK hP 1 0 rfl rfl hi dX5_paintedAt_50 ?_
              refine lv_icmp_lt (tgt := 65) hx hb dX5_paintedAt_51 (by decide) (fun cc => ?_) (fun cc => ?_)
              · have hrun := oi_t hrun cc
                exact J65 x2_7 x3_7 ls hrun hl
              · have hrun := oi_f hrun cc
                exact J54 (()) ls hrun (lv_sub hl [0, 1, 4] rfl)
  exact L7 N ((-1 : Int32)) ((0 : Int32)) ((0 : Int32)) ls hrun (lv_sub hl [3, 4, 2, 1, 0] rfl)
set_option maxHeartbeats 4000000 in
set_option maxRecDepth 100000 in
theorem tX3_number (l : Launch) (dC : Nat → ClassId) (dI : Nat → Nat → Nat) (h0 h1 : Nat) (k1 : ClassId) (g0_kind : Value) (N : Nat) (a1 : Int32) (c1 : Nat → Int32) (ru : Int32) (hm : fX3_number N a1 c1 = some ru) : Met l yX3_number wsX3_number ({ frames := 0, cells := 0, slots := 0, locals := 0 } : Room) (va_Pc [.ref h0, .int a1] (fun U => va_P (dC, dI) vwCl [(h0, .inr (3, [.ref h1, g0_kind])), (h1, .inl (k1, 3, .inl c1))] U.heap ∧ va_K (dC, dI) vwCl [(k1, .int)] U)) (vp_Si (fun r => r = ru)) 0 0 (fun _ => False) := by
  refine Met.ofW (cc := cX3_number) (maxL := 2) (ret := (some .int)) (by decide) rfl ?_
  intro p e s m args below meth c s₁ B hml hv
  obtain ⟨rfl, hP, hK⟩ := hv
  have hx := B.exec
  have hb := B.bytes
  have hr := B.returns
  have hts := atoms_spec (ws := wsX3_number) B.pre
  have hown : s.vm.findClass RX3 = some m.cls := findClass_of_methodNamed B.named
  have hlocks := B.notSynchronized
  have hinX3 : ∀ w ∈ wsX30, w ∈ wsX3_number := by decide +kernel
  have hl := lv_entry ([.ref h0, .int a1]) (n := 2) (Nat.le_of_ble_eq_true rfl)
  rw [lg_entry_eq]
  generalize (lg_sl ([.ref h0, .int a1]) ++ List.replicate (2 - (lg_sl ([.ref h0, .int a1])).length) Slot.unset).toArray = ls at hl ⊢
  have hl : lv_has ls 2 [(0, .ref h0), (1, .int a1)] := hl
  have hrun := hm
  rw [fX3_number] at hrun
  refine lv_iload_n hx hb dX3_number_0 rfl (lv_at hl 1 rfl) ?_
  refine lv_if_lt (tgt := 22) hx hb dX3_number_1 (by decide) (fun cc => ?_) (fun cc => ?_)
  · have hrun := oi_t hrun cc
    refine lv_iconst (v := (0 : Int32)) hx hb dX3_number_22 (by decide) ?_
    exact W.iret hx hb hr (fun t ht _ => ⟨_, rfl, Option.some.inj hrun, ht⟩) (fun _ h => by cases h) dX3_number_23
  · have hrun := oi_f hrun cc
    refine lv_iload_n hx hb dX3_number_4 rfl (lv_at hl 1 rfl) ?_
    refine lv_aload_n hx hb dX3_number_5 rfl (lv_at hl 0 rfl) ?_
    refine va_get (D := (dC, dI)) (ci := 3) (v := .ref h1) (C := RX3) (T := TX3) (N := 2) hx hb hts hinX3 hown hK hP 0 rfl rfl 0 (by decide) (hts (.fieldLink RX3 7 "WasItOut$Item" "numbers" "[I") (by decide +kernel)) (fun _ h9 => h9) rfl dX3_number_6 ?_
    refine va_alen (v := (3 : Int32)) hx hb hK hP 1 0 rfl rfl (by first | rfl | decide) dX3_number_9 ?_
    refine lv_icmp_ge (tgt := 22) hx hb dX3_number_10 (by decide) (fun cc => ?_) (fun cc => ?_)
    · have hrun := oi_t hrun cc
      refine lv_iconst (v := (0 : Int32)) hx hb dX3_number_22 (by decide) ?_
      exact W.iret hx hb hr (fun t ht _ => ⟨_, rfl, Option.some.inj hrun, ht⟩) (fun _ h => by cases h) dX3_number_23
    · have hrun := oi_f hrun cc
      refine lv_aload_n hx hb dX3_number_13 rfl (lv_at hl 0 rfl) ?_
      refine va_get (D := (dC, dI)) (ci := 3) (v := .ref h1) (C := RX3) (T := TX3) (N := 2) hx hb hts hinX3 hown hK hP 0 rfl rfl 0 (by decide) (hts (.fieldLink RX3 7 "WasItOut$Item" "numbers" "[I") (by decide +kernel)) (fun _ h9 => h9) rfl dX3_number_14 ?_
      refine lv_iload_n hx hb dX3_number_17 rfl (lv_at hl 1 rfl) ?_
      obtain ⟨hi, hrun⟩ := oi_x hrun
      refine va_iald hx hb hK hP 1 0 rfl rfl hi dX3_number_18 ?_
      refine lv_goto (tgt := 23) hx hb dX3_number_19 (by decide) ?_
      exact W.iret hx hb hr (fun t ht _ => ⟨_, rfl, Option.some.inj hrun, ht⟩) (fun _ h => by cases h) dX3_number_23
set_option maxHeartbeats 4000000 in
set_option maxRecDepth 100000 in
theorem tX3_isBounded (l : Launch) (dC : Nat → ClassId) (dI : Nat → Nat → Nat) (t : Nat → Nat) (h0 h1 : Nat) (k1 : ClassId) (N : Nat) (a1 : Int32) (v0_kind : Int32) (c1 : Nat → Int32) (ru : Int32) (hm : fX3_isBounded N a1 v0_kind c1 = some ru) : Met l yX3_isBounded wsX3_isBounded ({ frames := 1, cells := 0, slots := 0, locals := 22 } : Room) (va_Pc [.ref h0, .int a1] (fun U => va_P (dC, dI) vwCl [(h0, .inr (3, [.ref h1, .int v0_kind])), (h1, .inl (k1, 3, .inl c1))] U.heap ∧ va_K (dC, dI) vwCl [(k1, .int)] U ∧ gG t (fun _ => False) U U.heap)) (vp_Si (fun r => r = ru ∧ narrow .boolean (.int r) = .int r)) 0 0 (fun _ => False) := by
  refine Met.ofW (cc := cX3_isBounded) (maxL := 3) (ret := (some .boolean)) (by decide) rfl ?_
  intro p e s m args below meth c s₁ B hml hv
  obtain ⟨rfl, hP, hK, hG⟩ := hv
  have hx := B.exec
  have hb := B.bytes
  have hr := B.returns
  have hts := atoms_spec (ws := wsX3_isBounded) B.pre
  have hown : s.vm.findClass RX3 = some m.cls := findClass_of_methodNamed B.named
  have hlocks := B.notSynchronized
  have hinX3 : ∀ w ∈ wsX30, w ∈ wsX3_isBounded := by decide +kernel
  have hl := lv_entry ([.ref h0, .int a1]) (n := 3) (Nat.le_of_ble_eq_true rfl)
  rw [lg_entry_eq]
  generalize (lg_sl ([.ref h0, .int a1]) ++ List.replicate (3 - (lg_sl ([.ref h0, .int a1])).length) Slot.unset).toArray = ls at hl ⊢
  have hl : lv_has ls 3 [(0, .ref h0), (1, .int a1)] := hl
  have hrun := hm
  rw [fX3_isBounded] at hrun
  refine lv_aload_n hx hb dX3_isBounded_0 rfl (lv_at hl 0 rfl) ?_
  refine va_get (D := (dC, dI)) (ci := 3) (v := .int v0_kind) (C := RX3) (T := TX3) (N := 2) hx hb hts hinX3 hown hK hP 0 rfl rfl 1 (by decide) (hts (.fieldLink RX3 13 "WasItOut$Item" "kind" "I") (by decide +kernel)) (fun _ h9 => h9) rfl dX3_isBounded_1 ?_
  refine lv_if_lt (tgt := 18) hx hb dX3_isBounded_4 (by decide) (fun cc => ?_) (fun cc => ?_)
  · have hrun := oi_t hrun cc
    refine lv_iconst (v := (0 : Int32)) hx hb dX3_isBounded_18 (by decide) ?_
    exact W.zret hx hb hr (by rfl) (fun t ht _ => ⟨_, rfl, ⟨Option.some.inj hrun, (by rfl)⟩, ht⟩) (fun _ h => by cases h) dX3_isBounded_19
  · have hrun := oi_f hrun cc
    refine lv_aload_n hx hb dX3_isBounded_7 rfl (lv_at hl 0 rfl) ?_
    refine va_get (D := (dC, dI)) (ci := 3) (v := .int v0_kind) (C := RX3) (T := TX3) (N := 2) hx hb hts hinX3 hown hK hP 0 rfl rfl 1 (by decide) (hts (.fieldLink RX3 13 "WasItOut$Item" "kind" "I") (by decide +kernel)) (fun _ h9 => h9) rfl dX3_isBounded_8 ?_
    refine va_gets hx hb hG.z2.1 va_S.rf hown (hts (.fieldLink RX3 40 "WasItOut$Item" "FIRST_BOUNDS" "[I") (by decide +kernel)) (fun _ h9 => h9) dX3_isBounded_11 ?_
    refine va_tlen (v := (8 : Int32)) hx hb hG.z2.2 va_S.rf (by decide) dX3_isBounded_14 ?_
    refine lv_icmp_lt (tgt := 20) hx hb dX3_isBounded_15 (by decide) (fun cc => ?_) (fun cc => ?_)
    · have hrun := oi_t hrun cc
      refine va_gets hx hb hG.z2.1 va_S.rf hown (hts (.fieldLink RX3 40 "WasItOut$Item" "FIRST_BOUNDS" "[I") (by decide +kernel)) (fun _ h9 => h9) dX3_isBounded_20 ?_
      refine lv_aload_n hx hb dX3_isBounded_23 rfl (lv_at hl 0 rfl) ?_
      refine va_get (D := (dC, dI)) (ci := 3) (v := .int v0_kind) (C := RX3) (T := TX3) (N := 2) hx hb hts hinX3 hown hK hP 0 rfl rfl 1 (by decide) (hts (.fieldLink RX3 13 "WasItOut$Item" "kind" "I") (by decide +kernel)) (fun _ h9 => h9) rfl dX3_isBounded_24 ?_
      obtain ⟨hi, hrun⟩ := oi_x hrun
      refine va_ti (v := .int (tb_Item_FIRST_BOUNDS v0_kind.toNatClampNeg)) hx hb hG.z2.2 va_S.rf hi rfl dX3_isBounded_27 ?_
      refine lv_iload_n hx hb dX3_isBounded_28 rfl (lv_at hl 1 rfl) ?_
      refine lv_iadd hx hb dX3_isBounded_29 ?_
      refine lv_istore_n (lv' := [(2, .int ((tb_Item_FIRST_BOUNDS v0_kind.toNatClampNeg) + a1)), (0, .ref h0), (1, .int a1)]) hx hb dX3_isBounded_30 rfl hl (by decide) rfl (fun ls hl => ?_)
      refine lv_iload_n hx hb dX3_isBounded_31 rfl (lv_at hl 0 rfl) ?_
      refine lv_if_lt (tgt := 51) hx hb dX3_isBounded_32 (by decide) (fun cc => ?_) (fun cc => ?_)
      · have hrun := oi_t hrun cc
        refine lv_iconst (v := (0 : Int32)) hx hb dX3_isBounded_51 (by decide) ?_
        exact W.zret hx hb hr (by rfl) (fun t ht _ => ⟨_, rfl, ⟨Option.some.inj hrun, (by rfl)⟩, ht⟩) (fun _ h => by cases h) dX3_isBounded_52
      · have hrun := oi_f hrun cc
        refine lv_iload_n hx hb dX3_isBounded_35 rfl (lv_at hl 0 rfl) ?_
        refine va_gets hx hb hG.z3.1 va_S.rf hown (hts (.fieldLink RX3 43 "WasItOut$Item" "LOWEST" "[I") (by decide +kernel)) (fun _ h9 => h9) dX3_isBounded_36 ?_
        refine va_tlen (v := (11 : Int32)) hx hb hG.z3.2 va_S.rf (by decide) dX3_isBounded_39 ?_
        refine lv_icmp_ge (tgt := 51) hx hb dX3_isBounded_40 (by decide) (fun cc => ?_) (fun cc => ?_)
        · have hrun := oi_t hrun cc
          refine lv_iconst (v := (0 : Int32)) hx hb dX3_isBounded_51 (by decide) ?_
          exact W.zret hx hb hr (by rfl) (fun t ht _ => ⟨_, rfl, ⟨Option.some.inj hrun, (by rfl)⟩, ht⟩) (fun _ h => by cases h) dX3_isBounded_52
        · have hrun := oi_f hrun cc
          refine lv_iload_n hx hb dX3_isBounded_43 rfl (lv_at hl 0 rfl) ?_
          refine va_gets hx hb hG.z4.1 va_S.rf hown (hts (.fieldLink RX3 46 "WasItOut$Item" "HIGHEST" "[I") (by decide +kernel)) (fun _ h9 => h9) dX3_isBounded_44 ?_
          refine va_tlen (v := (11 : Int32)) hx hb hG.z4.2 va_S.rf (by decide) dX3_isBounded_47 ?_
          refine lv_icmp_lt (tgt := 53) hx hb dX3_isBounded_48 (by decide) (fun cc => ?_) (fun cc => ?_)
          · have hrun := oi_t hrun cc
            refine lv_aload_n hx hb dX3_isBounded_53 rfl (lv_at hl 1 rfl) ?_
            refine lv_iload_n hx hb dX3_isBounded_54 rfl (lv_at hl 2 rfl) ?_
            obtain ⟨q55, hc55, hrun⟩ := ob_e hrun
            refine wz_csi (va_runV (As := [.int a1]) (rest := []) ⟨hx, hb, hml, hown, hts⟩ (tX3_number l dC dI h0 h1 k1 (.int v0_kind) N a1 c1 q55 hc55) (cwV 1 hts gX3_isBounded_X3_number rfl rfl rfl (by decide +kernel) ⟨Nat.le_of_ble_eq_true rfl, Nat.le_of_ble_eq_true rfl⟩) (wz_pVr (hP.sub (ws' := [(h0, .inr (3, [.ref h1, .int v0_kind])), (h1, .inl (k1, 3, .inl c1))]) [0, 1] rfl) (hK.sub (tys' := [(k1, .int)]) [0] rfl) (va_recv hK hP (ci := 3) (q0 := 0) rfl rfl)) rfl rfl hl.1 rfl (lv_room (Nat.le_of_ble_eq_true rfl)) dX3_isBounded_55 ⟨Nat.zero_le _, Nat.zero_le _⟩) ?_
            refine va_gets hx hb hG.z3.1 va_S.rf hown (hts (.fieldLink RX3 43 "WasItOut$Item" "LOWEST" "[I") (by decide +kernel)) (fun _ h9 => h9) dX3_isBounded_58 ?_
            refine lv_iload_n hx hb dX3_isBounded_61 rfl (lv_at hl 0 rfl) ?_
            obtain ⟨hi, hrun⟩ := oi_x hrun
            refine va_ti (v := .int (tb_Item_LOWEST ((tb_Item_FIRST_BOUNDS v0_kind.toNatClampNeg) + a1).toNatClampNeg)) hx hb hG.z3.2 va_S.rf hi rfl dX3_isBounded_62 ?_
            refine va_gets hx hb hG.z4.1 va_S.rf hown (hts (.fieldLink RX3 46 "WasItOut$Item" "HIGHEST" "[I") (by decide +kernel)) (fun _ h9 => h9) dX3_isBounded_63 ?_
            refine lv_iload_n hx hb dX3_isBounded_66 rfl (lv_at hl 0 rfl) ?_
            obtain ⟨hi, hrun⟩ := oi_x hrun
            refine va_ti (v := .int (tb_Item_HIGHEST ((tb_Item_FIRST_BOUNDS v0_kind.toNatClampNeg) + a1).toNatClampNeg)) hx hb hG.z4.2 va_S.rf hi rfl dX3_isBounded_67 ?_
            obtain ⟨q68, hc68, hrun⟩ := ob_e hrun
            refine wz_csz (va_runSN (As := [.int q55, .int (tb_Item_LOWEST ((tb_Item_FIRST_BOUNDS v0_kind.toNatClampNeg) + a1).toNatClampNeg), .int (tb_Item_HIGHEST ((tb_Item_FIRST_BOUNDS v0_kind.toNatClampNeg) + a1).toNatClampNeg)]) (rest := []) ⟨hx, hb, hml, hown, hts⟩ (tX9_within l dC dI N q55 ((tb_Item_LOWEST ((tb_Item_FIRST_BOUNDS v0_kind.toNatClampNeg) + a1).toNatClampNeg)) ((tb_Item_HIGHEST ((tb_Item_FIRST_BOUNDS v0_kind.toNatClampNeg) + a1).toNatClampNeg)) q68 hc68) ⟨va_cnB 3 hts gX3_isBounded_X9_within_n52 rfl rfl rfl hG.n1 (hts (.initialized RX9) (by decide +kernel)) (by decide +kernel) ⟨Nat.le_of_ble_eq_true rfl, Nat.le_of_ble_eq_true rfl⟩, hts (.static yX9_within) (by decide +kernel), trivial⟩ (wz_pSr (hP.sub (ws' := []) [] rfl) (hK.sub (tys' := []) [] rfl)) rfl rfl hl.1 rfl (lv_room (Nat.le_of_ble_eq_true rfl)) dX3_isBounded_68 ⟨Nat.zero_le _, Nat.zero_le _⟩) (fun hz68 => ?_)
            exact W.zret hx hb hr hz68 (fun t ht _ => ⟨_, rfl, ⟨Option.some.inj hrun, hz68⟩, ht⟩) (fun _ h => by cases h) dX3_isBounded_71
          · have hrun := oi_f hrun cc
            refine lv_iconst (v := (0 : Int32)) hx hb dX3_isBounded_51 (by decide) ?_
            exact W.zret hx hb hr (by rfl) (fun t ht _ => ⟨_, rfl, ⟨Option.some.inj hrun, (by rfl)⟩, ht⟩) (fun _ h => by cases h) dX3_isBounded_52
    · have hrun := oi_f hrun cc
      refine lv_iconst (v := (0 : Int32)) hx hb dX3_isBounded_18 (by decide) ?_
      exact W.zret hx hb hr (by rfl) (fun t ht _ => ⟨_, rfl, ⟨Option.some.inj hrun, (by rfl)⟩, ht⟩) (fun _ h => by cases h) dX3_isBounded_19
set_option maxHeartbeats 4000000 in
set_option maxRecDepth 100000 in
theorem tX3_isFigure (l : Launch) (dC : Nat → ClassId) (dI : Nat → Nat → Nat) (N : Nat) (a0 : Int32)  (ru : Int32) (hm : fX3_isFigure N a0 = some ru) : Met l yX3_isFigure wsX3_isFigure ({ frames := 0, cells := 0, slots := 0, locals := 0 } : Room) (va_Pc [.int a0] (fun U => va_P (dC, dI) vwCl [] U.heap ∧ va_K (dC, dI) vwCl [] U)) (vp_Si (fun r => r = ru ∧ narrow .boolean (.int r) = .int r)) 0 0 (fun _ => False) := by
  refine Met.ofW (cc := cX3_isFigure) (maxL := 1) (ret := (some .boolean)) (by decide) rfl ?_
  intro p e s m args below meth c s₁ B hml hv
  obtain ⟨rfl, hP, hK⟩ := hv
  have hx := B.exec
  have hb := B.bytes
  have hr := B.returns
  have hts := atoms_spec (ws := wsX3_isFigure) B.pre
  have hown : s.vm.findClass RX3 = some m.cls := findClass_of_methodNamed B.named
  have hlocks := B.notSynchronized
  have hl := lv_entry ([.int a0]) (n := 1) (Nat.le_of_ble_eq_true rfl)
  rw [lg_entry_eq]
  generalize (lg_sl ([.int a0]) ++ List.replicate (1 - (lg_sl ([.int a0])).length) Slot.unset).toArray = ls at hl ⊢
  have hl : lv_has ls 1 [(0, .int a0)] := hl
  have hrun := hm
  rw [fX3_isFigure] at hrun
  refine lv_iload_n hx hb dX3_isFigure_0 rfl (lv_at hl 0 rfl) ?_
  refine lv_bipush (v := (48 : Int32)) hx hb dX3_isFigure_1 (by decide) ?_
  refine lv_icmp_lt (tgt := 16) hx hb dX3_isFigure_3 (by decide) (fun cc => ?_) (fun cc => ?_)
  · have hrun := oi_t hrun cc
    refine lv_iconst (v := (0 : Int32)) hx hb dX3_isFigure_16 (by decide) ?_
    exact W.zret hx hb hr (by rfl) (fun t ht _ => ⟨_, rfl, ⟨Option.some.inj hrun, (by rfl)⟩, ht⟩) (fun _ h => by cases h) dX3_isFigure_17
  · have hrun := oi_f hrun cc
    refine lv_iload_n hx hb dX3_isFigure_6 rfl (lv_at hl 0 rfl) ?_
    refine lv_bipush (v := (57 : Int32)) hx hb dX3_isFigure_7 (by decide) ?_
    refine lv_icmp_gt (tgt := 16) hx hb dX3_isFigure_9 (by decide) (fun cc => ?_) (fun cc => ?_)
    · have hrun := oi_t hrun cc
      refine lv_iconst (v := (0 : Int32)) hx hb dX3_isFigure_16 (by decide) ?_
      exact W.zret hx hb hr (by rfl) (fun t ht _ => ⟨_, rfl, ⟨Option.some.inj hrun, (by rfl)⟩, ht⟩) (fun _ h => by cases h) dX3_isFigure_17
    · have hrun := oi_f hrun cc
      refine lv_iconst (v := (1 : Int32)) hx hb dX3_isFigure_12 (by decide) ?_
      refine lv_goto (tgt := 17) hx hb dX3_isFigure_13 (by decide) ?_
      exact W.zret hx hb hr (by rfl) (fun t ht _ => ⟨_, rfl, ⟨Option.some.inj hrun, (by rfl)⟩, ht⟩) (fun _ h => by cases h) dX3_isFigure_17
set_option maxHeartbeats 4000000 in
set_option maxRecDepth 100000 in
theorem tX3_kind (l : Launch) (dC : Nat → ClassId) (dI : Nat → Nat → Nat) (h0 : Nat) (g0_numbers : Value) (N : Nat)  (v0_kind : Int32) (ru : Int32) (hm : fX3_kind N v0_kind = some ru) : Met l yX3_kind wsX3_kind ({ frames := 0, cells := 0, slots := 0, locals := 0 } : Room) (va_Pc [.ref h0] (fun U => va_P (dC, dI) vwCl [(h0, .inr (3, [g0_numbers, .int v0_kind]))] U.heap ∧ va_K (dC, dI) vwCl [] U)) (vp_Si (fun r => r = ru)) 0 0 (fun _ => False) := by
  refine Met.ofW (cc := cX3_kind) (maxL := 1) (ret := (some .int)) (by decide) rfl ?_
  intro p e s m args below meth c s₁ B hml hv
  obtain ⟨rfl, hP, hK⟩ := hv
  have hx := B.exec
  have hb := B.bytes
  have hr := B.returns
  have hts := atoms_spec (ws := wsX3_kind) B.pre
  have hown : s.vm.findClass RX3 = some m.cls := findClass_of_methodNamed B.named
  have hlocks := B.notSynchronized
  have hinX3 : ∀ w ∈ wsX30, w ∈ wsX3_kind := by decide +kernel
  have hl := lv_entry ([.ref h0]) (n := 1) (Nat.le_of_ble_eq_true rfl)
  rw [lg_entry_eq]
  generalize (lg_sl ([.ref h0]) ++ List.replicate (1 - (lg_sl ([.ref h0])).length) Slot.unset).toArray = ls at hl ⊢
  have hl : lv_has ls 1 [(0, .ref h0)] := hl
  have hrun := hm
  rw [fX3_kind] at hrun
  refine lv_aload_n hx hb dX3_kind_0 rfl (lv_at hl 0 rfl) ?_
  refine va_get (D := (dC, dI)) (ci := 3) (v := .int v0_kind) (C := RX3) (T := TX3) (N := 2) hx hb hts hinX3 hown hK hP 0 rfl rfl 1 (by decide) (hts (.fieldLink RX3 13 "WasItOut$Item" "kind" "I") (by decide +kernel)) (fun _ h9 => h9) rfl dX3_kind_1 ?_
  exact W.iret hx hb hr (fun t ht _ => ⟨_, rfl, Option.some.inj hrun, ht⟩) (fun _ h => by cases h) dX3_kind_4
set_option maxHeartbeats 4000000 in
set_option maxRecDepth 100000 in
theorem tX3_kindOf (l : Launch) (dC : Nat → ClassId) (dI : Nat → Nat → Nat) (t : Nat → Nat) (N : Nat) (a0 : Int32)  (ru : Int32) (hm : fX3_kindOf N a0 = some ru) : Met l yX3_kindOf wsX3_kindOf ({ frames := 0, cells := 0, slots := 0, locals := 0 } : Room) (va_Pc [.int a0] (fun U => va_P (dC, dI) vwCl [] U.heap ∧ va_K (dC, dI) vwCl [] U ∧ gG t (fun _ => False) U U.heap)) (vp_Si (fun r => r = ru)) 0 0 (fun _ => False) := by
  refine Met.ofW (cc := cX3_kindOf) (maxL := 2) (ret := (some .int)) (by decide) rfl ?_
  intro p e s m args below meth c s₁ B hml hv
  obtain ⟨rfl, hP, hK, hG⟩ := hv
  have hx := B.exec
  have hb := B.bytes
  have hr := B.returns
  have hts := atoms_spec (ws := wsX3_kindOf) B.pre
  have hown : s.vm.findClass RX3 = some m.cls := findClass_of_methodNamed B.named
  have hlocks := B.notSynchronized
  have hl := lv_entry ([.int a0]) (n := 2) (Nat.le_of_ble_eq_true rfl)
  rw [lg_entry_eq]
  generalize (lg_sl ([.int a0]) ++ List.replicate (2 - (lg_sl ([.int a0])).length) Slot.unset).toArray = ls at hl ⊢
  have hl : lv_has ls 2 [(0, .int a0)] := hl
  have hrun := hm
  rw [fX3_kindOf] at hrun
  refine lv_iconst (v := (0 : Int32)) hx hb dX3_kindOf_0 (by decide) ?_
  refine lv_istore_n (lv' := [(1, .int (0 : Int32)), (0, .int a0)]) hx hb dX3_kindOf_1 rfl hl (by decide) rfl (fun ls hl => ?_)
  have L2 : ∀ (n : Nat) (x1_2 : Int32) (ls : Array Slot), fX3_kindOf_p2 N a0 n x1_2 = some ru → lv_has ls 2 [(0, .int a0), (1, .int x1_2)] → W p l e (headSpec wsX3_kindOf ({ frames := 0, cells := 0, slots := 0, locals := 0 } : Room)).room s m ([.int a0] : List Value).toArray below meth c s.heap [] 0 0 (MQ below (vp_Si (fun r => r = ru)) ([.int a0] : List Value).toArray s 0 0 (fun _ => False)) (F0 m 2 ls []) := by
    intro n
    induction n with
    | zero => intro x1_2 ls hrun; rw [fX3_kindOf_p2] at hrun; exact on_e hrun
    | succ n ih =>
      intro x1_2 ls hrun hl
      rw [fX3_kindOf_p2] at hrun
      refine lv_iload_n hx hb dX3_kindOf_2 rfl (lv_at hl 1 rfl) ?_
      refine va_gets hx hb hG.z0.1 va_S.rf hown (hts (.fieldLink RX3 58 "WasItOut$Item" "LETTERS" "[C") (by decide +kernel)) (fun _ h9 => h9) dX3_kindOf_3 ?_
      refine va_tlen (v := (8 : Int32)) hx hb hG.z0.2 va_S.rf (by decide) dX3_kindOf_6 ?_
      refine lv_icmp_ge (tgt := 27) hx hb dX3_kindOf_7 (by decide) (fun cc => ?_) (fun cc => ?_)
      · have hrun := oi_t hrun cc
        refine lv_iconst (v := (-1 : Int32)) hx hb dX3_kindOf_27 (by decide) ?_
        exact W.iret hx hb hr (fun t ht _ => ⟨_, rfl, Option.some.inj hrun, ht⟩) (fun _ h => by cases h) dX3_kindOf_28
      · have hrun := oi_f hrun cc
        refine va_gets hx hb hG.z0.1 va_S.rf hown (hts (.fieldLink RX3 58 "WasItOut$Item" "LETTERS" "[C") (by decide +kernel)) (fun _ h9 => h9) dX3_kindOf_10 ?_
        refine lv_iload_n hx hb dX3_kindOf_13 rfl (lv_at hl 1 rfl) ?_
        obtain ⟨hi, hrun⟩ := oi_x hrun
        refine va_tc (v := .int (tb_Item_LETTERS x1_2.toNatClampNeg)) hx hb hG.z0.2 va_S.rf hi rfl dX3_kindOf_14 ?_
        refine lv_iload_n hx hb dX3_kindOf_15 rfl (lv_at hl 0 rfl) ?_
        refine lv_icmp_ne (tgt := 21) hx hb dX3_kindOf_16 (by decide) (fun cc => ?_) (fun cc => ?_)
        · have hrun := oi_t hrun cc
          refine lv_iinc (v := (x1_2 + (1 : Int32))) (lv' := [(1, .int (x1_2 + (1 : Int32))), (0, .int a0)]) hx hb dX3_kindOf_21 hl (k := 1) rfl rfl (by decide) rfl (fun ls hl => ?_)
          refine lv_goto (tgt := 2) hx hb dX3_kindOf_24 (by decide) ?_
          exact ih ((x1_2 + (1 : Int32))) ls hrun (lv_sub hl [1, 0] rfl)
        · have hrun := oi_n hrun cc
          refine lv_iload_n hx hb dX3_kindOf_19 rfl (lv_at hl 1 rfl) ?_
          exact W.iret hx hb hr (fun t ht _ => ⟨_, rfl, Option.some.inj hrun, ht⟩) (fun _ h => by cases h) dX3_kindOf_20
  exact L2 N ((0 : Int32)) ls hrun (lv_sub hl [1, 0] rfl)
set_option maxHeartbeats 4000000 in
set_option maxRecDepth 100000 in
theorem tX6_byteAt (l : Launch) (dC : Nat → ClassId) (dI : Nat → Nat → Nat) (h0 h1 : Nat) (k1 : ClassId) (g0_item : Value) (N : Nat) (a1 : Int32) (v0_length : Int32) (c1 : Nat → Int32) (ru : Int32) (hm : fX6_byteAt N a1 v0_length c1 = some ru) : Met l yX6_byteAt wsX6_byteAt ({ frames := 0, cells := 0, slots := 0, locals := 0 } : Room) (va_Pc [.ref h0, .int a1] (fun U => va_P (dC, dI) vwCl [(h0, .inr (6, [.ref h1, g0_item, .int v0_length])), (h1, .inl (k1, 200, .inl c1))] U.heap ∧ va_K (dC, dI) vwCl [(k1, .int)] U)) (vp_Si (fun r => r = ru)) 0 0 (fun _ => False) := by
  refine Met.ofW (cc := cX6_byteAt) (maxL := 2) (ret := (some .int)) (by decide) rfl ?_
  intro p e s m args below meth c s₁ B hml hv
  obtain ⟨rfl, hP, hK⟩ := hv
  have hx := B.exec
  have hb := B.bytes
  have hr := B.returns
  have hts := atoms_spec (ws := wsX6_byteAt) B.pre
  have hown : s.vm.findClass RX6 = some m.cls := findClass_of_methodNamed B.named
  have hlocks := B.notSynchronized
  have hinX6 : ∀ w ∈ wsX60, w ∈ wsX6_byteAt := by decide +kernel
  have hl := lv_entry ([.ref h0, .int a1]) (n := 2) (Nat.le_of_ble_eq_true rfl)
  rw [lg_entry_eq]
  generalize (lg_sl ([.ref h0, .int a1]) ++ List.replicate (2 - (lg_sl ([.ref h0, .int a1])).length) Slot.unset).toArray = ls at hl ⊢
  have hl : lv_has ls 2 [(0, .ref h0), (1, .int a1)] := hl
  have hrun := hm
  rw [fX6_byteAt] at hrun
  refine lv_iload_n hx hb dX6_byteAt_0 rfl (lv_at hl 1 rfl) ?_
  refine lv_if_lt (tgt := 30) hx hb dX6_byteAt_1 (by decide) (fun cc => ?_) (fun cc => ?_)
  · have hrun := oi_t hrun cc
    refine lv_iconst (v := (-1 : Int32)) hx hb dX6_byteAt_30 (by decide) ?_
    exact W.iret hx hb hr (fun t ht _ => ⟨_, rfl, Option.some.inj hrun, ht⟩) (fun _ h => by cases h) dX6_byteAt_31
  · have hrun := oi_f hrun cc
    refine lv_iload_n hx hb dX6_byteAt_4 rfl (lv_at hl 1 rfl) ?_
    refine lv_aload_n hx hb dX6_byteAt_5 rfl (lv_at hl 0 rfl) ?_
    refine va_get (D := (dC, dI)) (ci := 6) (v := .int v0_length) (C := RX6) (T := TX6) (N := 3) hx hb hts hinX6 hown hK hP 0 rfl rfl 2 (by decide) (hts (.fieldLink RX6 22 "WasItOut$Text" "length" "I") (by decide +kernel)) (fun _ h9 => h9) rfl dX6_byteAt_6 ?_
    refine lv_icmp_ge (tgt := 30) hx hb dX6_byteAt_9 (by decide) (fun cc => ?_) (fun cc => ?_)
    · have hrun := oi_t hrun cc
      refine lv_iconst (v := (-1 : Int32)) hx hb dX6_byteAt_30 (by decide) ?_
      exact W.iret hx hb hr (fun t ht _ => ⟨_, rfl, Option.some.inj hrun, ht⟩) (fun _ h => by cases h) dX6_byteAt_31
    · have hrun := oi_f hrun cc
      refine lv_iload_n hx hb dX6_byteAt_12 rfl (lv_at hl 1 rfl) ?_
      refine lv_aload_n hx hb dX6_byteAt_13 rfl (lv_at hl 0 rfl) ?_
      refine va_get (D := (dC, dI)) (ci := 6) (v := .ref h1) (C := RX6) (T := TX6) (N := 3) hx hb hts hinX6 hown hK hP 0 rfl rfl 0 (by decide) (hts (.fieldLink RX6 11 "WasItOut$Text" "bytes" "[I") (by decide +kernel)) (fun _ h9 => h9) rfl dX6_byteAt_14 ?_
      refine va_alen (v := (200 : Int32)) hx hb hK hP 1 0 rfl rfl (by first | rfl | decide) dX6_byteAt_17 ?_
      refine lv_icmp_ge (tgt := 30) hx hb dX6_byteAt_18 (by decide) (fun cc => ?_) (fun cc => ?_)
      · have hrun := oi_t hrun cc
        refine lv_iconst (v := (-1 : Int32)) hx hb dX6_byteAt_30 (by decide) ?_
        exact W.iret hx hb hr (fun t ht _ => ⟨_, rfl, Option.some.inj hrun, ht⟩) (fun _ h => by cases h) dX6_byteAt_31
      · have hrun := oi_f hrun cc
        refine lv_aload_n hx hb dX6_byteAt_21 rfl (lv_at hl 0 rfl) ?_
        refine va_get (D := (dC, dI)) (ci := 6) (v := .ref h1) (C := RX6) (T := TX6) (N := 3) hx hb hts hinX6 hown hK hP 0 rfl rfl 0 (by decide) (hts (.fieldLink RX6 11 "WasItOut$Text" "bytes" "[I") (by decide +kernel)) (fun _ h9 => h9) rfl dX6_byteAt_22 ?_
        refine lv_iload_n hx hb dX6_byteAt_25 rfl (lv_at hl 1 rfl) ?_
        obtain ⟨hi, hrun⟩ := oi_x hrun
        refine va_iald hx hb hK hP 1 0 rfl rfl hi dX6_byteAt_26 ?_
        refine lv_goto (tgt := 31) hx hb dX6_byteAt_27 (by decide) ?_
        exact W.iret hx hb hr (fun t ht _ => ⟨_, rfl, Option.some.inj hrun, ht⟩) (fun _ h => by cases h) dX6_byteAt_31
set_option maxHeartbeats 4000000 in
set_option maxRecDepth 100000 in
theorem tX3_readNumber (l : Launch) (dC : Nat → ClassId) (dI : Nat → Nat → Nat) (sz : Nat) (h0 h1 h2 h3 : Nat) (k1 k3 : ClassId) (g0_kind g2_item : Value) (N : Nat) (a2 : Int32) (a3 : Int32) (c1 : Nat → Int32) (v2_length : Int32) (c3 : Nat → Int32) (ru : Int32 × (Nat → Int32)) (hm : fX3_readNumber N a2 a3 c1 v2_length c3 = some ru) : Met l yX3_readNumber wsX3_readNumber ({ frames := 1, cells := 0, slots := 0, locals := 21 } : Room) (va_Pc [.ref h0, .ref h2, .int a2, .int a3] (fun U => U.heap.size = sz ∧ va_P (dC, dI) vwCl [(h0, .inr (3, [.ref h1, g0_kind])), (h1, .inl (k1, 3, .inl c1)), (h2, .inr (6, [.ref h3, g2_item, .int v2_length])), (h3, .inl (k3, 200, .inl c3))] U.heap ∧ va_K (dC, dI) vwCl [(k1, .int), (k3, .int)] U ∧ va_D (fun _ => True) [(h0, .inr (3, [.ref h1, g0_kind])), (h1, .inl (k1, 3, .inl c1)), (h2, .inr (6, [.ref h3, g2_item, .int v2_length])), (h3, .inl (k3, 200, .inl c3))])) (va_Qi (fun r (_ : Unit) => r = ru.1) (fun (_ : Unit) t => va_P (dC, dI) vwCl [(h0, .inr (3, [.ref h1, g0_kind])), (h1, .inl (k1, 3, .inl ru.2)), (h2, .inr (6, [.ref h3, g2_item, .int v2_length])), (h3, .inl (k3, 200, .inl c3))] t.heap ∧ va_K (dC, dI) vwCl [(k1, .int), (k3, .int)] t ∧ va_D (va_A [(h0, .inr (3, [.ref h1, g0_kind])), (h1, .inl (k1, 3, .inl c1)), (h2, .inr (6, [.ref h3, g2_item, .int v2_length])), (h3, .inl (k3, 200, .inl c3))] sz) [(h0, .inr (3, [.ref h1, g0_kind])), (h1, .inl (k1, 3, .inl ru.2)), (h2, .inr (6, [.ref h3, g2_item, .int v2_length])), (h3, .inl (k3, 200, .inl c3))]) (va_A [(h0, .inr (3, [.ref h1, g0_kind])), (h1, .inl (k1, 3, .inl c1)), (h2, .inr (6, [.ref h3, g2_item, .int v2_length])), (h3, .inl (k3, 200, .inl c3))] sz)) 0 0 (va_A [(h0, .inr (3, [.ref h1, g0_kind])), (h1, .inl (k1, 3, .inl c1)), (h2, .inr (6, [.ref h3, g2_item, .int v2_length])), (h3, .inl (k3, 200, .inl c3))] sz) := by
  refine Met.ofW (cc := cX3_readNumber) (maxL := 8) (ret := (some .int)) (by decide) rfl ?_
  intro p e s m args below meth c s₁ B hml hv
  obtain ⟨rfl, hsz, hP, hK, hD0⟩ := hv
  have hx := B.exec
  have hb := B.bytes
  have hr := B.returns
  have hts := atoms_spec (ws := wsX3_readNumber) B.pre
  have hown : s.vm.findClass RX3 = some m.cls := findClass_of_methodNamed B.named
  have hlocks := B.notSynchronized
  subst hsz
  have hD := hD0.self (sz := s.heap.size)
  generalize hAe : va_A [(h0, .inr (3, [.ref h1, g0_kind])), (h1, .inl (k1, 3, .inl c1)), (h2, .inr (6, [.ref h3, g2_item, .int v2_length])), (h3, .inl (k3, 200, .inl c3))] s.heap.size = A at hD ⊢
  have hA : ∀ q : Nat, s.heap.size ≤ q → A q := fun q h => by rw [← hAe]; exact Or.inr h
  have hS : va_S A s.heap s.heap [] := va_S.rf
  have hinX3 : ∀ w ∈ wsX30, w ∈ wsX3_readNumber := by decide +kernel
  have hl := lv_entry ([.ref h0, .ref h2, .int a2, .int a3]) (n := 8) (Nat.le_of_ble_eq_true rfl)
  rw [lg_entry_eq]
  generalize (lg_sl ([.ref h0, .ref h2, .int a2, .int a3]) ++ List.replicate (8 - (lg_sl ([.ref h0, .ref h2, .int a2, .int a3])).length) Slot.unset).toArray = ls at hl ⊢
  have hl : lv_has ls 8 [(0, .ref h0), (1, .ref h2), (2, .int a2), (3, .int a3)] := hl
  have hrun := hm
  rw [fX3_readNumber] at hrun
  obtain ⟨H, hHe⟩ : ∃ H, H = s.heap := ⟨_, rfl⟩
  obtain ⟨locs, hLe⟩ : ∃ locs : List Loc, locs = [] := ⟨_, rfl⟩
  rw [← hHe] at hP
  have hS : va_S A s.heap H locs := by rw [hHe, hLe]; exact hS
  have key : W p l e (headSpec wsX3_readNumber ({ frames := 1, cells := 0, slots := 0, locals := 21 } : Room)).room s m ([.ref h0, .ref h2, .int a2, .int a3] : List Value).toArray below meth c H locs 0 0 (MQ below (va_Qi (fun r (_ : Unit) => r = ru.1) (fun (_ : Unit) t => va_P (dC, dI) vwCl [(h0, .inr (3, [.ref h1, g0_kind])), (h1, .inl (k1, 3, .inl ru.2)), (h2, .inr (6, [.ref h3, g2_item, .int v2_length])), (h3, .inl (k3, 200, .inl c3))] t.heap ∧ va_K (dC, dI) vwCl [(k1, .int), (k3, .int)] t ∧ va_D A [(h0, .inr (3, [.ref h1, g0_kind])), (h1, .inl (k1, 3, .inl ru.2)), (h2, .inr (6, [.ref h3, g2_item, .int v2_length])), (h3, .inl (k3, 200, .inl c3))]) A) ([.ref h0, .ref h2, .int a2, .int a3] : List Value).toArray s 0 0 A) (F0 m 0 ls []) := by
    clear hHe hLe
    refine lv_aload_n hx hb dX3_readNumber_0 rfl (lv_at hl 1 rfl) ?_
    refine lv_iload_n hx hb dX3_readNumber_1 rfl (lv_at hl 2 rfl) ?_
    obtain ⟨q2, hc2, hrun⟩ := ob_e hrun
    refine wz_csi (va_runV (As := [.int a2]) (rest := []) ⟨hx, hb, hml, hown, hts⟩ (tX6_byteAt l dC dI h2 h3 k3 (g2_item) N a2 v2_length c3 q2 hc2) (cwV 1 hts gX3_readNumber_X6_byteAt rfl rfl rfl (by decide +kernel) ⟨Nat.le_of_ble_eq_true rfl, Nat.le_of_ble_eq_true rfl⟩) (wz_pVr (hP.sub (ws' := [(h2, .inr (6, [.ref h3, g2_item, .int v2_length])), (h3, .inl (k3, 200, .inl c3))]) [2, 3] rfl) (hK.sub (tys' := [(k3, .int)]) [1] rfl) (va_recv hK hP (ci := 6) (q0 := 2) rfl rfl)) rfl rfl hl.1 rfl (lv_room (Nat.le_of_ble_eq_true rfl)) dX3_readNumber_2 ⟨Nat.zero_le _, Nat.zero_le _⟩) ?_
    refine lv_bipush (v := (45 : Int32)) hx hb dX3_readNumber_5 (by decide) ?_
    obtain ⟨k15, ek15, hrun⟩ := jn_e hrun
    have J15 : ∀ (z0_15 : Int32) (ls : Array Slot) (H : Heap) (locs : List Loc), k15 z0_15 = some ru → va_P (dC, dI) vwCl [(h0, .inr (3, [.ref h1, g0_kind])), (h1, .inl (k1, 3, .inl c1)), (h2, .inr (6, [.ref h3, g2_item, .int v2_length])), (h3, .inl (k3, 200, .inl c3))] H → va_D A [(h0, .inr (3, [.ref h1, g0_kind])), (h1, .inl (k1, 3, .inl c1)), (h2, .inr (6, [.ref h3, g2_item, .int v2_length])), (h3, .inl (k3, 200, .inl c3))] → va_S A s.heap H locs → lv_has ls 8 [(0, .ref h0), (1, .ref h2), (2, .int a2), (3, .int a3)] → W p l e (headSpec wsX3_readNumber ({ frames := 1, cells := 0, slots := 0, locals := 21 } : Room)).room s m ([.ref h0, .ref h2, .int a2, .int a3] : List Value).toArray below meth c H locs 0 0 (MQ below (va_Qi (fun r (_ : Unit) => r = ru.1) (fun (_ : Unit) t => va_P (dC, dI) vwCl [(h0, .inr (3, [.ref h1, g0_kind])), (h1, .inl (k1, 3, .inl ru.2)), (h2, .inr (6, [.ref h3, g2_item, .int v2_length])), (h3, .inl (k3, 200, .inl c3))] t.heap ∧ va_K (dC, dI) vwCl [(k1, .int), (k3, .int)] t ∧ va_D A [(h0, .inr (3, [.ref h1, g0_kind])), (h1, .inl (k1, 3, .inl ru.2)), (h2, .inr (6, [.ref h3, g2_item, .int v2_length])), (h3, .inl (k3, 200, .inl c3))]) A) ([.ref h0, .ref h2, .int a2, .int a3] : List Value).toArray s 0 0 A) (F0 m 15 ls [.int z0_15]) := by
      intro z0_15 ls H locs hrun hP hD hS hl
      rw [ek15] at hrun
      refine lv_istore (lv' := [(4, .int z0_15), (0, .ref h0), (1, .ref h2), (2, .int a2), (3, .int a3)]) hx hb dX3_readNumber_15 hl (by decide) rfl (fun ls hl => ?_)
      refine lv_iload hx hb dX3_readNumber_17 (lv_at hl 0 rfl) ?_
      obtain ⟨k29, ek29, hrun⟩ := jn_e hrun
      have J29 : ∀ (z0_29 : Int32) (ls : Array Slot) (H : Heap) (locs : List Loc), k29 z0_29 = some ru → va_P (dC, dI) vwCl [(h0, .inr (3, [.ref h1, g0_kind])), (h1, .inl (k1, 3, .inl c1)), (h2, .inr (6, [.ref h3, g2_item, .int v2_length])), (h3, .inl (k3, 200, .inl c3))] H → va_D A [(h0, .inr (3, [.ref h1, g0_kind])), (h1, .inl (k1, 3, .inl c1)), (h2, .inr (6, [.ref h3, g2_item, .int v2_length])), (h3, .inl (k3, 200, .inl c3))] → va_S A s.heap H locs → lv_has ls 8 [(0, .ref h0), (1, .ref h2), (3, .int a3), (4, .int z0_15)] → W p l e (headSpec wsX3_readNumber ({ frames := 1, cells := 0, slots := 0, locals := 21 } : Room)).room s m ([.ref h0, .ref h2, .int a2, .int a3] : List Value).toArray below meth c H locs 0 0 (MQ below (va_Qi (fun r (_ : Unit) => r = ru.1) (fun (_ : Unit) t => va_P (dC, dI) vwCl [(h0, .inr (3, [.ref h1, g0_kind])), (h1, .inl (k1, 3, .inl ru.2)), (h2, .inr (6, [.ref h3, g2_item, .int v2_length])), (h3, .inl (k3, 200, .inl c3))] t.heap ∧ va_K (dC, dI) vwCl [(k1, .int), (k3, .int)] t ∧ va_D A [(h0, .inr (3, [.ref h1, g0_kind])), (h1, .inl (k1, 3, .inl ru.2)), (h2, .inr (6, [.ref h3, g2_item, .int v2_length])), (h3, .inl (k3, 200, .inl c3))]) A) ([.ref h0, .ref h2, .int a2, .int a3] : List Value).toArray s 0 0 A) (F0 m 29 ls [.int z0_29]) := by
        intro z0_29 ls H locs hrun hP hD hS hl
        rw [ek29] at hrun
        refine lv_istore (lv' := [(5, .int z0_29), (0, .ref h0), (1, .ref h2), (3, .int a3), (4, .int z0_15)]) hx hb dX3_readNumber_29 hl (by decide) rfl (fun ls hl => ?_)
        refine lv_iload hx hb dX3_readNumber_31 (lv_at hl 0 rfl) ?_
        refine lv_istore (lv' := [(6, .int z0_29), (5, .int z0_29), (0, .ref h0), (1, .ref h2), (3, .int a3), (4, .int z0_15)]) hx hb dX3_readNumber_33 hl (by decide) rfl (fun ls hl => ?_)
        refine lv_iconst (v := (0 : Int32)) hx hb dX3_readNumber_35 (by decide) ?_
        refine lv_istore (lv' := [(7, .int (0 : Int32)), (6, .int z0_29), (5, .int z0_29), (0, .ref h0), (1, .ref h2), (3, .int a3), (4, .int z0_15)]) hx hb dX3_readNumber_36 hl (by decide) rfl (fun ls hl => ?_)
        obtain ⟨k82, ek82, hrun⟩ := jn_e hrun
        have J82 : ∀ (x6_82 : Int32) (x7_82 : Int32) (ls : Array Slot) (H : Heap) (locs : List Loc), k82 x6_82 x7_82 = some ru → va_P (dC, dI) vwCl [(h0, .inr (3, [.ref h1, g0_kind])), (h1, .inl (k1, 3, .inl c1)), (h2, .inr (6, [.ref h3, g2_item, .int v2_length])), (h3, .inl (k3, 200, .inl c3))] H → va_D A [(h0, .inr (3, [.ref h1, g0_kind])), (h1, .inl (k1, 3, .inl c1)), (h2, .inr (6, [.ref h3, g2_item, .int v2_length])), (h3, .inl (k3, 200, .inl c3))] → va_S A s.heap H locs → lv_has ls 8 [(0, .ref h0), (3, .int a3), (4, .int z0_15), (5, .int z0_29), (6, .int x6_82), (7, .int x7_82)] → W p l e (headSpec wsX3_readNumber ({ frames := 1, cells := 0, slots := 0, locals := 21 } : Room)).room s m ([.ref h0, .ref h2, .int a2, .int a3] : List Value).toArray below meth c H locs 0 0 (MQ below (va_Qi (fun r (_ : Unit) => r = ru.1) (fun (_ : Unit) t => va_P (dC, dI) vwCl [(h0, .inr (3, [.ref h1, g0_kind])), (h1, .inl (k1, 3, .inl ru.2)), (h2, .inr (6, [.ref h3, g2_item, .int v2_length])), (h3, .inl (k3, 200, .inl c3))] t.heap ∧ va_K (dC, dI) vwCl [(k1, .int), (k3, .int)] t ∧ va_D A [(h0, .inr (3, [.ref h1, g0_kind])), (h1, .inl (k1, 3, .inl ru.2)), (h2, .inr (6, [.ref h3, g2_item, .int v2_length])), (h3, .inl (k3, 200, .inl c3))]) A) ([.ref h0, .ref h2, .int a2, .int a3] : List Value).toArray s 0 0 A) (F0 m 82 ls []) := by
          intro x6_82 x7_82 ls H locs hrun hP hD hS hl
          rw [ek82] at hrun
          refine lv_iload hx hb dX3_readNumber_82 (lv_at hl 4 rfl) ?_
          refine lv_iload hx hb dX3_readNumber_84 (lv_at hl 3 rfl) ?_
          refine lv_icmp_eq (tgt := 112) hx hb dX3_readNumber_86 (by decide) (fun cc => ?_) (fun cc => ?_)
          · have hrun := oi_t hrun cc
            refine lv_iconst (v := (-1 : Int32)) hx hb dX3_readNumber_112 (by decide) ?_
            cases hrun
            have hP9 : va_P (dC, dI) vwCl [(h0, .inr (3, [.ref h1, g0_kind])), (h1, .inl (k1, 3, .inl c1)), (h2, .inr (6, [.ref h3, g2_item, .int v2_length])), (h3, .inl (k3, 200, .inl c3))] H := hP
            have hD9 : va_D A [(h0, .inr (3, [.ref h1, g0_kind])), (h1, .inl (k1, 3, .inl c1)), (h2, .inr (6, [.ref h3, g2_item, .int v2_length])), (h3, .inl (k3, 200, .inl c3))] := hD
            exact W.iret hx hb hr (fun t ht hW => ⟨⟨_, (), rfl, rfl, by rw [ht]; exact hP9, va_K.moved hW.alike hK, hD9⟩, hS.F ht⟩) hS.2.2 dX3_readNumber_113
          · have hrun := oi_f hrun cc
            refine lv_iload hx hb dX3_readNumber_89 (lv_at hl 2 rfl) ?_
            obtain ⟨k99, ek99, hrun⟩ := jn_e hrun
            have J99 : ∀ (u_99 : Unit) (ls : Array Slot) (H : Heap) (locs : List Loc), k99 u_99 = some ru → va_P (dC, dI) vwCl [(h0, .inr (3, [.ref h1, g0_kind])), (h1, .inl (k1, 3, .inl c1)), (h2, .inr (6, [.ref h3, g2_item, .int v2_length])), (h3, .inl (k3, 200, .inl c3))] H → va_D A [(h0, .inr (3, [.ref h1, g0_kind])), (h1, .inl (k1, 3, .inl c1)), (h2, .inr (6, [.ref h3, g2_item, .int v2_length])), (h3, .inl (k3, 200, .inl c3))] → va_S A s.heap H locs → lv_has ls 8 [(0, .ref h0), (3, .int a3), (4, .int z0_15), (6, .int x6_82), (7, .int x7_82)] → W p l e (headSpec wsX3_readNumber ({ frames := 1, cells := 0, slots := 0, locals := 21 } : Room)).room s m ([.ref h0, .ref h2, .int a2, .int a3] : List Value).toArray below meth c H locs 0 0 (MQ below (va_Qi (fun r (_ : Unit) => r = ru.1) (fun (_ : Unit) t => va_P (dC, dI) vwCl [(h0, .inr (3, [.ref h1, g0_kind])), (h1, .inl (k1, 3, .inl ru.2)), (h2, .inr (6, [.ref h3, g2_item, .int v2_length])), (h3, .inl (k3, 200, .inl c3))] t.heap ∧ va_K (dC, dI) vwCl [(k1, .int), (k3, .int)] t ∧ va_D A [(h0, .inr (3, [.ref h1, g0_kind])), (h1, .inl (k1, 3, .inl ru.2)), (h2, .inr (6, [.ref h3, g2_item, .int v2_length])), (h3, .inl (k3, 200, .inl c3))]) A) ([.ref h0, .ref h2, .int a2, .int a3] : List Value).toArray s 0 0 A) (F0 m 99 ls []) := by
              intro u_99 ls H locs hrun hP hD hS hl
              rw [ek99] at hrun
              refine lv_iload_n hx hb dX3_readNumber_99 rfl (lv_at hl 1 rfl) ?_
              refine lv_if_lt (tgt := 112) hx hb dX3_readNumber_100 (by decide) (fun cc => ?_) (fun cc => ?_)
              · have hrun := oi_t hrun cc
                refine lv_iconst (v := (-1 : Int32)) hx hb dX3_readNumber_112 (by decide) ?_
                cases hrun
                have hP9 : va_P (dC, dI) vwCl [(h0, .inr (3, [.ref h1, g0_kind])), (h1, .inl (k1, 3, .inl c1)), (h2, .inr (6, [.ref h3, g2_item, .int v2_length])), (h3, .inl (k3, 200, .inl c3))] H := hP
                have hD9 : va_D A [(h0, .inr (3, [.ref h1, g0_kind])), (h1, .inl (k1, 3, .inl c1)), (h2, .inr (6, [.ref h3, g2_item, .int v2_length])), (h3, .inl (k3, 200, .inl c3))] := hD
                exact W.iret hx hb hr (fun t ht hW => ⟨⟨_, (), rfl, rfl, by rw [ht]; exact hP9, va_K.moved hW.alike hK, hD9⟩, hS.F ht⟩) hS.2.2 dX3_readNumber_113
              · have hrun := oi_f hrun cc
                refine lv_iload_n hx hb dX3_readNumber_103 rfl (lv_at hl 1 rfl) ?_
                refine lv_aload_n hx hb dX3_readNumber_104 rfl (lv_at hl 0 rfl) ?_
                refine va_get (D := (dC, dI)) (ci := 3) (v := .ref h1) (C := RX3) (T := TX3) (N := 2) hx hb hts hinX3 hown hK hP 0 rfl rfl 0 (by decide) (hts (.fieldLink RX3 7 "WasItOut$Item" "numbers" "[I") (by decide +kernel)) (fun _ h9 => h9) rfl dX3_readNumber_105 ?_
                refine va_alen (v := (3 : Int32)) hx hb hK hP 1 0 rfl rfl (by first | rfl | decide) dX3_readNumber_108 ?_
                refine lv_icmp_lt (tgt := 114) hx hb dX3_readNumber_109 (by decide) (fun cc => ?_) (fun cc => ?_)
                · have hrun := oi_t hrun cc
                  refine lv_aload_n hx hb dX3_readNumber_114 rfl (lv_at hl 0 rfl) ?_
                  refine va_get (D := (dC, dI)) (ci := 3) (v := .ref h1) (C := RX3) (T := TX3) (N := 2) hx hb hts hinX3 hown hK hP 0 rfl rfl 0 (by decide) (hts (.fieldLink RX3 7 "WasItOut$Item" "numbers" "[I") (by decide +kernel)) (fun _ h9 => h9) rfl dX3_readNumber_115 ?_
                  refine lv_iload_n hx hb dX3_readNumber_118 rfl (lv_at hl 1 rfl) ?_
                  refine lv_iload hx hb dX3_readNumber_119 (lv_at hl 2 rfl) ?_
                  refine lv_if_eq (tgt := 130) hx hb dX3_readNumber_121 (by decide) (fun cc => ?_) (fun cc => ?_)
                  · have hrun := oi_t hrun cc
                    refine lv_iload hx hb dX3_readNumber_130 (lv_at hl 4 rfl) ?_
                    obtain ⟨hi, hrun⟩ := oi_x hrun
                    refine va_iast hx hb hK hP hD hS 1 0 rfl rfl hi dX3_readNumber_132 (fun H locs hP hD hS => ?_)
                    have hP : va_P (dC, dI) vwCl [(h0, .inr (3, [.ref h1, g0_kind])), (h1, .inl (k1, 3, .inl (upd c1 a3.toNatClampNeg x7_82))), (h2, .inr (6, [.ref h3, g2_item, .int v2_length])), (h3, .inl (k3, 200, .inl c3))] H := hP
                    have hD : va_D A [(h0, .inr (3, [.ref h1, g0_kind])), (h1, .inl (k1, 3, .inl (upd c1 a3.toNatClampNeg x7_82))), (h2, .inr (6, [.ref h3, g2_item, .int v2_length])), (h3, .inl (k3, 200, .inl c3))] := hD
                    refine lv_iload hx hb dX3_readNumber_133 (lv_at hl 3 rfl) ?_
                    cases hrun
                    have hP9 : va_P (dC, dI) vwCl [(h0, .inr (3, [.ref h1, g0_kind])), (h1, .inl (k1, 3, .inl (upd c1 a3.toNatClampNeg x7_82))), (h2, .inr (6, [.ref h3, g2_item, .int v2_length])), (h3, .inl (k3, 200, .inl c3))] H := hP
                    have hD9 : va_D A [(h0, .inr (3, [.ref h1, g0_kind])), (h1, .inl (k1, 3, .inl (upd c1 a3.toNatClampNeg x7_82))), (h2, .inr (6, [.ref h3, g2_item, .int v2_length])), (h3, .inl (k3, 200, .inl c3))] := hD
                    exact W.iret hx hb hr (fun t ht hW => ⟨⟨_, (), rfl, rfl, by rw [ht]; exact hP9, va_K.moved hW.alike hK, hD9⟩, hS.F ht⟩) hS.2.2 dX3_readNumber_135
                  · have hrun := oi_f hrun cc
                    refine lv_iload hx hb dX3_readNumber_124 (lv_at hl 4 rfl) ?_
                    refine lv_ineg hx hb dX3_readNumber_126 ?_
                    refine lv_goto (tgt := 132) hx hb dX3_readNumber_127 (by decide) ?_
                    obtain ⟨hi, hrun⟩ := oi_x hrun
                    refine va_iast hx hb hK hP hD hS 1 0 rfl rfl hi dX3_readNumber_132 (fun H locs hP hD hS => ?_)
                    have hP : va_P (dC, dI) vwCl [(h0, .inr (3, [.ref h1, g0_kind])), (h1, .inl (k1, 3, .inl (upd c1 a3.toNatClampNeg (-x7_82)))), (h2, .inr (6, [.ref h3, g2_item, .int v2_length])), (h3, .inl (k3, 200, .inl c3))] H := hP
                    have hD : va_D A [(h0, .inr (3, [.ref h1, g0_kind])), (h1, .inl (k1, 3, .inl (upd c1 a3.toNatClampNeg (-x7_82)))), (h2, .inr (6, [.ref h3, g2_item, .int v2_length])), (h3, .inl (k3, 200, .inl c3))] := hD
                    refine lv_iload hx hb dX3_readNumber_133 (lv_at hl 3 rfl) ?_
                    cases hrun
                    have hP9 : va_P (dC, dI) vwCl [(h0, .inr (3, [.ref h1, g0_kind])), (h1, .inl (k1, 3, .inl (upd c1 a3.toNatClampNeg (-x7_82)))), (h2, .inr (6, [.ref h3, g2_item, .int v2_length])), (h3, .inl (k3, 200, .inl c3))] H := hP
                    have hD9 : va_D A [(h0, .inr (3, [.ref h1, g0_kind])), (h1, .inl (k1, 3, .inl (upd c1 a3.toNatClampNeg (-x7_82)))), (h2, .inr (6, [.ref h3, g2_item, .int v2_length])), (h3, .inl (k3, 200, .inl c3))] := hD
                    exact W.iret hx hb hr (fun t ht hW => ⟨⟨_, (), rfl, rfl, by rw [ht]; exact hP9, va_K.moved hW.alike hK, hD9⟩, hS.F ht⟩) hS.2.2 dX3_readNumber_135
                · have hrun := oi_f hrun cc
                  refine lv_iconst (v := (-1 : Int32)) hx hb dX3_readNumber_112 (by decide) ?_
                  cases hrun
                  have hP9 : va_P (dC, dI) vwCl [(h0, .inr (3, [.ref h1, g0_kind])), (h1, .inl (k1, 3, .inl c1)), (h2, .inr (6, [.ref h3, g2_item, .int v2_length])), (h3, .inl (k3, 200, .inl c3))] H := hP
                  have hD9 : va_D A [(h0, .inr (3, [.ref h1, g0_kind])), (h1, .inl (k1, 3, .inl c1)), (h2, .inr (6, [.ref h3, g2_item, .int v2_length])), (h3, .inl (k3, 200, .inl c3))] := hD
                  exact W.iret hx hb hr (fun t ht hW => ⟨⟨_, (), rfl, rfl, by rw [ht]; exact hP9, va_K.moved hW.alike hK, hD9⟩, hS.F ht⟩) hS.2.2 dX3_readNumber_113
            refine lv_if_eq (tgt := 99) hx hb dX3_readNumber_91 (by decide) (fun cc => ?_) (fun cc => ?_)
            · have hrun := oi_t hrun cc
              exact J99 (()) ls H locs hrun hP hD hS (lv_sub hl [0, 1, 2, 4, 5] rfl)
            · have hrun := oi_f hrun cc
              refine lv_iload hx hb dX3_readNumber_94 (lv_at hl 5 rfl) ?_
              refine lv_if_eq (tgt := 112) hx hb dX3_readNumber_96 (by decide) (fun cc => ?_) (fun cc => ?_)
              · have hrun := oi_t hrun cc
                refine lv_iconst (v := (-1 : Int32)) hx hb dX3_readNumber_112 (by decide) ?_
                cases hrun
                have hP9 : va_P (dC, dI) vwCl [(h0, .inr (3, [.ref h1, g0_kind])), (h1, .inl (k1, 3, .inl c1)), (h2, .inr (6, [.ref h3, g2_item, .int v2_length])), (h3, .inl (k3, 200, .inl c3))] H := hP
                have hD9 : va_D A [(h0, .inr (3, [.ref h1, g0_kind])), (h1, .inl (k1, 3, .inl c1)), (h2, .inr (6, [.ref h3, g2_item, .int v2_length])), (h3, .inl (k3, 200, .inl c3))] := hD
                exact W.iret hx hb hr (fun t ht hW => ⟨⟨_, (), rfl, rfl, by rw [ht]; exact hP9, va_K.moved hW.alike hK, hD9⟩, hS.F ht⟩) hS.2.2 dX3_readNumber_113
              · have hrun := oi_f hrun cc
                exact J99 (()) ls H locs hrun hP hD hS (lv_sub hl [0, 1, 2, 4, 5] rfl)
        have L38 : ∀ (n : Nat) (x6_38 : Int32) (x7_38 : Int32) (ls : Array Slot) (H : Heap) (locs : List Loc), fX3_readNumber_p38 N a3 z0_15 z0_29 v2_length c3 k82 n x6_38 x7_38 = some ru → va_P (dC, dI) vwCl [(h0, .inr (3, [.ref h1, g0_kind])), (h1, .inl (k1, 3, .inl c1)), (h2, .inr (6, [.ref h3, g2_item, .int v2_length])), (h3, .inl (k3, 200, .inl c3))] H → va_D A [(h0, .inr (3, [.ref h1, g0_kind])), (h1, .inl (k1, 3, .inl c1)), (h2, .inr (6, [.ref h3, g2_item, .int v2_length])), (h3, .inl (k3, 200, .inl c3))] → va_S A s.heap H locs → lv_has ls 8 [(0, .ref h0), (1, .ref h2), (3, .int a3), (4, .int z0_15), (5, .int z0_29), (6, .int x6_38), (7, .int x7_38)] → W p l e (headSpec wsX3_readNumber ({ frames := 1, cells := 0, slots := 0, locals := 21 } : Room)).room s m ([.ref h0, .ref h2, .int a2, .int a3] : List Value).toArray below meth c H locs 0 0 (MQ below (va_Qi (fun r (_ : Unit) => r = ru.1) (fun (_ : Unit) t => va_P (dC, dI) vwCl [(h0, .inr (3, [.ref h1, g0_kind])), (h1, .inl (k1, 3, .inl ru.2)), (h2, .inr (6, [.ref h3, g2_item, .int v2_length])), (h3, .inl (k3, 200, .inl c3))] t.heap ∧ va_K (dC, dI) vwCl [(k1, .int), (k3, .int)] t ∧ va_D A [(h0, .inr (3, [.ref h1, g0_kind])), (h1, .inl (k1, 3, .inl ru.2)), (h2, .inr (6, [.ref h3, g2_item, .int v2_length])), (h3, .inl (k3, 200, .inl c3))]) A) ([.ref h0, .ref h2, .int a2, .int a3] : List Value).toArray s 0 0 A) (F0 m 38 ls []) := by
          intro n
          induction n with
          | zero => intro x6_38 x7_38 ls H locs hrun; rw [fX3_readNumber_p38] at hrun; exact on_e hrun
          | succ n ih =>
            intro x6_38 x7_38 ls H locs hrun hP hD hS hl
            rw [fX3_readNumber_p38] at hrun
            refine lv_iload hx hb dX3_readNumber_38 (lv_at hl 5 rfl) ?_
            refine lv_iload hx hb dX3_readNumber_40 (lv_at hl 4 rfl) ?_
            refine lv_iconst (v := (4 : Int32)) hx hb dX3_readNumber_42 (by decide) ?_
            refine lv_iadd hx hb dX3_readNumber_43 ?_
            refine lv_icmp_ge (tgt := 82) hx hb dX3_readNumber_44 (by decide) (fun cc => ?_) (fun cc => ?_)
            · have hrun := oi_t hrun cc
              exact J82 x6_38 x7_38 ls H locs hrun hP hD hS (lv_sub hl [0, 2, 3, 4, 5, 6] rfl)
            · have hrun := oi_f hrun cc
              refine lv_aload_n hx hb dX3_readNumber_47 rfl (lv_at hl 1 rfl) ?_
              refine lv_iload hx hb dX3_readNumber_48 (lv_at hl 5 rfl) ?_
              obtain ⟨q50, hc50, hrun⟩ := ob_e hrun
              refine wz_csi (va_runV (As := [.int x6_38]) (rest := []) ⟨hx, hb, hml, hown, hts⟩ (tX6_byteAt l dC dI h2 h3 k3 (g2_item) N x6_38 v2_length c3 q50 hc50) (cwV 1 hts gX3_readNumber_X6_byteAt rfl rfl rfl (by decide +kernel) ⟨Nat.le_of_ble_eq_true rfl, Nat.le_of_ble_eq_true rfl⟩) (wz_pVr (hP.sub (ws' := [(h2, .inr (6, [.ref h3, g2_item, .int v2_length])), (h3, .inl (k3, 200, .inl c3))]) [2, 3] rfl) (hK.sub (tys' := [(k3, .int)]) [1] rfl) (va_recv hK hP (ci := 6) (q0 := 2) rfl rfl)) rfl rfl hl.1 rfl (lv_room (Nat.le_of_ble_eq_true rfl)) dX3_readNumber_50 ⟨Nat.zero_le _, Nat.zero_le _⟩) ?_
              obtain ⟨q53, hc53, hrun⟩ := ob_e hrun
              refine wz_csz (va_runS (As := [.int q50]) (rest := []) ⟨hx, hb, hml, hown, hts⟩ (tX3_isFigure l dC dI N q50 q53 hc53) (va_cwS 1 hts gX3_readNumber_X3_isFigure rfl rfl rfl (by decide +kernel) ⟨Nat.le_of_ble_eq_true rfl, Nat.le_of_ble_eq_true rfl⟩) (wz_pSr (hP.sub (ws' := []) [] rfl) (hK.sub (tys' := []) [] rfl)) rfl rfl hl.1 rfl (lv_room (Nat.le_of_ble_eq_true rfl)) dX3_readNumber_53 ⟨Nat.zero_le _, Nat.zero_le _⟩) (fun hz53 => ?_)
              refine lv_if_eq (tgt := 82) hx hb dX3_readNumber_56 (by decide) (fun cc => ?_) (fun cc => ?_)
              · have hrun := oi_t hrun cc
                exact J82 x6_38 x7_38 ls H locs hrun hP hD hS (lv_sub hl [0, 2, 3, 4, 5, 6] rfl)
              · have hrun := oi_f hrun cc
                refine lv_iload hx hb dX3_readNumber_59 (lv_at hl 6 rfl) ?_
                refine lv_bipush (v := (10 : Int32)) hx hb dX3_readNumber_61 (by decide) ?_
                refine lv_imul hx hb dX3_readNumber_63 ?_
                refine lv_aload_n hx hb dX3_readNumber_64 rfl (lv_at hl 1 rfl) ?_
                refine lv_iload hx hb dX3_readNumber_65 (lv_at hl 5 rfl) ?_
                obtain ⟨q67, hc67, hrun⟩ := ob_e hrun
                refine wz_csi (va_runV (As := [.int x6_38]) (rest := [.int (x7_38 * (10 : Int32))]) ⟨hx, hb, hml, hown, hts⟩ (tX6_byteAt l dC dI h2 h3 k3 (g2_item) N x6_38 v2_length c3 q67 hc67) (cwV 1 hts gX3_readNumber_X6_byteAt rfl rfl rfl (by decide +kernel) ⟨Nat.le_of_ble_eq_true rfl, Nat.le_of_ble_eq_true rfl⟩) (wz_pVr (hP.sub (ws' := [(h2, .inr (6, [.ref h3, g2_item, .int v2_length])), (h3, .inl (k3, 200, .inl c3))]) [2, 3] rfl) (hK.sub (tys' := [(k3, .int)]) [1] rfl) (va_recv hK hP (ci := 6) (q0 := 2) rfl rfl)) rfl rfl hl.1 rfl (lv_room (Nat.le_of_ble_eq_true rfl)) dX3_readNumber_67 ⟨Nat.zero_le _, Nat.zero_le _⟩) ?_
                refine lv_iadd hx hb dX3_readNumber_70 ?_
                refine lv_bipush (v := (48 : Int32)) hx hb dX3_readNumber_71 (by decide) ?_
                refine lv_isub hx hb dX3_readNumber_73 ?_
                refine lv_istore (lv' := [(7, .int (((x7_38 * (10 : Int32)) + q67) - (48 : Int32))), (0, .ref h0), (1, .ref h2), (3, .int a3), (4, .int z0_15), (5, .int z0_29), (6, .int x6_38)]) hx hb dX3_readNumber_74 hl (by decide) rfl (fun ls hl => ?_)
                refine lv_iinc (v := (x6_38 + (1 : Int32))) (lv' := [(6, .int (x6_38 + (1 : Int32))), (7, .int (((x7_38 * (10 : Int32)) + q67) - (48 : Int32))), (0, .ref h0), (1, .ref h2), (3, .int a3), (4, .int z0_15), (5, .int z0_29)]) hx hb dX3_readNumber_76 hl (k := 6) rfl rfl (by decide) rfl (fun ls hl => ?_)
                refine lv_goto (tgt := 38) hx hb dX3_readNumber_79 (by decide) ?_
                exact ih ((x6_38 + (1 : Int32))) ((((x7_38 * (10 : Int32)) + q67) - (48 : Int32))) ls H locs hrun hP hD hS (lv_sub hl [2, 3, 4, 5, 6, 0, 1] rfl)
        exact L38 N z0_29 ((0 : Int32)) ls H locs hrun hP hD hS (lv_sub hl [3, 4, 5, 6, 2, 1, 0] rfl)
      refine lv_if_eq (tgt := 28) hx hb dX3_readNumber_19 (by decide) (fun cc => ?_) (fun cc => ?_)
      · have hrun := oi_t hrun cc
        refine lv_iload_n hx hb dX3_readNumber_28 rfl (lv_at hl 3 rfl) ?_
        exact J29 a2 ls H locs hrun hP hD hS (lv_sub hl [1, 2, 4, 0] rfl)
      · have hrun := oi_f hrun cc
        refine lv_iload_n hx hb dX3_readNumber_22 rfl (lv_at hl 3 rfl) ?_
        refine lv_iconst (v := (1 : Int32)) hx hb dX3_readNumber_23 (by decide) ?_
        refine lv_iadd hx hb dX3_readNumber_24 ?_
        refine lv_goto (tgt := 29) hx hb dX3_readNumber_25 (by decide) ?_
        exact J29 ((a2 + (1 : Int32))) ls H locs hrun hP hD hS (lv_sub hl [1, 2, 4, 0] rfl)
    refine lv_icmp_ne (tgt := 14) hx hb dX3_readNumber_7 (by decide) (fun cc => ?_) (fun cc => ?_)
    · have hrun := oi_t hrun cc
      refine lv_iconst (v := (0 : Int32)) hx hb dX3_readNumber_14 (by decide) ?_
      exact J15 ((0 : Int32)) ls H locs hrun hP hD hS hl
    · have hrun := oi_n hrun cc
      refine lv_iconst (v := (1 : Int32)) hx hb dX3_readNumber_10 (by decide) ?_
      refine lv_goto (tgt := 15) hx hb dX3_readNumber_11 (by decide) ?_
      exact J15 ((1 : Int32)) ls H locs hrun hP hD hS hl
  rw [hHe, hLe] at key
  exact key
set_option maxHeartbeats 4000000 in
set_option maxRecDepth 100000 in
theorem tX3_readFrom (l : Launch) (dC : Nat → ClassId) (dI : Nat → Nat → Nat) (t : Nat → Nat) (sz : Nat) (h0 h1 h2 h3 : Nat) (k1 k3 : ClassId) (g2_item : Value) (N : Nat) (a2 : Int32) (v0_kind : Int32) (c1 : Nat → Int32) (v2_length : Int32) (c3 : Nat → Int32) (ru : Int32 × (Int32) × (Nat → Int32)) (hm : fX3_readFrom N a2 v0_kind c1 v2_length c3 = some ru) : Met l yX3_readFrom wsX3_readFrom ({ frames := 2, cells := 0, slots := 0, locals := 48 } : Room) (va_Pc [.ref h0, .ref h2, .int a2] (fun U => U.heap.size = sz ∧ va_P (dC, dI) vwCl [(h0, .inr (3, [.ref h1, .int v0_kind])), (h1, .inl (k1, 3, .inl c1)), (h2, .inr (6, [.ref h3, g2_item, .int v2_length])), (h3, .inl (k3, 200, .inl c3))] U.heap ∧ va_K (dC, dI) vwCl [(k1, .int), (k3, .int)] U ∧ va_D (fun _ => True) [(h0, .inr (3, [.ref h1, .int v0_kind])), (h1, .inl (k1, 3, .inl c1)), (h2, .inr (6, [.ref h3, g2_item, .int v2_length])), (h3, .inl (k3, 200, .inl c3))] ∧ gG t (va_A [(h0, .inr (3, [.ref h1, .int v0_kind])), (h1, .inl (k1, 3, .inl c1)), (h2, .inr (6, [.ref h3, g2_item, .int v2_length])), (h3, .inl (k3, 200, .inl c3))] sz) U U.heap)) (va_Qi (fun r (_ : Unit) => r = ru.1) (fun (_ : Unit) t => va_P (dC, dI) vwCl [(h0, .inr (3, [.ref h1, .int ru.2.1])), (h1, .inl (k1, 3, .inl ru.2.2)), (h2, .inr (6, [.ref h3, g2_item, .int v2_length])), (h3, .inl (k3, 200, .inl c3))] t.heap ∧ va_K (dC, dI) vwCl [(k1, .int), (k3, .int)] t ∧ va_D (va_A [(h0, .inr (3, [.ref h1, .int v0_kind])), (h1, .inl (k1, 3, .inl c1)), (h2, .inr (6, [.ref h3, g2_item, .int v2_length])), (h3, .inl (k3, 200, .inl c3))] sz) [(h0, .inr (3, [.ref h1, .int ru.2.1])), (h1, .inl (k1, 3, .inl ru.2.2)), (h2, .inr (6, [.ref h3, g2_item, .int v2_length])), (h3, .inl (k3, 200, .inl c3))]) (va_A [(h0, .inr (3, [.ref h1, .int v0_kind])), (h1, .inl (k1, 3, .inl c1)), (h2, .inr (6, [.ref h3, g2_item, .int v2_length])), (h3, .inl (k3, 200, .inl c3))] sz)) 0 0 (va_A [(h0, .inr (3, [.ref h1, .int v0_kind])), (h1, .inl (k1, 3, .inl c1)), (h2, .inr (6, [.ref h3, g2_item, .int v2_length])), (h3, .inl (k3, 200, .inl c3))] sz) := by
  refine Met.ofW (cc := cX3_readFrom) (maxL := 7) (ret := (some .int)) (by decide) rfl ?_
  intro p e s m args below meth c s₁ B hml hv
  obtain ⟨rfl, hsz, hP, hK, hD0, hG⟩ := hv
  have hx := B.exec
  have hb := B.bytes
  have hr := B.returns
  have hts := atoms_spec (ws := wsX3_readFrom) B.pre
  have hown : s.vm.findClass RX3 = some m.cls := findClass_of_methodNamed B.named
  have hlocks := B.notSynchronized
  subst hsz
  have hD := hD0.self (sz := s.heap.size)
  generalize hAe : va_A [(h0, .inr (3, [.ref h1, .int v0_kind])), (h1, .inl (k1, 3, .inl c1)), (h2, .inr (6, [.ref h3, g2_item, .int v2_length])), (h3, .inl (k3, 200, .inl c3))] s.heap.size = A at hD hG ⊢
  have hA : ∀ q : Nat, s.heap.size ≤ q → A q := fun q h => by rw [← hAe]; exact Or.inr h
  have hS : va_S A s.heap s.heap [] := va_S.rf
  have hinX3 : ∀ w ∈ wsX30, w ∈ wsX3_readFrom := by decide +kernel
  have hl := lv_entry ([.ref h0, .ref h2, .int a2]) (n := 7) (Nat.le_of_ble_eq_true rfl)
  rw [lg_entry_eq]
  generalize (lg_sl ([.ref h0, .ref h2, .int a2]) ++ List.replicate (7 - (lg_sl ([.ref h0, .ref h2, .int a2])).length) Slot.unset).toArray = ls at hl ⊢
  have hl : lv_has ls 7 [(0, .ref h0), (1, .ref h2), (2, .int a2)] := hl
  have hrun := hm
  rw [fX3_readFrom] at hrun
  obtain ⟨H, hHe⟩ : ∃ H, H = s.heap := ⟨_, rfl⟩
  obtain ⟨locs, hLe⟩ : ∃ locs : List Loc, locs = [] := ⟨_, rfl⟩
  rw [← hHe] at hP
  have hS : va_S A s.heap H locs := by rw [hHe, hLe]; exact hS
  have key : W p l e (headSpec wsX3_readFrom ({ frames := 2, cells := 0, slots := 0, locals := 48 } : Room)).room s m ([.ref h0, .ref h2, .int a2] : List Value).toArray below meth c H locs 0 0 (MQ below (va_Qi (fun r (_ : Unit) => r = ru.1) (fun (_ : Unit) t => va_P (dC, dI) vwCl [(h0, .inr (3, [.ref h1, .int ru.2.1])), (h1, .inl (k1, 3, .inl ru.2.2)), (h2, .inr (6, [.ref h3, g2_item, .int v2_length])), (h3, .inl (k3, 200, .inl c3))] t.heap ∧ va_K (dC, dI) vwCl [(k1, .int), (k3, .int)] t ∧ va_D A [(h0, .inr (3, [.ref h1, .int ru.2.1])), (h1, .inl (k1, 3, .inl ru.2.2)), (h2, .inr (6, [.ref h3, g2_item, .int v2_length])), (h3, .inl (k3, 200, .inl c3))]) A) ([.ref h0, .ref h2, .int a2] : List Value).toArray s 0 0 A) (F0 m 0 ls []) := by
    clear hHe hLe
    refine lv_aload_n hx hb dX3_readFrom_0 rfl (lv_at hl 0 rfl) ?_
    refine lv_aload_n hx hb dX3_readFrom_1 rfl (lv_at hl 1 rfl) ?_
    refine lv_iload_n hx hb dX3_readFrom_2 rfl (lv_at hl 2 rfl) ?_
    obtain ⟨q3, hc3, hrun⟩ := ob_e hrun
    refine wz_csi (va_runV (As := [.int a2]) (rest := [.ref h0]) ⟨hx, hb, hml, hown, hts⟩ (tX6_byteAt l dC dI h2 h3 k3 (g2_item) N a2 v2_length c3 q3 hc3) (cwV 1 hts gX3_readFrom_X6_byteAt rfl rfl rfl (by decide +kernel) ⟨Nat.le_of_ble_eq_true rfl, Nat.le_of_ble_eq_true rfl⟩) (wz_pVr (hP.sub (ws' := [(h2, .inr (6, [.ref h3, g2_item, .int v2_length])), (h3, .inl (k3, 200, .inl c3))]) [2, 3] rfl) (hK.sub (tys' := [(k3, .int)]) [1] rfl) (va_recv hK hP (ci := 6) (q0 := 2) rfl rfl)) rfl rfl hl.1 rfl (lv_room (Nat.le_of_ble_eq_true rfl)) dX3_readFrom_3 ⟨Nat.zero_le _, Nat.zero_le _⟩) ?_
    obtain ⟨q6, hc6, hrun⟩ := ob_e hrun
    refine wz_csi (va_runS (As := [.int q3]) (rest := [.ref h0]) ⟨hx, hb, hml, hown, hts⟩ (tX3_kindOf l dC dI t N q3 q6 hc6) (va_cwS 1 hts gX3_readFrom_X3_kindOf rfl rfl rfl (by decide +kernel) ⟨Nat.le_of_ble_eq_true rfl, Nat.le_of_ble_eq_true rfl⟩) (wz_pSrG (hP.sub (ws' := []) [] rfl) (hK.sub (tys' := []) [] rfl) hG hS) rfl rfl hl.1 rfl (lv_room (Nat.le_of_ble_eq_true rfl)) dX3_readFrom_6 ⟨Nat.zero_le _, Nat.zero_le _⟩) ?_
    refine va_put (D := (dC, dI)) (ci := 3) (v := .int q6) (ty := .int) (C := RX3) (T := TX3) (N := 2) hx hb hts hinX3 tyX3 tyX3_ok nmX3 hown hK hP hD hS 0 rfl rfl 1 (by decide) (hts (.fieldLink RX3 13 "WasItOut$Item" "kind" "I") (by decide +kernel)) (fun _ h9 => h9) rfl (by decide +kernel) rfl rfl (Nat.le_of_ble_eq_true rfl) dX3_readFrom_9 (fun H locs hP hD hS => ?_)
    have hP : va_P (dC, dI) vwCl [(h0, .inr (3, [.ref h1, .int q6])), (h1, .inl (k1, 3, .inl c1)), (h2, .inr (6, [.ref h3, g2_item, .int v2_length])), (h3, .inl (k3, 200, .inl c3))] H := hP
    have hD : va_D A [(h0, .inr (3, [.ref h1, .int q6])), (h1, .inl (k1, 3, .inl c1)), (h2, .inr (6, [.ref h3, g2_item, .int v2_length])), (h3, .inl (k3, 200, .inl c3))] := hD
    refine lv_aload_n hx hb dX3_readFrom_12 rfl (lv_at hl 0 rfl) ?_
    refine va_get (D := (dC, dI)) (ci := 3) (v := .int q6) (C := RX3) (T := TX3) (N := 2) hx hb hts hinX3 hown hK hP 0 rfl rfl 1 (by decide) (hts (.fieldLink RX3 13 "WasItOut$Item" "kind" "I") (by decide +kernel)) (fun _ h9 => h9) rfl dX3_readFrom_13 ?_
    refine lv_if_lt (tgt := 30) hx hb dX3_readFrom_16 (by decide) (fun cc => ?_) (fun cc => ?_)
    · have hrun := oi_t hrun cc
      refine lv_iconst (v := (-1 : Int32)) hx hb dX3_readFrom_30 (by decide) ?_
      cases hrun
      have hP9 : va_P (dC, dI) vwCl [(h0, .inr (3, [.ref h1, .int q6])), (h1, .inl (k1, 3, .inl c1)), (h2, .inr (6, [.ref h3, g2_item, .int v2_length])), (h3, .inl (k3, 200, .inl c3))] H := hP
      have hD9 : va_D A [(h0, .inr (3, [.ref h1, .int q6])), (h1, .inl (k1, 3, .inl c1)), (h2, .inr (6, [.ref h3, g2_item, .int v2_length])), (h3, .inl (k3, 200, .inl c3))] := hD
      exact W.iret hx hb hr (fun t ht hW => ⟨⟨_, (), rfl, rfl, by rw [ht]; exact hP9, va_K.moved hW.alike hK, hD9⟩, hS.F ht⟩) hS.2.2 dX3_readFrom_31
    · have hrun := oi_f hrun cc
      refine lv_aload_n hx hb dX3_readFrom_19 rfl (lv_at hl 0 rfl) ?_
      refine va_get (D := (dC, dI)) (ci := 3) (v := .int q6) (C := RX3) (T := TX3) (N := 2) hx hb hts hinX3 hown hK hP 0 rfl rfl 1 (by decide) (hts (.fieldLink RX3 13 "WasItOut$Item" "kind" "I") (by decide +kernel)) (fun _ h9 => h9) rfl dX3_readFrom_20 ?_
      refine va_gets hx hb hG.z1.1 hS hown (hts (.fieldLink RX3 26 "WasItOut$Item" "AMOUNTS" "[I") (by decide +kernel)) (fun _ h9 => h9) dX3_readFrom_23 ?_
      refine va_tlen (v := (8 : Int32)) hx hb hG.z1.2 hS (by decide) dX3_readFrom_26 ?_
      refine lv_icmp_lt (tgt := 32) hx hb dX3_readFrom_27 (by decide) (fun cc => ?_) (fun cc => ?_)
      · have hrun := oi_t hrun cc
        refine va_gets hx hb hG.z1.1 hS hown (hts (.fieldLink RX3 26 "WasItOut$Item" "AMOUNTS" "[I") (by decide +kernel)) (fun _ h9 => h9) dX3_readFrom_32 ?_
        refine lv_aload_n hx hb dX3_readFrom_35 rfl (lv_at hl 0 rfl) ?_
        refine va_get (D := (dC, dI)) (ci := 3) (v := .int q6) (C := RX3) (T := TX3) (N := 2) hx hb hts hinX3 hown hK hP 0 rfl rfl 1 (by decide) (hts (.fieldLink RX3 13 "WasItOut$Item" "kind" "I") (by decide +kernel)) (fun _ h9 => h9) rfl dX3_readFrom_36 ?_
        obtain ⟨hi, hrun⟩ := oi_x hrun
        refine va_ti (v := .int (tb_Item_AMOUNTS q6.toNatClampNeg)) hx hb hG.z1.2 hS hi rfl dX3_readFrom_39 ?_
        refine lv_istore_n (lv' := [(3, .int (tb_Item_AMOUNTS q6.toNatClampNeg)), (0, .ref h0), (1, .ref h2), (2, .int a2)]) hx hb dX3_readFrom_40 rfl hl (by decide) rfl (fun ls hl => ?_)
        refine lv_iload_n hx hb dX3_readFrom_41 rfl (lv_at hl 3 rfl) ?_
        refine lv_iconst (v := (1 : Int32)) hx hb dX3_readFrom_42 (by decide) ?_
        refine lv_iadd hx hb dX3_readFrom_43 ?_
        refine lv_istore (lv' := [(4, .int (a2 + (1 : Int32))), (3, .int (tb_Item_AMOUNTS q6.toNatClampNeg)), (0, .ref h0), (1, .ref h2), (2, .int a2)]) hx hb dX3_readFrom_44 hl (by decide) rfl (fun ls hl => ?_)
        refine lv_iconst (v := (0 : Int32)) hx hb dX3_readFrom_46 (by decide) ?_
        refine lv_istore (lv' := [(5, .int (0 : Int32)), (4, .int (a2 + (1 : Int32))), (3, .int (tb_Item_AMOUNTS q6.toNatClampNeg)), (0, .ref h0), (1, .ref h2), (2, .int a2)]) hx hb dX3_readFrom_47 hl (by decide) rfl (fun ls hl => ?_)
        have L49 : ∀ (n : Nat) (x4_49 : Int32) (x5_49 : Int32) (c1_49 : Nat → Int32) (ls : Array Slot) (H : Heap) (locs : List Loc), fX3_readFrom_p49 N ((tb_Item_AMOUNTS q6.toNatClampNeg)) q6 v2_length c3 n x4_49 x5_49 c1_49 = some ru → va_P (dC, dI) vwCl [(h0, .inr (3, [.ref h1, .int q6])), (h1, .inl (k1, 3, .inl c1_49)), (h2, .inr (6, [.ref h3, g2_item, .int v2_length])), (h3, .inl (k3, 200, .inl c3))] H → va_D A [(h0, .inr (3, [.ref h1, .int q6])), (h1, .inl (k1, 3, .inl c1_49)), (h2, .inr (6, [.ref h3, g2_item, .int v2_length])), (h3, .inl (k3, 200, .inl c3))] → va_S A s.heap H locs → lv_has ls 7 [(0, .ref h0), (1, .ref h2), (3, .int (tb_Item_AMOUNTS q6.toNatClampNeg)), (4, .int x4_49), (5, .int x5_49)] → W p l e (headSpec wsX3_readFrom ({ frames := 2, cells := 0, slots := 0, locals := 48 } : Room)).room s m ([.ref h0, .ref h2, .int a2] : List Value).toArray below meth c H locs 0 0 (MQ below (va_Qi (fun r (_ : Unit) => r = ru.1) (fun (_ : Unit) t => va_P (dC, dI) vwCl [(h0, .inr (3, [.ref h1, .int ru.2.1])), (h1, .inl (k1, 3, .inl ru.2.2)), (h2, .inr (6, [.ref h3, g2_item, .int v2_length])), (h3, .inl (k3, 200, .inl c3))] t.heap ∧ va_K (dC, dI) vwCl [(k1, .int), (k3, .int)] t ∧ va_D A [(h0, .inr (3, [.ref h1, .int ru.2.1])), (h1, .inl (k1, 3, .inl ru.2.2)), (h2, .inr (6, [.ref h3, g2_item, .int v2_length])), (h3, .inl (k3, 200, .inl c3))]) A) ([.ref h0, .ref h2, .int a2] : List Value).toArray s 0 0 A) (F0 m 49 ls []) := by
          intro n
          induction n with
          | zero => intro x4_49 x5_49 c1_49 ls H locs hrun; rw [fX3_readFrom_p49] at hrun; exact on_e hrun
          | succ n ih =>
            intro x4_49 x5_49 c1_49 ls H locs hrun hP hD hS hl
            rw [fX3_readFrom_p49] at hrun
            refine lv_iload hx hb dX3_readFrom_49 (lv_at hl 4 rfl) ?_
            refine lv_iload_n hx hb dX3_readFrom_51 rfl (lv_at hl 2 rfl) ?_
            refine lv_icmp_ge (tgt := 119) hx hb dX3_readFrom_52 (by decide) (fun cc => ?_) (fun cc => ?_)
            · have hrun := oi_t hrun cc
              refine lv_iload hx hb dX3_readFrom_119 (lv_at hl 3 rfl) ?_
              cases hrun
              have hP9 : va_P (dC, dI) vwCl [(h0, .inr (3, [.ref h1, .int q6])), (h1, .inl (k1, 3, .inl c1_49)), (h2, .inr (6, [.ref h3, g2_item, .int v2_length])), (h3, .inl (k3, 200, .inl c3))] H := hP
              have hD9 : va_D A [(h0, .inr (3, [.ref h1, .int q6])), (h1, .inl (k1, 3, .inl c1_49)), (h2, .inr (6, [.ref h3, g2_item, .int v2_length])), (h3, .inl (k3, 200, .inl c3))] := hD
              exact W.iret hx hb hr (fun t ht hW => ⟨⟨_, (), rfl, rfl, by rw [ht]; exact hP9, va_K.moved hW.alike hK, hD9⟩, hS.F ht⟩) hS.2.2 dX3_readFrom_121
            · have hrun := oi_f hrun cc
              refine lv_aload_n hx hb dX3_readFrom_55 rfl (lv_at hl 0 rfl) ?_
              refine lv_aload_n hx hb dX3_readFrom_56 rfl (lv_at hl 1 rfl) ?_
              refine lv_iload hx hb dX3_readFrom_57 (lv_at hl 3 rfl) ?_
              refine lv_iload hx hb dX3_readFrom_59 (lv_at hl 4 rfl) ?_
              obtain ⟨q61, hc61, hrun⟩ := ob_e hrun
              refine wz_cqi (WC := [(h0, .inr (3, [.ref h1, .int q6])), (h1, .inl (k1, 3, .inl c1_49)), (h2, .inr (6, [.ref h3, g2_item, .int v2_length])), (h3, .inl (k3, 200, .inl c3))]) (WR := []) (W1 := [(h0, .inr (3, [.ref h1, .int q6])), (h1, .inl (k1, 3, .inl q61.2)), (h2, .inr (6, [.ref h3, g2_item, .int v2_length])), (h3, .inl (k3, 200, .inl c3))]) (va_runV (As := [.ref h2, .int x4_49, .int x5_49]) (rest := []) ⟨hx, hb, hml, hown, hts⟩ (tX3_readNumber l dC dI H.size h0 h1 h2 h3 k1 k3 (.int q6) (g2_item) N x4_49 x5_49 c1_49 v2_length c3 q61 hc61) (cwV 3 hts gX3_readFrom_X3_readNumber rfl rfl rfl (by decide +kernel) ⟨Nat.le_of_ble_eq_true rfl, Nat.le_of_ble_eq_true rfl⟩) (wz_pVw (hP.sub (ws' := [(h0, .inr (3, [.ref h1, .int q6])), (h1, .inl (k1, 3, .inl c1_49)), (h2, .inr (6, [.ref h3, g2_item, .int v2_length])), (h3, .inl (k3, 200, .inl c3))]) [0, 1, 2, 3] rfl) (hK.sub (tys' := [(k1, .int), (k3, .int)]) [0, 1] rfl) (hD.sub (ws' := [(h0, .inr (3, [.ref h1, .int q6])), (h1, .inl (k1, 3, .inl c1_49)), (h2, .inr (6, [.ref h3, g2_item, .int v2_length])), (h3, .inl (k3, 200, .inl c3))]) [0, 1, 2, 3] (by decide) rfl) (va_recv hK hP (ci := 3) (q0 := 0) rfl rfl)) rfl rfl hl.1 rfl (lv_room (Nat.le_of_ble_eq_true rfl)) dX3_readFrom_61 ⟨Nat.zero_le _, Nat.zero_le _⟩) hP hD hS hA [0, 1, 2, 3] [] rfl rfl (by decide) (by decide) (fun H locs hP hD hS => ?_)
              have hP : va_P (dC, dI) vwCl [(h0, .inr (3, [.ref h1, .int q6])), (h1, .inl (k1, 3, .inl q61.2)), (h2, .inr (6, [.ref h3, g2_item, .int v2_length])), (h3, .inl (k3, 200, .inl c3))] H := hP
              have hD : va_D A [(h0, .inr (3, [.ref h1, .int q6])), (h1, .inl (k1, 3, .inl q61.2)), (h2, .inr (6, [.ref h3, g2_item, .int v2_length])), (h3, .inl (k3, 200, .inl c3))] := hD
              refine lv_istore (lv' := [(4, .int q61.1), (0, .ref h0), (1, .ref h2), (3, .int (tb_Item_AMOUNTS q6.toNatClampNeg)), (5, .int x5_49)]) hx hb dX3_readFrom_64 hl (by decide) rfl (fun ls hl => ?_)
              refine lv_iload hx hb dX3_readFrom_66 (lv_at hl 4 rfl) ?_
              refine lv_iload_n hx hb dX3_readFrom_68 rfl (lv_at hl 3 rfl) ?_
              refine lv_iconst (v := (1 : Int32)) hx hb dX3_readFrom_69 (by decide) ?_
              refine lv_isub hx hb dX3_readFrom_70 ?_
              obtain ⟨k81, ek81, hrun⟩ := jn_e hrun
              have J81 : ∀ (z0_81 : Int32) (ls : Array Slot) (H : Heap) (locs : List Loc), k81 z0_81 = some ru → va_P (dC, dI) vwCl [(h0, .inr (3, [.ref h1, .int q6])), (h1, .inl (k1, 3, .inl q61.2)), (h2, .inr (6, [.ref h3, g2_item, .int v2_length])), (h3, .inl (k3, 200, .inl c3))] H → va_D A [(h0, .inr (3, [.ref h1, .int q6])), (h1, .inl (k1, 3, .inl q61.2)), (h2, .inr (6, [.ref h3, g2_item, .int v2_length])), (h3, .inl (k3, 200, .inl c3))] → va_S A s.heap H locs → lv_has ls 7 [(0, .ref h0), (1, .ref h2), (3, .int (tb_Item_AMOUNTS q6.toNatClampNeg)), (4, .int q61.1), (5, .int x5_49)] → W p l e (headSpec wsX3_readFrom ({ frames := 2, cells := 0, slots := 0, locals := 48 } : Room)).room s m ([.ref h0, .ref h2, .int a2] : List Value).toArray below meth c H locs 0 0 (MQ below (va_Qi (fun r (_ : Unit) => r = ru.1) (fun (_ : Unit) t => va_P (dC, dI) vwCl [(h0, .inr (3, [.ref h1, .int ru.2.1])), (h1, .inl (k1, 3, .inl ru.2.2)), (h2, .inr (6, [.ref h3, g2_item, .int v2_length])), (h3, .inl (k3, 200, .inl c3))] t.heap ∧ va_K (dC, dI) vwCl [(k1, .int), (k3, .int)] t ∧ va_D A [(h0, .inr (3, [.ref h1, .int ru.2.1])), (h1, .inl (k1, 3, .inl ru.2.2)), (h2, .inr (6, [.ref h3, g2_item, .int v2_length])), (h3, .inl (k3, 200, .inl c3))]) A) ([.ref h0, .ref h2, .int a2] : List Value).toArray s 0 0 A) (F0 m 81 ls [.int z0_81]) := by
                intro z0_81 ls H locs hrun hP hD hS hl
                rw [ek81] at hrun
                refine lv_istore (lv' := [(6, .int z0_81), (0, .ref h0), (1, .ref h2), (3, .int (tb_Item_AMOUNTS q6.toNatClampNeg)), (4, .int q61.1), (5, .int x5_49)]) hx hb dX3_readFrom_81 hl (by decide) rfl (fun ls hl => ?_)
                refine lv_iload hx hb dX3_readFrom_83 (lv_at hl 4 rfl) ?_
                refine lv_if_lt (tgt := 108) hx hb dX3_readFrom_85 (by decide) (fun cc => ?_) (fun cc => ?_)
                · have hrun := oi_t hrun cc
                  refine lv_iconst (v := (-1 : Int32)) hx hb dX3_readFrom_108 (by decide) ?_
                  cases hrun
                  have hP9 : va_P (dC, dI) vwCl [(h0, .inr (3, [.ref h1, .int q6])), (h1, .inl (k1, 3, .inl q61.2)), (h2, .inr (6, [.ref h3, g2_item, .int v2_length])), (h3, .inl (k3, 200, .inl c3))] H := hP
                  have hD9 : va_D A [(h0, .inr (3, [.ref h1, .int q6])), (h1, .inl (k1, 3, .inl q61.2)), (h2, .inr (6, [.ref h3, g2_item, .int v2_length])), (h3, .inl (k3, 200, .inl c3))] := hD
                  exact W.iret hx hb hr (fun t ht hW => ⟨⟨_, (), rfl, rfl, by rw [ht]; exact hP9, va_K.moved hW.alike hK, hD9⟩, hS.F ht⟩) hS.2.2 dX3_readFrom_109
                · have hrun := oi_f hrun cc
                  refine lv_aload_n hx hb dX3_readFrom_88 rfl (lv_at hl 2 rfl) ?_
                  refine lv_iload hx hb dX3_readFrom_89 (lv_at hl 4 rfl) ?_
                  obtain ⟨q91, hc91, hrun⟩ := ob_e hrun
                  refine wz_csi (va_runV (As := [.int q61.1]) (rest := []) ⟨hx, hb, hml, hown, hts⟩ (tX6_byteAt l dC dI h2 h3 k3 (g2_item) N q61.1 v2_length c3 q91 hc91) (cwV 1 hts gX3_readFrom_X6_byteAt rfl rfl rfl (by decide +kernel) ⟨Nat.le_of_ble_eq_true rfl, Nat.le_of_ble_eq_true rfl⟩) (wz_pVr (hP.sub (ws' := [(h2, .inr (6, [.ref h3, g2_item, .int v2_length])), (h3, .inl (k3, 200, .inl c3))]) [2, 3] rfl) (hK.sub (tys' := [(k3, .int)]) [1] rfl) (va_recv hK hP (ci := 6) (q0 := 2) rfl rfl)) rfl rfl hl.1 rfl (lv_room (Nat.le_of_ble_eq_true rfl)) dX3_readFrom_91 ⟨Nat.zero_le _, Nat.zero_le _⟩) ?_
                  refine lv_iload hx hb dX3_readFrom_94 (lv_at hl 0 rfl) ?_
                  refine lv_icmp_ne (tgt := 108) hx hb dX3_readFrom_96 (by decide) (fun cc => ?_) (fun cc => ?_)
                  · have hrun := oi_t hrun cc
                    refine lv_iconst (v := (-1 : Int32)) hx hb dX3_readFrom_108 (by decide) ?_
                    cases hrun
                    have hP9 : va_P (dC, dI) vwCl [(h0, .inr (3, [.ref h1, .int q6])), (h1, .inl (k1, 3, .inl q61.2)), (h2, .inr (6, [.ref h3, g2_item, .int v2_length])), (h3, .inl (k3, 200, .inl c3))] H := hP
                    have hD9 : va_D A [(h0, .inr (3, [.ref h1, .int q6])), (h1, .inl (k1, 3, .inl q61.2)), (h2, .inr (6, [.ref h3, g2_item, .int v2_length])), (h3, .inl (k3, 200, .inl c3))] := hD
                    exact W.iret hx hb hr (fun t ht hW => ⟨⟨_, (), rfl, rfl, by rw [ht]; exact hP9, va_K.moved hW.alike hK, hD9⟩, hS.F ht⟩) hS.2.2 dX3_readFrom_109
                  · have hrun := oi_n hrun cc
                    refine lv_aload_n hx hb dX3_readFrom_99 rfl (lv_at hl 1 rfl) ?_
                    refine lv_iload hx hb dX3_readFrom_100 (lv_at hl 5 rfl) ?_
                    obtain ⟨q102, hc102, hrun⟩ := ob_e hrun
                    refine wz_csz (va_runV (As := [.int x5_49]) (rest := []) ⟨hx, hb, hml, hown, hts⟩ (tX3_isBounded l dC dI t h0 h1 k1 N x5_49 q6 q61.2 q102 hc102) (cwV 1 hts gX3_readFrom_X3_isBounded rfl rfl rfl (by decide +kernel) ⟨Nat.le_of_ble_eq_true rfl, Nat.le_of_ble_eq_true rfl⟩) (wz_pVrG (hP.sub (ws' := [(h0, .inr (3, [.ref h1, .int q6])), (h1, .inl (k1, 3, .inl q61.2))]) [0, 1] rfl) (hK.sub (tys' := [(k1, .int)]) [0] rfl) hG hS (va_recv hK hP (ci := 3) (q0 := 0) rfl rfl)) rfl rfl hl.1 rfl (lv_room (Nat.le_of_ble_eq_true rfl)) dX3_readFrom_102 ⟨Nat.zero_le _, Nat.zero_le _⟩) (fun hz102 => ?_)
                    refine lv_if_ne (tgt := 110) hx hb dX3_readFrom_105 (by decide) (fun cc => ?_) (fun cc => ?_)
                    · have hrun := oi_t hrun cc
                      refine lv_iinc (v := (q61.1 + (1 : Int32))) (lv' := [(4, .int (q61.1 + (1 : Int32))), (6, .int z0_81), (0, .ref h0), (1, .ref h2), (3, .int (tb_Item_AMOUNTS q6.toNatClampNeg)), (5, .int x5_49)]) hx hb dX3_readFrom_110 hl (k := 4) rfl rfl (by decide) rfl (fun ls hl => ?_)
                      refine lv_iinc (v := (x5_49 + (1 : Int32))) (lv' := [(5, .int (x5_49 + (1 : Int32))), (4, .int (q61.1 + (1 : Int32))), (6, .int z0_81), (0, .ref h0), (1, .ref h2), (3, .int (tb_Item_AMOUNTS q6.toNatClampNeg))]) hx hb dX3_readFrom_113 hl (k := 5) rfl rfl (by decide) rfl (fun ls hl => ?_)
                      refine lv_goto (tgt := 49) hx hb dX3_readFrom_116 (by decide) ?_
                      exact ih ((q61.1 + (1 : Int32))) ((x5_49 + (1 : Int32))) q61.2 ls H locs hrun hP hD hS (lv_sub hl [3, 4, 5, 1, 0] rfl)
                    · have hrun := oi_n hrun cc
                      refine lv_iconst (v := (-1 : Int32)) hx hb dX3_readFrom_108 (by decide) ?_
                      cases hrun
                      have hP9 : va_P (dC, dI) vwCl [(h0, .inr (3, [.ref h1, .int q6])), (h1, .inl (k1, 3, .inl q61.2)), (h2, .inr (6, [.ref h3, g2_item, .int v2_length])), (h3, .inl (k3, 200, .inl c3))] H := hP
                      have hD9 : va_D A [(h0, .inr (3, [.ref h1, .int q6])), (h1, .inl (k1, 3, .inl q61.2)), (h2, .inr (6, [.ref h3, g2_item, .int v2_length])), (h3, .inl (k3, 200, .inl c3))] := hD
                      exact W.iret hx hb hr (fun t ht hW => ⟨⟨_, (), rfl, rfl, by rw [ht]; exact hP9, va_K.moved hW.alike hK, hD9⟩, hS.F ht⟩) hS.2.2 dX3_readFrom_109
              refine lv_icmp_ne (tgt := 79) hx hb dX3_readFrom_71 (by decide) (fun cc => ?_) (fun cc => ?_)
              · have hrun := oi_t hrun cc
                refine lv_bipush (v := (44 : Int32)) hx hb dX3_readFrom_79 (by decide) ?_
                exact J81 ((44 : Int32)) ls H locs hrun hP hD hS (lv_sub hl [1, 2, 3, 0, 4] rfl)
              · have hrun := oi_n hrun cc
                refine lv_bipush (v := (59 : Int32)) hx hb dX3_readFrom_74 (by decide) ?_
                refine lv_goto (tgt := 81) hx hb dX3_readFrom_76 (by decide) ?_
                exact J81 ((59 : Int32)) ls H locs hrun hP hD hS (lv_sub hl [1, 2, 3, 0, 4] rfl)
        exact L49 N ((a2 + (1 : Int32))) ((0 : Int32)) c1 ls H locs hrun hP hD hS (lv_sub hl [3, 4, 2, 1, 0] rfl)
      · have hrun := oi_f hrun cc
        refine lv_iconst (v := (-1 : Int32)) hx hb dX3_readFrom_30 (by decide) ?_
        cases hrun
        have hP9 : va_P (dC, dI) vwCl [(h0, .inr (3, [.ref h1, .int q6])), (h1, .inl (k1, 3, .inl c1)), (h2, .inr (6, [.ref h3, g2_item, .int v2_length])), (h3, .inl (k3, 200, .inl c3))] H := hP
        have hD9 : va_D A [(h0, .inr (3, [.ref h1, .int q6])), (h1, .inl (k1, 3, .inl c1)), (h2, .inr (6, [.ref h3, g2_item, .int v2_length])), (h3, .inl (k3, 200, .inl c3))] := hD
        exact W.iret hx hb hr (fun t ht hW => ⟨⟨_, (), rfl, rfl, by rw [ht]; exact hP9, va_K.moved hW.alike hK, hD9⟩, hS.F ht⟩) hS.2.2 dX3_readFrom_31
  rw [hHe, hLe] at key
  exact key
set_option maxHeartbeats 4000000 in
set_option maxRecDepth 100000 in
theorem tX5_hasWicket (l : Launch) (dC : Nat → ClassId) (dI : Nat → Nat → Nat) (h0 : Nat) (g0_numbers g0_lineFrom g0_lineY g0_item g0_lineCount g0_wicketX g0_wicketSide g0_wicketHigh g0_items : Value) (N : Nat)  (v0_wicketStands : Int32) (ru : Int32) (hm : fX5_hasWicket N v0_wicketStands = some ru) : Met l yX5_hasWicket wsX5_hasWicket ({ frames := 0, cells := 0, slots := 0, locals := 0 } : Room) (va_Pc [.ref h0] (fun U => va_P (dC, dI) vwCl [(h0, .inr (5, [g0_numbers, g0_lineFrom, g0_lineY, g0_item, g0_lineCount, .int v0_wicketStands, g0_wicketX, g0_wicketSide, g0_wicketHigh, g0_items]))] U.heap ∧ va_K (dC, dI) vwCl [] U)) (vp_Si (fun r => r = ru ∧ narrow .boolean (.int r) = .int r)) 0 0 (fun _ => False) := by
  refine Met.ofW (cc := cX5_hasWicket) (maxL := 1) (ret := (some .boolean)) (by decide) rfl ?_
  intro p e s m args below meth c s₁ B hml hv
  obtain ⟨rfl, hP, hK⟩ := hv
  have hx := B.exec
  have hb := B.bytes
  have hr := B.returns
  have hts := atoms_spec (ws := wsX5_hasWicket) B.pre
  have hown : s.vm.findClass RX5 = some m.cls := findClass_of_methodNamed B.named
  have hlocks := B.notSynchronized
  have hinX5 : ∀ w ∈ wsX50, w ∈ wsX5_hasWicket := by decide +kernel
  have hl := lv_entry ([.ref h0]) (n := 1) (Nat.le_of_ble_eq_true rfl)
  rw [lg_entry_eq]
  generalize (lg_sl ([.ref h0]) ++ List.replicate (1 - (lg_sl ([.ref h0])).length) Slot.unset).toArray = ls at hl ⊢
  have hl : lv_has ls 1 [(0, .ref h0)] := hl
  have hrun := hm
  rw [fX5_hasWicket] at hrun
  refine lv_aload_n hx hb dX5_hasWicket_0 rfl (lv_at hl 0 rfl) ?_
  refine va_get (D := (dC, dI)) (ci := 5) (v := .int v0_wicketStands) (C := RX5) (T := TX5) (N := 10) hx hb hts hinX5 hown hK hP 0 rfl rfl 5 (by decide) (hts (.fieldLink RX5 33 "WasItOut$Law" "wicketStands" "Z") (by decide +kernel)) (fun _ h9 => h9) rfl dX5_hasWicket_1 ?_
  obtain ⟨hbz, hrun⟩ := oi_g hrun
  exact W.zret hx hb hr (nz_b hbz) (fun t ht _ => ⟨_, rfl, ⟨Option.some.inj hrun, (nz_b hbz)⟩, ht⟩) (fun _ h => by cases h) dX5_hasWicket_4
set_option maxHeartbeats 4000000 in
set_option maxRecDepth 100000 in
theorem tX5_reset (l : Launch) (dC : Nat → ClassId) (dI : Nat → Nat → Nat) (t : Nat → Nat) (sz : Nat) (h0 h1 : Nat) (k1 : ClassId) (g0_lineFrom g0_lineY g0_item g0_wicketX g0_wicketSide g0_wicketHigh : Value) (N : Nat)  (v0_lineCount : Int32) (v0_wicketStands : Int32) (v0_items : Int32) (c1 : Nat → Int32) (ru : (Int32) × (Int32) × (Int32) × (Nat → Int32)) (hm : fX5_reset N v0_lineCount v0_wicketStands v0_items c1 = some ru) : Met l yX5_reset wsX5_reset ({ frames := 0, cells := 0, slots := 0, locals := 0 } : Room) (va_Pc [.ref h0] (fun U => U.heap.size = sz ∧ va_P (dC, dI) vwCl [(h0, .inr (5, [.ref h1, g0_lineFrom, g0_lineY, g0_item, .int v0_lineCount, .int v0_wicketStands, g0_wicketX, g0_wicketSide, g0_wicketHigh, .int v0_items])), (h1, .inl (k1, 6, .inl c1))] U.heap ∧ va_K (dC, dI) vwCl [(k1, .int)] U ∧ va_D (fun _ => True) [(h0, .inr (5, [.ref h1, g0_lineFrom, g0_lineY, g0_item, .int v0_lineCount, .int v0_wicketStands, g0_wicketX, g0_wicketSide, g0_wicketHigh, .int v0_items])), (h1, .inl (k1, 6, .inl c1))] ∧ gG t (va_A [(h0, .inr (5, [.ref h1, g0_lineFrom, g0_lineY, g0_item, .int v0_lineCount, .int v0_wicketStands, g0_wicketX, g0_wicketSide, g0_wicketHigh, .int v0_items])), (h1, .inl (k1, 6, .inl c1))] sz) U U.heap)) (va_Qv (fun (_ : Unit) => True) (fun (_ : Unit) t => va_P (dC, dI) vwCl [(h0, .inr (5, [.ref h1, g0_lineFrom, g0_lineY, g0_item, .int ru.1, .int ru.2.1, g0_wicketX, g0_wicketSide, g0_wicketHigh, .int ru.2.2.1])), (h1, .inl (k1, 6, .inl ru.2.2.2))] t.heap ∧ va_K (dC, dI) vwCl [(k1, .int)] t ∧ va_D (va_A [(h0, .inr (5, [.ref h1, g0_lineFrom, g0_lineY, g0_item, .int v0_lineCount, .int v0_wicketStands, g0_wicketX, g0_wicketSide, g0_wicketHigh, .int v0_items])), (h1, .inl (k1, 6, .inl c1))] sz) [(h0, .inr (5, [.ref h1, g0_lineFrom, g0_lineY, g0_item, .int ru.1, .int ru.2.1, g0_wicketX, g0_wicketSide, g0_wicketHigh, .int ru.2.2.1])), (h1, .inl (k1, 6, .inl ru.2.2.2))]) (va_A [(h0, .inr (5, [.ref h1, g0_lineFrom, g0_lineY, g0_item, .int v0_lineCount, .int v0_wicketStands, g0_wicketX, g0_wicketSide, g0_wicketHigh, .int v0_items])), (h1, .inl (k1, 6, .inl c1))] sz)) 0 0 (va_A [(h0, .inr (5, [.ref h1, g0_lineFrom, g0_lineY, g0_item, .int v0_lineCount, .int v0_wicketStands, g0_wicketX, g0_wicketSide, g0_wicketHigh, .int v0_items])), (h1, .inl (k1, 6, .inl c1))] sz) := by
  refine Met.ofW (cc := cX5_reset) (maxL := 2) (ret := none) (by decide) rfl ?_
  intro p e s m args below meth c s₁ B hml hv
  obtain ⟨rfl, hsz, hP, hK, hD0, hG⟩ := hv
  have hx := B.exec
  have hb := B.bytes
  have hr := B.returns
  have hts := atoms_spec (ws := wsX5_reset) B.pre
  have hown : s.vm.findClass RX5 = some m.cls := findClass_of_methodNamed B.named
  have hlocks := B.notSynchronized
  subst hsz
  have hD := hD0.self (sz := s.heap.size)
  generalize hAe : va_A [(h0, .inr (5, [.ref h1, g0_lineFrom, g0_lineY, g0_item, .int v0_lineCount, .int v0_wicketStands, g0_wicketX, g0_wicketSide, g0_wicketHigh, .int v0_items])), (h1, .inl (k1, 6, .inl c1))] s.heap.size = A at hD hG ⊢
  have hA : ∀ q : Nat, s.heap.size ≤ q → A q := fun q h => by rw [← hAe]; exact Or.inr h
  have hS : va_S A s.heap s.heap [] := va_S.rf
  have hinX5 : ∀ w ∈ wsX50, w ∈ wsX5_reset := by decide +kernel
  have hl := lv_entry ([.ref h0]) (n := 2) (Nat.le_of_ble_eq_true rfl)
  rw [lg_entry_eq]
  generalize (lg_sl ([.ref h0]) ++ List.replicate (2 - (lg_sl ([.ref h0])).length) Slot.unset).toArray = ls at hl ⊢
  have hl : lv_has ls 2 [(0, .ref h0)] := hl
  have hrun := hm
  rw [fX5_reset] at hrun
  obtain ⟨H, hHe⟩ : ∃ H, H = s.heap := ⟨_, rfl⟩
  obtain ⟨locs, hLe⟩ : ∃ locs : List Loc, locs = [] := ⟨_, rfl⟩
  rw [← hHe] at hP
  have hS : va_S A s.heap H locs := by rw [hHe, hLe]; exact hS
  have key : W p l e (headSpec wsX5_reset ({ frames := 0, cells := 0, slots := 0, locals := 0 } : Room)).room s m ([.ref h0] : List Value).toArray below meth c H locs 0 0 (MQ below (va_Qv (fun (_ : Unit) => True) (fun (_ : Unit) t => va_P (dC, dI) vwCl [(h0, .inr (5, [.ref h1, g0_lineFrom, g0_lineY, g0_item, .int ru.1, .int ru.2.1, g0_wicketX, g0_wicketSide, g0_wicketHigh, .int ru.2.2.1])), (h1, .inl (k1, 6, .inl ru.2.2.2))] t.heap ∧ va_K (dC, dI) vwCl [(k1, .int)] t ∧ va_D A [(h0, .inr (5, [.ref h1, g0_lineFrom, g0_lineY, g0_item, .int ru.1, .int ru.2.1, g0_wicketX, g0_wicketSide, g0_wicketHigh, .int ru.2.2.1])), (h1, .inl (k1, 6, .inl ru.2.2.2))]) A) ([.ref h0] : List Value).toArray s 0 0 A) (F0 m 0 ls []) := by
    clear hHe hLe
    refine lv_iconst (v := (0 : Int32)) hx hb dX5_reset_0 (by decide) ?_
    refine lv_istore_n (lv' := [(1, .int (0 : Int32)), (0, .ref h0)]) hx hb dX5_reset_1 rfl hl (by decide) rfl (fun ls hl => ?_)
    obtain ⟨k36, ek36, hrun⟩ := jn_e hrun
    have J36 : ∀ (c1_36 : Nat → Int32) (ls : Array Slot) (H : Heap) (locs : List Loc), k36 c1_36 = some ru → va_P (dC, dI) vwCl [(h0, .inr (5, [.ref h1, g0_lineFrom, g0_lineY, g0_item, .int v0_lineCount, .int v0_wicketStands, g0_wicketX, g0_wicketSide, g0_wicketHigh, .int v0_items])), (h1, .inl (k1, 6, .inl c1_36))] H → va_D A [(h0, .inr (5, [.ref h1, g0_lineFrom, g0_lineY, g0_item, .int v0_lineCount, .int v0_wicketStands, g0_wicketX, g0_wicketSide, g0_wicketHigh, .int v0_items])), (h1, .inl (k1, 6, .inl c1_36))] → va_S A s.heap H locs → lv_has ls 2 [(0, .ref h0)] → W p l e (headSpec wsX5_reset ({ frames := 0, cells := 0, slots := 0, locals := 0 } : Room)).room s m ([.ref h0] : List Value).toArray below meth c H locs 0 0 (MQ below (va_Qv (fun (_ : Unit) => True) (fun (_ : Unit) t => va_P (dC, dI) vwCl [(h0, .inr (5, [.ref h1, g0_lineFrom, g0_lineY, g0_item, .int ru.1, .int ru.2.1, g0_wicketX, g0_wicketSide, g0_wicketHigh, .int ru.2.2.1])), (h1, .inl (k1, 6, .inl ru.2.2.2))] t.heap ∧ va_K (dC, dI) vwCl [(k1, .int)] t ∧ va_D A [(h0, .inr (5, [.ref h1, g0_lineFrom, g0_lineY, g0_item, .int ru.1, .int ru.2.1, g0_wicketX, g0_wicketSide, g0_wicketHigh, .int ru.2.2.1])), (h1, .inl (k1, 6, .inl ru.2.2.2))]) A) ([.ref h0] : List Value).toArray s 0 0 A) (F0 m 36 ls []) := by
      intro c1_36 ls H locs hrun hP hD hS hl
      rw [ek36] at hrun
      refine lv_aload_n hx hb dX5_reset_36 rfl (lv_at hl 0 rfl) ?_
      refine lv_iconst (v := (0 : Int32)) hx hb dX5_reset_37 (by decide) ?_
      refine va_put (D := (dC, dI)) (ci := 5) (v := .int (0 : Int32)) (ty := .int) (C := RX5) (T := TX5) (N := 10) hx hb hts hinX5 tyX5 tyX5_ok nmX5 hown hK hP hD hS 0 rfl rfl 4 (by decide) (hts (.fieldLink RX5 46 "WasItOut$Law" "lineCount" "I") (by decide +kernel)) (fun _ h9 => h9) rfl (by decide +kernel) rfl rfl (Nat.le_of_ble_eq_true rfl) dX5_reset_38 (fun H locs hP hD hS => ?_)
      have hP : va_P (dC, dI) vwCl [(h0, .inr (5, [.ref h1, g0_lineFrom, g0_lineY, g0_item, .int (0 : Int32), .int v0_wicketStands, g0_wicketX, g0_wicketSide, g0_wicketHigh, .int v0_items])), (h1, .inl (k1, 6, .inl c1_36))] H := hP
      have hD : va_D A [(h0, .inr (5, [.ref h1, g0_lineFrom, g0_lineY, g0_item, .int (0 : Int32), .int v0_wicketStands, g0_wicketX, g0_wicketSide, g0_wicketHigh, .int v0_items])), (h1, .inl (k1, 6, .inl c1_36))] := hD
      refine lv_aload_n hx hb dX5_reset_41 rfl (lv_at hl 0 rfl) ?_
      refine lv_iconst (v := (0 : Int32)) hx hb dX5_reset_42 (by decide) ?_
      refine va_put (D := (dC, dI)) (ci := 5) (v := .int (0 : Int32)) (ty := .boolean) (C := RX5) (T := TX5) (N := 10) hx hb hts hinX5 tyX5 tyX5_ok nmX5 hown hK hP hD hS 0 rfl rfl 5 (by decide) (hts (.fieldLink RX5 33 "WasItOut$Law" "wicketStands" "Z") (by decide +kernel)) (fun _ h9 => h9) rfl (by decide +kernel) rfl rfl (Nat.le_of_ble_eq_true rfl) dX5_reset_43 (fun H locs hP hD hS => ?_)
      have hP : va_P (dC, dI) vwCl [(h0, .inr (5, [.ref h1, g0_lineFrom, g0_lineY, g0_item, .int (0 : Int32), .int (0 : Int32), g0_wicketX, g0_wicketSide, g0_wicketHigh, .int v0_items])), (h1, .inl (k1, 6, .inl c1_36))] H := hP
      have hD : va_D A [(h0, .inr (5, [.ref h1, g0_lineFrom, g0_lineY, g0_item, .int (0 : Int32), .int (0 : Int32), g0_wicketX, g0_wicketSide, g0_wicketHigh, .int v0_items])), (h1, .inl (k1, 6, .inl c1_36))] := hD
      refine lv_aload_n hx hb dX5_reset_46 rfl (lv_at hl 0 rfl) ?_
      refine lv_iconst (v := (0 : Int32)) hx hb dX5_reset_47 (by decide) ?_
      refine va_put (D := (dC, dI)) (ci := 5) (v := .int (0 : Int32)) (ty := .int) (C := RX5) (T := TX5) (N := 10) hx hb hts hinX5 tyX5 tyX5_ok nmX5 hown hK hP hD hS 0 rfl rfl 9 (by decide) (hts (.fieldLink RX5 29 "WasItOut$Law" "items" "I") (by decide +kernel)) (fun _ h9 => h9) rfl (by decide +kernel) rfl rfl (Nat.le_of_ble_eq_true rfl) dX5_reset_48 (fun H locs hP hD hS => ?_)
      have hP : va_P (dC, dI) vwCl [(h0, .inr (5, [.ref h1, g0_lineFrom, g0_lineY, g0_item, .int (0 : Int32), .int (0 : Int32), g0_wicketX, g0_wicketSide, g0_wicketHigh, .int (0 : Int32)])), (h1, .inl (k1, 6, .inl c1_36))] H := hP
      have hD : va_D A [(h0, .inr (5, [.ref h1, g0_lineFrom, g0_lineY, g0_item, .int (0 : Int32), .int (0 : Int32), g0_wicketX, g0_wicketSide, g0_wicketHigh, .int (0 : Int32)])), (h1, .inl (k1, 6, .inl c1_36))] := hD
      cases hrun
      have hP9 : va_P (dC, dI) vwCl [(h0, .inr (5, [.ref h1, g0_lineFrom, g0_lineY, g0_item, .int (0 : Int32), .int (0 : Int32), g0_wicketX, g0_wicketSide, g0_wicketHigh, .int (0 : Int32)])), (h1, .inl (k1, 6, .inl c1_36))] H := hP
      have hD9 : va_D A [(h0, .inr (5, [.ref h1, g0_lineFrom, g0_lineY, g0_item, .int (0 : Int32), .int (0 : Int32), g0_wicketX, g0_wicketSide, g0_wicketHigh, .int (0 : Int32)])), (h1, .inl (k1, 6, .inl c1_36))] := hD
      exact W.vret hx hb hr (fun t ht hW => ⟨⟨(), rfl, trivial, by rw [ht]; exact hP9, va_K.moved hW.alike hK, hD9⟩, hS.F ht⟩) hS.2.2 dX5_reset_51
    have L2 : ∀ (n : Nat) (x1_2 : Int32) (c1_2 : Nat → Int32) (ls : Array Slot) (H : Heap) (locs : List Loc), fX5_reset_p2 N  k36 n x1_2 c1_2 = some ru → va_P (dC, dI) vwCl [(h0, .inr (5, [.ref h1, g0_lineFrom, g0_lineY, g0_item, .int v0_lineCount, .int v0_wicketStands, g0_wicketX, g0_wicketSide, g0_wicketHigh, .int v0_items])), (h1, .inl (k1, 6, .inl c1_2))] H → va_D A [(h0, .inr (5, [.ref h1, g0_lineFrom, g0_lineY, g0_item, .int v0_lineCount, .int v0_wicketStands, g0_wicketX, g0_wicketSide, g0_wicketHigh, .int v0_items])), (h1, .inl (k1, 6, .inl c1_2))] → va_S A s.heap H locs → lv_has ls 2 [(0, .ref h0), (1, .int x1_2)] → W p l e (headSpec wsX5_reset ({ frames := 0, cells := 0, slots := 0, locals := 0 } : Room)).room s m ([.ref h0] : List Value).toArray below meth c H locs 0 0 (MQ below (va_Qv (fun (_ : Unit) => True) (fun (_ : Unit) t => va_P (dC, dI) vwCl [(h0, .inr (5, [.ref h1, g0_lineFrom, g0_lineY, g0_item, .int ru.1, .int ru.2.1, g0_wicketX, g0_wicketSide, g0_wicketHigh, .int ru.2.2.1])), (h1, .inl (k1, 6, .inl ru.2.2.2))] t.heap ∧ va_K (dC, dI) vwCl [(k1, .int)] t ∧ va_D A [(h0, .inr (5, [.ref h1, g0_lineFrom, g0_lineY, g0_item, .int ru.1, .int ru.2.1, g0_wicketX, g0_wicketSide, g0_wicketHigh, .int ru.2.2.1])), (h1, .inl (k1, 6, .inl ru.2.2.2))]) A) ([.ref h0] : List Value).toArray s 0 0 A) (F0 m 2 ls []) := by
      intro n
      induction n with
      | zero => intro x1_2 c1_2 ls H locs hrun; rw [fX5_reset_p2] at hrun; exact on_e hrun
      | succ n ih =>
        intro x1_2 c1_2 ls H locs hrun hP hD hS hl
        rw [fX5_reset_p2] at hrun
        refine lv_iload_n hx hb dX5_reset_2 rfl (lv_at hl 1 rfl) ?_
        refine lv_aload_n hx hb dX5_reset_3 rfl (lv_at hl 0 rfl) ?_
        refine va_get (D := (dC, dI)) (ci := 5) (v := .ref h1) (C := RX5) (T := TX5) (N := 10) hx hb hts hinX5 hown hK hP 0 rfl rfl 0 (by decide) (hts (.fieldLink RX5 9 "WasItOut$Law" "numbers" "[I") (by decide +kernel)) (fun _ h9 => h9) rfl dX5_reset_4 ?_
        refine va_alen (v := (6 : Int32)) hx hb hK hP 1 0 rfl rfl (by first | rfl | decide) dX5_reset_7 ?_
        refine lv_icmp_ge (tgt := 36) hx hb dX5_reset_8 (by decide) (fun cc => ?_) (fun cc => ?_)
        · have hrun := oi_t hrun cc
          exact J36 c1_2 ls H locs hrun hP hD hS (lv_sub hl [0] rfl)
        · have hrun := oi_f hrun cc
          refine lv_iload_n hx hb dX5_reset_11 rfl (lv_at hl 1 rfl) ?_
          refine va_gets hx hb hG.z5.1 hS hown (hts (.fieldLink RX5 62 "WasItOut$Law" "WITHOUT" "[I") (by decide +kernel)) (fun _ h9 => h9) dX5_reset_12 ?_
          refine va_tlen (v := (6 : Int32)) hx hb hG.z5.2 hS (by decide) dX5_reset_15 ?_
          refine lv_icmp_ge (tgt := 36) hx hb dX5_reset_16 (by decide) (fun cc => ?_) (fun cc => ?_)
          · have hrun := oi_t hrun cc
            exact J36 c1_2 ls H locs hrun hP hD hS (lv_sub hl [0] rfl)
          · have hrun := oi_f hrun cc
            refine lv_aload_n hx hb dX5_reset_19 rfl (lv_at hl 0 rfl) ?_
            refine va_get (D := (dC, dI)) (ci := 5) (v := .ref h1) (C := RX5) (T := TX5) (N := 10) hx hb hts hinX5 hown hK hP 0 rfl rfl 0 (by decide) (hts (.fieldLink RX5 9 "WasItOut$Law" "numbers" "[I") (by decide +kernel)) (fun _ h9 => h9) rfl dX5_reset_20 ?_
            refine lv_iload_n hx hb dX5_reset_23 rfl (lv_at hl 1 rfl) ?_
            refine va_gets hx hb hG.z5.1 hS hown (hts (.fieldLink RX5 62 "WasItOut$Law" "WITHOUT" "[I") (by decide +kernel)) (fun _ h9 => h9) dX5_reset_24 ?_
            refine lv_iload_n hx hb dX5_reset_27 rfl (lv_at hl 1 rfl) ?_
            obtain ⟨hi, hrun⟩ := oi_x hrun
            refine va_ti (v := .int (tb_Law_WITHOUT x1_2.toNatClampNeg)) hx hb hG.z5.2 hS hi rfl dX5_reset_28 ?_
            obtain ⟨hi, hrun⟩ := oi_x hrun
            refine va_iast hx hb hK hP hD hS 1 0 rfl rfl hi dX5_reset_29 (fun H locs hP hD hS => ?_)
            have hP : va_P (dC, dI) vwCl [(h0, .inr (5, [.ref h1, g0_lineFrom, g0_lineY, g0_item, .int v0_lineCount, .int v0_wicketStands, g0_wicketX, g0_wicketSide, g0_wicketHigh, .int v0_items])), (h1, .inl (k1, 6, .inl (upd c1_2 x1_2.toNatClampNeg (tb_Law_WITHOUT x1_2.toNatClampNeg))))] H := hP
            have hD : va_D A [(h0, .inr (5, [.ref h1, g0_lineFrom, g0_lineY, g0_item, .int v0_lineCount, .int v0_wicketStands, g0_wicketX, g0_wicketSide, g0_wicketHigh, .int v0_items])), (h1, .inl (k1, 6, .inl (upd c1_2 x1_2.toNatClampNeg (tb_Law_WITHOUT x1_2.toNatClampNeg))))] := hD
            refine lv_iinc (v := (x1_2 + (1 : Int32))) (lv' := [(1, .int (x1_2 + (1 : Int32))), (0, .ref h0)]) hx hb dX5_reset_30 hl (k := 1) rfl rfl (by decide) rfl (fun ls hl => ?_)
            refine lv_goto (tgt := 2) hx hb dX5_reset_33 (by decide) ?_
            exact ih ((x1_2 + (1 : Int32))) ((upd c1_2 x1_2.toNatClampNeg (tb_Law_WITHOUT x1_2.toNatClampNeg))) ls H locs hrun hP hD hS (lv_sub hl [1, 0] rfl)
    exact L2 N ((0 : Int32)) c1 ls H locs hrun hP hD hS (lv_sub hl [1, 0] rfl)
  rw [hHe, hLe] at key
  exact key
set_option maxHeartbeats 4000000 in
set_option maxRecDepth 100000 in
theorem tX5_itemCount (l : Launch) (dC : Nat → ClassId) (dI : Nat → Nat → Nat) (h0 : Nat) (g0_numbers g0_lineFrom g0_lineY g0_item g0_lineCount g0_wicketStands g0_wicketX g0_wicketSide g0_wicketHigh : Value) (N : Nat)  (v0_items : Int32) (ru : Int32) (hm : fX5_itemCount N v0_items = some ru) : Met l yX5_itemCount wsX5_itemCount ({ frames := 0, cells := 0, slots := 0, locals := 0 } : Room) (va_Pc [.ref h0] (fun U => va_P (dC, dI) vwCl [(h0, .inr (5, [g0_numbers, g0_lineFrom, g0_lineY, g0_item, g0_lineCount, g0_wicketStands, g0_wicketX, g0_wicketSide, g0_wicketHigh, .int v0_items]))] U.heap ∧ va_K (dC, dI) vwCl [] U)) (vp_Si (fun r => r = ru)) 0 0 (fun _ => False) := by
  refine Met.ofW (cc := cX5_itemCount) (maxL := 1) (ret := (some .int)) (by decide) rfl ?_
  intro p e s m args below meth c s₁ B hml hv
  obtain ⟨rfl, hP, hK⟩ := hv
  have hx := B.exec
  have hb := B.bytes
  have hr := B.returns
  have hts := atoms_spec (ws := wsX5_itemCount) B.pre
  have hown : s.vm.findClass RX5 = some m.cls := findClass_of_methodNamed B.named
  have hlocks := B.notSynchronized
  have hinX5 : ∀ w ∈ wsX50, w ∈ wsX5_itemCount := by decide +kernel
  have hl := lv_entry ([.ref h0]) (n := 1) (Nat.le_of_ble_eq_true rfl)
  rw [lg_entry_eq]
  generalize (lg_sl ([.ref h0]) ++ List.replicate (1 - (lg_sl ([.ref h0])).length) Slot.unset).toArray = ls at hl ⊢
  have hl : lv_has ls 1 [(0, .ref h0)] := hl
  have hrun := hm
  rw [fX5_itemCount] at hrun
  refine lv_aload_n hx hb dX5_itemCount_0 rfl (lv_at hl 0 rfl) ?_
  refine va_get (D := (dC, dI)) (ci := 5) (v := .int v0_items) (C := RX5) (T := TX5) (N := 10) hx hb hts hinX5 hown hK hP 0 rfl rfl 9 (by decide) (hts (.fieldLink RX5 29 "WasItOut$Law" "items" "I") (by decide +kernel)) (fun _ h9 => h9) rfl dX5_itemCount_1 ?_
  exact W.iret hx hb hr (fun t ht _ => ⟨_, rfl, Option.some.inj hrun, ht⟩) (fun _ h => by cases h) dX5_itemCount_4
set_option maxHeartbeats 4000000 in
set_option maxRecDepth 100000 in
theorem tX5_paint (l : Launch) (dC : Nat → ClassId) (dI : Nat → Nat → Nat) (sz : Nat) (h0 h1 h2 : Nat) (k1 k2 : ClassId) (g0_numbers g0_item g0_wicketStands g0_wicketX g0_wicketSide g0_wicketHigh g0_items : Value) (N : Nat) (a1 : Int32) (a2 : Int32) (v0_lineCount : Int32) (c1 : Nat → Int32) (c2 : Nat → Int32) (ru : (Int32) × (Nat → Int32) × (Nat → Int32)) (hm : fX5_paint N a1 a2 v0_lineCount c1 c2 = some ru) : Met l yX5_paint wsX5_paint ({ frames := 0, cells := 0, slots := 0, locals := 0 } : Room) (va_Pc [.ref h0, .int a1, .int a2] (fun U => U.heap.size = sz ∧ va_P (dC, dI) vwCl [(h0, .inr (5, [g0_numbers, .ref h1, .ref h2, g0_item, .int v0_lineCount, g0_wicketStands, g0_wicketX, g0_wicketSide, g0_wicketHigh, g0_items])), (h1, .inl (k1, 40, .inl c1)), (h2, .inl (k2, 40, .inl c2))] U.heap ∧ va_K (dC, dI) vwCl [(k1, .int), (k2, .int)] U ∧ va_D (fun _ => True) [(h0, .inr (5, [g0_numbers, .ref h1, .ref h2, g0_item, .int v0_lineCount, g0_wicketStands, g0_wicketX, g0_wicketSide, g0_wicketHigh, g0_items])), (h1, .inl (k1, 40, .inl c1)), (h2, .inl (k2, 40, .inl c2))])) (va_Qv (fun (_ : Unit) => True) (fun (_ : Unit) t => va_P (dC, dI) vwCl [(h0, .inr (5, [g0_numbers, .ref h1, .ref h2, g0_item, .int ru.1, g0_wicketStands, g0_wicketX, g0_wicketSide, g0_wicketHigh, g0_items])), (h1, .inl (k1, 40, .inl ru.2.1)), (h2, .inl (k2, 40, .inl ru.2.2))] t.heap ∧ va_K (dC, dI) vwCl [(k1, .int), (k2, .int)] t ∧ va_D (va_A [(h0, .inr (5, [g0_numbers, .ref h1, .ref h2, g0_item, .int v0_lineCount, g0_wicketStands, g0_wicketX, g0_wicketSide, g0_wicketHigh, g0_items])), (h1, .inl (k1, 40, .inl c1)), (h2, .inl (k2, 40, .inl c2))] sz) [(h0, .inr (5, [g0_numbers, .ref h1, .ref h2, g0_item, .int ru.1, g0_wicketStands, g0_wicketX, g0_wicketSide, g0_wicketHigh, g0_items])), (h1, .inl (k1, 40, .inl ru.2.1)), (h2, .inl (k2, 40, .inl ru.2.2))]) (va_A [(h0, .inr (5, [g0_numbers, .ref h1, .ref h2, g0_item, .int v0_lineCount, g0_wicketStands, g0_wicketX, g0_wicketSide, g0_wicketHigh, g0_items])), (h1, .inl (k1, 40, .inl c1)), (h2, .inl (k2, 40, .inl c2))] sz)) 0 0 (va_A [(h0, .inr (5, [g0_numbers, .ref h1, .ref h2, g0_item, .int v0_lineCount, g0_wicketStands, g0_wicketX, g0_wicketSide, g0_wicketHigh, g0_items])), (h1, .inl (k1, 40, .inl c1)), (h2, .inl (k2, 40, .inl c2))] sz) := by
  refine Met.ofW (cc := cX5_paint) (maxL := 3) (ret := none) (by decide) rfl ?_
  intro p e s m args below meth c s₁ B hml hv
  obtain ⟨rfl, hsz, hP, hK, hD0⟩ := hv
  have hx := B.exec
  have hb := B.bytes
  have hr := B.returns
  have hts := atoms_spec (ws := wsX5_paint) B.pre
  have hown : s.vm.findClass RX5 = some m.cls := findClass_of_methodNamed B.named
  have hlocks := B.notSynchronized
  subst hsz
  have hD := hD0.self (sz := s.heap.size)
  generalize hAe : va_A [(h0, .inr (5, [g0_numbers, .ref h1, .ref h2, g0_item, .int v0_lineCount, g0_wicketStands, g0_wicketX, g0_wicketSide, g0_wicketHigh, g0_items])), (h1, .inl (k1, 40, .inl c1)), (h2, .inl (k2, 40, .inl c2))] s.heap.size = A at hD ⊢
  have hA : ∀ q : Nat, s.heap.size ≤ q → A q := fun q h => by rw [← hAe]; exact Or.inr h
  have hS : va_S A s.heap s.heap [] := va_S.rf
  have hinX5 : ∀ w ∈ wsX50, w ∈ wsX5_paint := by decide +kernel
  have hl := lv_entry ([.ref h0, .int a1, .int a2]) (n := 3) (Nat.le_of_ble_eq_true rfl)
  rw [lg_entry_eq]
  generalize (lg_sl ([.ref h0, .int a1, .int a2]) ++ List.replicate (3 - (lg_sl ([.ref h0, .int a1, .int a2])).length) Slot.unset).toArray = ls at hl ⊢
  have hl : lv_has ls 3 [(0, .ref h0), (1, .int a1), (2, .int a2)] := hl
  have hrun := hm
  rw [fX5_paint] at hrun
  obtain ⟨H, hHe⟩ : ∃ H, H = s.heap := ⟨_, rfl⟩
  obtain ⟨locs, hLe⟩ : ∃ locs : List Loc, locs = [] := ⟨_, rfl⟩
  rw [← hHe] at hP
  have hS : va_S A s.heap H locs := by rw [hHe, hLe]; exact hS
  have key : W p l e (headSpec wsX5_paint ({ frames := 0, cells := 0, slots := 0, locals := 0 } : Room)).room s m ([.ref h0, .int a1, .int a2] : List Value).toArray below meth c H locs 0 0 (MQ below (va_Qv (fun (_ : Unit) => True) (fun (_ : Unit) t => va_P (dC, dI) vwCl [(h0, .inr (5, [g0_numbers, .ref h1, .ref h2, g0_item, .int ru.1, g0_wicketStands, g0_wicketX, g0_wicketSide, g0_wicketHigh, g0_items])), (h1, .inl (k1, 40, .inl ru.2.1)), (h2, .inl (k2, 40, .inl ru.2.2))] t.heap ∧ va_K (dC, dI) vwCl [(k1, .int), (k2, .int)] t ∧ va_D A [(h0, .inr (5, [g0_numbers, .ref h1, .ref h2, g0_item, .int ru.1, g0_wicketStands, g0_wicketX, g0_wicketSide, g0_wicketHigh, g0_items])), (h1, .inl (k1, 40, .inl ru.2.1)), (h2, .inl (k2, 40, .inl ru.2.2))]) A) ([.ref h0, .int a1, .int a2] : List Value).toArray s 0 0 A) (F0 m 0 ls []) := by
    clear hHe hLe
    refine lv_aload_n hx hb dX5_paint_0 rfl (lv_at hl 0 rfl) ?_
    refine va_get (D := (dC, dI)) (ci := 5) (v := .int v0_lineCount) (C := RX5) (T := TX5) (N := 10) hx hb hts hinX5 hown hK hP 0 rfl rfl 4 (by decide) (hts (.fieldLink RX5 46 "WasItOut$Law" "lineCount" "I") (by decide +kernel)) (fun _ h9 => h9) rfl dX5_paint_1 ?_
    refine lv_if_lt (tgt := 46) hx hb dX5_paint_4 (by decide) (fun cc => ?_) (fun cc => ?_)
    · have hrun := oi_t hrun cc
      cases hrun
      have hP9 : va_P (dC, dI) vwCl [(h0, .inr (5, [g0_numbers, .ref h1, .ref h2, g0_item, .int v0_lineCount, g0_wicketStands, g0_wicketX, g0_wicketSide, g0_wicketHigh, g0_items])), (h1, .inl (k1, 40, .inl c1)), (h2, .inl (k2, 40, .inl c2))] H := hP
      have hD9 : va_D A [(h0, .inr (5, [g0_numbers, .ref h1, .ref h2, g0_item, .int v0_lineCount, g0_wicketStands, g0_wicketX, g0_wicketSide, g0_wicketHigh, g0_items])), (h1, .inl (k1, 40, .inl c1)), (h2, .inl (k2, 40, .inl c2))] := hD
      exact W.vret hx hb hr (fun t ht hW => ⟨⟨(), rfl, trivial, by rw [ht]; exact hP9, va_K.moved hW.alike hK, hD9⟩, hS.F ht⟩) hS.2.2 dX5_paint_46
    · have hrun := oi_f hrun cc
      refine lv_aload_n hx hb dX5_paint_7 rfl (lv_at hl 0 rfl) ?_
      refine va_get (D := (dC, dI)) (ci := 5) (v := .int v0_lineCount) (C := RX5) (T := TX5) (N := 10) hx hb hts hinX5 hown hK hP 0 rfl rfl 4 (by decide) (hts (.fieldLink RX5 46 "WasItOut$Law" "lineCount" "I") (by decide +kernel)) (fun _ h9 => h9) rfl dX5_paint_8 ?_
      refine lv_bipush (v := (40 : Int32)) hx hb dX5_paint_11 (by decide) ?_
      refine lv_icmp_ge (tgt := 46) hx hb dX5_paint_13 (by decide) (fun cc => ?_) (fun cc => ?_)
      · have hrun := oi_t hrun cc
        cases hrun
        have hP9 : va_P (dC, dI) vwCl [(h0, .inr (5, [g0_numbers, .ref h1, .ref h2, g0_item, .int v0_lineCount, g0_wicketStands, g0_wicketX, g0_wicketSide, g0_wicketHigh, g0_items])), (h1, .inl (k1, 40, .inl c1)), (h2, .inl (k2, 40, .inl c2))] H := hP
        have hD9 : va_D A [(h0, .inr (5, [g0_numbers, .ref h1, .ref h2, g0_item, .int v0_lineCount, g0_wicketStands, g0_wicketX, g0_wicketSide, g0_wicketHigh, g0_items])), (h1, .inl (k1, 40, .inl c1)), (h2, .inl (k2, 40, .inl c2))] := hD
        exact W.vret hx hb hr (fun t ht hW => ⟨⟨(), rfl, trivial, by rw [ht]; exact hP9, va_K.moved hW.alike hK, hD9⟩, hS.F ht⟩) hS.2.2 dX5_paint_46
      · have hrun := oi_f hrun cc
        refine lv_aload_n hx hb dX5_paint_16 rfl (lv_at hl 0 rfl) ?_
        refine va_get (D := (dC, dI)) (ci := 5) (v := .ref h1) (C := RX5) (T := TX5) (N := 10) hx hb hts hinX5 hown hK hP 0 rfl rfl 1 (by decide) (hts (.fieldLink RX5 13 "WasItOut$Law" "lineFrom" "[I") (by decide +kernel)) (fun _ h9 => h9) rfl dX5_paint_17 ?_
        refine lv_aload_n hx hb dX5_paint_20 rfl (lv_at hl 0 rfl) ?_
        refine va_get (D := (dC, dI)) (ci := 5) (v := .int v0_lineCount) (C := RX5) (T := TX5) (N := 10) hx hb hts hinX5 hown hK hP 0 rfl rfl 4 (by decide) (hts (.fieldLink RX5 46 "WasItOut$Law" "lineCount" "I") (by decide +kernel)) (fun _ h9 => h9) rfl dX5_paint_21 ?_
        refine lv_iload_n hx hb dX5_paint_24 rfl (lv_at hl 1 rfl) ?_
        obtain ⟨hi, hrun⟩ := oi_x hrun
        refine va_iast hx hb hK hP hD hS 1 0 rfl rfl hi dX5_paint_25 (fun H locs hP hD hS => ?_)
        have hP : va_P (dC, dI) vwCl [(h0, .inr (5, [g0_numbers, .ref h1, .ref h2, g0_item, .int v0_lineCount, g0_wicketStands, g0_wicketX, g0_wicketSide, g0_wicketHigh, g0_items])), (h1, .inl (k1, 40, .inl (upd c1 v0_lineCount.toNatClampNeg a1))), (h2, .inl (k2, 40, .inl c2))] H := hP
        have hD : va_D A [(h0, .inr (5, [g0_numbers, .ref h1, .ref h2, g0_item, .int v0_lineCount, g0_wicketStands, g0_wicketX, g0_wicketSide, g0_wicketHigh, g0_items])), (h1, .inl (k1, 40, .inl (upd c1 v0_lineCount.toNatClampNeg a1))), (h2, .inl (k2, 40, .inl c2))] := hD
        refine lv_aload_n hx hb dX5_paint_26 rfl (lv_at hl 0 rfl) ?_
        refine va_get (D := (dC, dI)) (ci := 5) (v := .ref h2) (C := RX5) (T := TX5) (N := 10) hx hb hts hinX5 hown hK hP 0 rfl rfl 2 (by decide) (hts (.fieldLink RX5 16 "WasItOut$Law" "lineY" "[I") (by decide +kernel)) (fun _ h9 => h9) rfl dX5_paint_27 ?_
        refine lv_aload_n hx hb dX5_paint_30 rfl (lv_at hl 0 rfl) ?_
        refine va_get (D := (dC, dI)) (ci := 5) (v := .int v0_lineCount) (C := RX5) (T := TX5) (N := 10) hx hb hts hinX5 hown hK hP 0 rfl rfl 4 (by decide) (hts (.fieldLink RX5 46 "WasItOut$Law" "lineCount" "I") (by decide +kernel)) (fun _ h9 => h9) rfl dX5_paint_31 ?_
        refine lv_iload_n hx hb dX5_paint_34 rfl (lv_at hl 2 rfl) ?_
        obtain ⟨hi, hrun⟩ := oi_x hrun
        refine va_iast hx hb hK hP hD hS 2 1 rfl rfl hi dX5_paint_35 (fun H locs hP hD hS => ?_)
        have hP : va_P (dC, dI) vwCl [(h0, .inr (5, [g0_numbers, .ref h1, .ref h2, g0_item, .int v0_lineCount, g0_wicketStands, g0_wicketX, g0_wicketSide, g0_wicketHigh, g0_items])), (h1, .inl (k1, 40, .inl (upd c1 v0_lineCount.toNatClampNeg a1))), (h2, .inl (k2, 40, .inl (upd c2 v0_lineCount.toNatClampNeg a2)))] H := hP
        have hD : va_D A [(h0, .inr (5, [g0_numbers, .ref h1, .ref h2, g0_item, .int v0_lineCount, g0_wicketStands, g0_wicketX, g0_wicketSide, g0_wicketHigh, g0_items])), (h1, .inl (k1, 40, .inl (upd c1 v0_lineCount.toNatClampNeg a1))), (h2, .inl (k2, 40, .inl (upd c2 v0_lineCount.toNatClampNeg a2)))] := hD
        refine lv_aload_n hx hb dX5_paint_36 rfl (lv_at hl 0 rfl) ?_
        refine lv_dup hx hb dX5_paint_37 rfl ?_
        refine va_get (D := (dC, dI)) (ci := 5) (v := .int v0_lineCount) (C := RX5) (T := TX5) (N := 10) hx hb hts hinX5 hown hK hP 0 rfl rfl 4 (by decide) (hts (.fieldLink RX5 46 "WasItOut$Law" "lineCount" "I") (by decide +kernel)) (fun _ h9 => h9) rfl dX5_paint_38 ?_
        refine lv_iconst (v := (1 : Int32)) hx hb dX5_paint_41 (by decide) ?_
        refine lv_iadd hx hb dX5_paint_42 ?_
        refine va_put (D := (dC, dI)) (ci := 5) (v := .int (v0_lineCount + (1 : Int32))) (ty := .int) (C := RX5) (T := TX5) (N := 10) hx hb hts hinX5 tyX5 tyX5_ok nmX5 hown hK hP hD hS 0 rfl rfl 4 (by decide) (hts (.fieldLink RX5 46 "WasItOut$Law" "lineCount" "I") (by decide +kernel)) (fun _ h9 => h9) rfl (by decide +kernel) rfl rfl (Nat.le_of_ble_eq_true rfl) dX5_paint_43 (fun H locs hP hD hS => ?_)
        have hP : va_P (dC, dI) vwCl [(h0, .inr (5, [g0_numbers, .ref h1, .ref h2, g0_item, .int (v0_lineCount + (1 : Int32)), g0_wicketStands, g0_wicketX, g0_wicketSide, g0_wicketHigh, g0_items])), (h1, .inl (k1, 40, .inl (upd c1 v0_lineCount.toNatClampNeg a1))), (h2, .inl (k2, 40, .inl (upd c2 v0_lineCount.toNatClampNeg a2)))] H := hP
        have hD : va_D A [(h0, .inr (5, [g0_numbers, .ref h1, .ref h2, g0_item, .int (v0_lineCount + (1 : Int32)), g0_wicketStands, g0_wicketX, g0_wicketSide, g0_wicketHigh, g0_items])), (h1, .inl (k1, 40, .inl (upd c1 v0_lineCount.toNatClampNeg a1))), (h2, .inl (k2, 40, .inl (upd c2 v0_lineCount.toNatClampNeg a2)))] := hD
        cases hrun
        have hP9 : va_P (dC, dI) vwCl [(h0, .inr (5, [g0_numbers, .ref h1, .ref h2, g0_item, .int (v0_lineCount + (1 : Int32)), g0_wicketStands, g0_wicketX, g0_wicketSide, g0_wicketHigh, g0_items])), (h1, .inl (k1, 40, .inl (upd c1 v0_lineCount.toNatClampNeg a1))), (h2, .inl (k2, 40, .inl (upd c2 v0_lineCount.toNatClampNeg a2)))] H := hP
        have hD9 : va_D A [(h0, .inr (5, [g0_numbers, .ref h1, .ref h2, g0_item, .int (v0_lineCount + (1 : Int32)), g0_wicketStands, g0_wicketX, g0_wicketSide, g0_wicketHigh, g0_items])), (h1, .inl (k1, 40, .inl (upd c1 v0_lineCount.toNatClampNeg a1))), (h2, .inl (k2, 40, .inl (upd c2 v0_lineCount.toNatClampNeg a2)))] := hD
        exact W.vret hx hb hr (fun t ht hW => ⟨⟨(), rfl, trivial, by rw [ht]; exact hP9, va_K.moved hW.alike hK, hD9⟩, hS.F ht⟩) hS.2.2 dX5_paint_46
  rw [hHe, hLe] at key
  exact key
set_option maxHeartbeats 4000000 in
set_option maxRecDepth 100000 in
theorem tX6_size (l : Launch) (dC : Nat → ClassId) (dI : Nat → Nat → Nat) (h0 : Nat) (g0_bytes g0_item : Value) (N : Nat)  (v0_length : Int32) (ru : Int32) (hm : fX6_size N v0_length = some ru) : Met l yX6_size wsX6_size ({ frames := 0, cells := 0, slots := 0, locals := 0 } : Room) (va_Pc [.ref h0] (fun U => va_P (dC, dI) vwCl [(h0, .inr (6, [g0_bytes, g0_item, .int v0_length]))] U.heap ∧ va_K (dC, dI) vwCl [] U)) (vp_Si (fun r => r = ru)) 0 0 (fun _ => False) := by
  refine Met.ofW (cc := cX6_size) (maxL := 1) (ret := (some .int)) (by decide) rfl ?_
  intro p e s m args below meth c s₁ B hml hv
  obtain ⟨rfl, hP, hK⟩ := hv
  have hx := B.exec
  have hb := B.bytes
  have hr := B.returns
  have hts := atoms_spec (ws := wsX6_size) B.pre
  have hown : s.vm.findClass RX6 = some m.cls := findClass_of_methodNamed B.named
  have hlocks := B.notSynchronized
  have hinX6 : ∀ w ∈ wsX60, w ∈ wsX6_size := by decide +kernel
  have hl := lv_entry ([.ref h0]) (n := 1) (Nat.le_of_ble_eq_true rfl)
  rw [lg_entry_eq]
  generalize (lg_sl ([.ref h0]) ++ List.replicate (1 - (lg_sl ([.ref h0])).length) Slot.unset).toArray = ls at hl ⊢
  have hl : lv_has ls 1 [(0, .ref h0)] := hl
  have hrun := hm
  rw [fX6_size] at hrun
  refine lv_aload_n hx hb dX6_size_0 rfl (lv_at hl 0 rfl) ?_
  refine va_get (D := (dC, dI)) (ci := 6) (v := .int v0_length) (C := RX6) (T := TX6) (N := 3) hx hb hts hinX6 hown hK hP 0 rfl rfl 2 (by decide) (hts (.fieldLink RX6 22 "WasItOut$Text" "length" "I") (by decide +kernel)) (fun _ h9 => h9) rfl dX6_size_1 ?_
  exact W.iret hx hb hr (fun t ht _ => ⟨_, rfl, Option.some.inj hrun, ht⟩) (fun _ h => by cases h) dX6_size_4
set_option maxHeartbeats 4000000 in
set_option maxRecDepth 100000 in
theorem tX5_take (l : Launch) (dC : Nat → ClassId) (dI : Nat → Nat → Nat) (sz : Nat) (h0 h1 h2 h3 h4 h5 : Nat) (k2 k3 k4 k5 : ClassId) (g0_items : Value) (N : Nat)  (v0_lineCount : Int32) (v0_wicketStands : Int32) (v0_wicketX : Int32) (v0_wicketSide : Int32) (v0_wicketHigh : Int32) (v1_kind : Int32) (c2 : Nat → Int32) (c3 : Nat → Int32) (c4 : Nat → Int32) (c5 : Nat → Int32) (ru : (Int32) × (Int32) × (Int32) × (Int32) × (Int32) × (Nat → Int32) × (Nat → Int32) × (Nat → Int32)) (hm : fX5_take N v0_lineCount v0_wicketStands v0_wicketX v0_wicketSide v0_wicketHigh v1_kind c2 c3 c4 c5 = some ru) : Met l yX5_take wsX5_take ({ frames := 1, cells := 0, slots := 0, locals := 22 } : Room) (va_Pc [.ref h0] (fun U => U.heap.size = sz ∧ va_P (dC, dI) vwCl [(h0, .inr (5, [.ref h5, .ref h3, .ref h4, .ref h1, .int v0_lineCount, .int v0_wicketStands, .int v0_wicketX, .int v0_wicketSide, .int v0_wicketHigh, g0_items])), (h1, .inr (3, [.ref h2, .int v1_kind])), (h2, .inl (k2, 3, .inl c2)), (h3, .inl (k3, 40, .inl c3)), (h4, .inl (k4, 40, .inl c4)), (h5, .inl (k5, 6, .inl c5))] U.heap ∧ va_K (dC, dI) vwCl [(k2, .int), (k3, .int), (k4, .int), (k5, .int)] U ∧ va_D (fun _ => True) [(h0, .inr (5, [.ref h5, .ref h3, .ref h4, .ref h1, .int v0_lineCount, .int v0_wicketStands, .int v0_wicketX, .int v0_wicketSide, .int v0_wicketHigh, g0_items])), (h1, .inr (3, [.ref h2, .int v1_kind])), (h2, .inl (k2, 3, .inl c2)), (h3, .inl (k3, 40, .inl c3)), (h4, .inl (k4, 40, .inl c4)), (h5, .inl (k5, 6, .inl c5))])) (va_Qv (fun (_ : Unit) => True) (fun (_ : Unit) t => va_P (dC, dI) vwCl [(h0, .inr (5, [.ref h5, .ref h3, .ref h4, .ref h1, .int ru.1, .int ru.2.1, .int ru.2.2.1, .int ru.2.2.2.1, .int ru.2.2.2.2.1, g0_items])), (h1, .inr (3, [.ref h2, .int v1_kind])), (h2, .inl (k2, 3, .inl c2)), (h3, .inl (k3, 40, .inl ru.2.2.2.2.2.1)), (h4, .inl (k4, 40, .inl ru.2.2.2.2.2.2.1)), (h5, .inl (k5, 6, .inl ru.2.2.2.2.2.2.2))] t.heap ∧ va_K (dC, dI) vwCl [(k2, .int), (k3, .int), (k4, .int), (k5, .int)] t ∧ va_D (va_A [(h0, .inr (5, [.ref h5, .ref h3, .ref h4, .ref h1, .int v0_lineCount, .int v0_wicketStands, .int v0_wicketX, .int v0_wicketSide, .int v0_wicketHigh, g0_items])), (h1, .inr (3, [.ref h2, .int v1_kind])), (h2, .inl (k2, 3, .inl c2)), (h3, .inl (k3, 40, .inl c3)), (h4, .inl (k4, 40, .inl c4)), (h5, .inl (k5, 6, .inl c5))] sz) [(h0, .inr (5, [.ref h5, .ref h3, .ref h4, .ref h1, .int ru.1, .int ru.2.1, .int ru.2.2.1, .int ru.2.2.2.1, .int ru.2.2.2.2.1, g0_items])), (h1, .inr (3, [.ref h2, .int v1_kind])), (h2, .inl (k2, 3, .inl c2)), (h3, .inl (k3, 40, .inl ru.2.2.2.2.2.1)), (h4, .inl (k4, 40, .inl ru.2.2.2.2.2.2.1)), (h5, .inl (k5, 6, .inl ru.2.2.2.2.2.2.2))]) (va_A [(h0, .inr (5, [.ref h5, .ref h3, .ref h4, .ref h1, .int v0_lineCount, .int v0_wicketStands, .int v0_wicketX, .int v0_wicketSide, .int v0_wicketHigh, g0_items])), (h1, .inr (3, [.ref h2, .int v1_kind])), (h2, .inl (k2, 3, .inl c2)), (h3, .inl (k3, 40, .inl c3)), (h4, .inl (k4, 40, .inl c4)), (h5, .inl (k5, 6, .inl c5))] sz)) 0 0 (va_A [(h0, .inr (5, [.ref h5, .ref h3, .ref h4, .ref h1, .int v0_lineCount, .int v0_wicketStands, .int v0_wicketX, .int v0_wicketSide, .int v0_wicketHigh, g0_items])), (h1, .inr (3, [.ref h2, .int v1_kind])), (h2, .inl (k2, 3, .inl c2)), (h3, .inl (k3, 40, .inl c3)), (h4, .inl (k4, 40, .inl c4)), (h5, .inl (k5, 6, .inl c5))] sz) := by
  refine Met.ofW (cc := cX5_take) (maxL := 2) (ret := none) (by decide) rfl ?_
  intro p e s m args below meth c s₁ B hml hv
  obtain ⟨rfl, hsz, hP, hK, hD0⟩ := hv
  have hx := B.exec
  have hb := B.bytes
  have hr := B.returns
  have hts := atoms_spec (ws := wsX5_take) B.pre
  have hown : s.vm.findClass RX5 = some m.cls := findClass_of_methodNamed B.named
  have hlocks := B.notSynchronized
  subst hsz
  have hD := hD0.self (sz := s.heap.size)
  generalize hAe : va_A [(h0, .inr (5, [.ref h5, .ref h3, .ref h4, .ref h1, .int v0_lineCount, .int v0_wicketStands, .int v0_wicketX, .int v0_wicketSide, .int v0_wicketHigh, g0_items])), (h1, .inr (3, [.ref h2, .int v1_kind])), (h2, .inl (k2, 3, .inl c2)), (h3, .inl (k3, 40, .inl c3)), (h4, .inl (k4, 40, .inl c4)), (h5, .inl (k5, 6, .inl c5))] s.heap.size = A at hD ⊢
  have hA : ∀ q : Nat, s.heap.size ≤ q → A q := fun q h => by rw [← hAe]; exact Or.inr h
  have hS : va_S A s.heap s.heap [] := va_S.rf
  have hinX5 : ∀ w ∈ wsX50, w ∈ wsX5_take := by decide +kernel
  have hl := lv_entry ([.ref h0]) (n := 2) (Nat.le_of_ble_eq_true rfl)
  rw [lg_entry_eq]
  generalize (lg_sl ([.ref h0]) ++ List.replicate (2 - (lg_sl ([.ref h0])).length) Slot.unset).toArray = ls at hl ⊢
  have hl : lv_has ls 2 [(0, .ref h0)] := hl
  have hrun := hm
  rw [fX5_take] at hrun
  obtain ⟨H, hHe⟩ : ∃ H, H = s.heap := ⟨_, rfl⟩
  obtain ⟨locs, hLe⟩ : ∃ locs : List Loc, locs = [] := ⟨_, rfl⟩
  rw [← hHe] at hP
  have hS : va_S A s.heap H locs := by rw [hHe, hLe]; exact hS
  have key : W p l e (headSpec wsX5_take ({ frames := 1, cells := 0, slots := 0, locals := 22 } : Room)).room s m ([.ref h0] : List Value).toArray below meth c H locs 0 0 (MQ below (va_Qv (fun (_ : Unit) => True) (fun (_ : Unit) t => va_P (dC, dI) vwCl [(h0, .inr (5, [.ref h5, .ref h3, .ref h4, .ref h1, .int ru.1, .int ru.2.1, .int ru.2.2.1, .int ru.2.2.2.1, .int ru.2.2.2.2.1, g0_items])), (h1, .inr (3, [.ref h2, .int v1_kind])), (h2, .inl (k2, 3, .inl c2)), (h3, .inl (k3, 40, .inl ru.2.2.2.2.2.1)), (h4, .inl (k4, 40, .inl ru.2.2.2.2.2.2.1)), (h5, .inl (k5, 6, .inl ru.2.2.2.2.2.2.2))] t.heap ∧ va_K (dC, dI) vwCl [(k2, .int), (k3, .int), (k4, .int), (k5, .int)] t ∧ va_D A [(h0, .inr (5, [.ref h5, .ref h3, .ref h4, .ref h1, .int ru.1, .int ru.2.1, .int ru.2.2.1, .int ru.2.2.2.1, .int ru.2.2.2.2.1, g0_items])), (h1, .inr (3, [.ref h2, .int v1_kind])), (h2, .inl (k2, 3, .inl c2)), (h3, .inl (k3, 40, .inl ru.2.2.2.2.2.1)), (h4, .inl (k4, 40, .inl ru.2.2.2.2.2.2.1)), (h5, .inl (k5, 6, .inl ru.2.2.2.2.2.2.2))]) A) ([.ref h0] : List Value).toArray s 0 0 A) (F0 m 0 ls []) := by
    clear hHe hLe
    refine lv_aload_n hx hb dX5_take_0 rfl (lv_at hl 0 rfl) ?_
    refine va_get (D := (dC, dI)) (ci := 5) (v := .ref h1) (C := RX5) (T := TX5) (N := 10) hx hb hts hinX5 hown hK hP 0 rfl rfl 3 (by decide) (hts (.fieldLink RX5 22 "WasItOut$Law" "item" "LWasItOut$Item;") (by decide +kernel)) (fun _ h9 => h9) rfl dX5_take_1 ?_
    obtain ⟨q4, hc4, hrun⟩ := ob_e hrun
    refine wz_csi (va_runV (As := []) (rest := []) ⟨hx, hb, hml, hown, hts⟩ (tX3_kind l dC dI h1 (.ref h2) N v1_kind q4 hc4) (cwV 0 hts gX5_take_X3_kind rfl rfl rfl (by decide +kernel) ⟨Nat.le_of_ble_eq_true rfl, Nat.le_of_ble_eq_true rfl⟩) (wz_pVr (hP.sub (ws' := [(h1, .inr (3, [.ref h2, .int v1_kind]))]) [1] rfl) (hK.sub (tys' := []) [] rfl) (va_recv hK hP (ci := 3) (q0 := 1) rfl rfl)) rfl rfl hl.1 rfl (lv_room (Nat.le_of_ble_eq_true rfl)) dX5_take_4 ⟨Nat.zero_le _, Nat.zero_le _⟩) ?_
    refine lv_istore_n (lv' := [(1, .int q4), (0, .ref h0)]) hx hb dX5_take_7 rfl hl (by decide) rfl (fun ls hl => ?_)
    refine lv_iload_n hx hb dX5_take_8 rfl (lv_at hl 0 rfl) ?_
    obtain ⟨k38, ek38, hrun⟩ := jn_e hrun
    have J38 : ∀ (u_38 : Unit) (ls : Array Slot) (H : Heap) (locs : List Loc), k38 u_38 = some ru → va_P (dC, dI) vwCl [(h0, .inr (5, [.ref h5, .ref h3, .ref h4, .ref h1, .int v0_lineCount, .int v0_wicketStands, .int v0_wicketX, .int v0_wicketSide, .int v0_wicketHigh, g0_items])), (h1, .inr (3, [.ref h2, .int v1_kind])), (h2, .inl (k2, 3, .inl c2)), (h3, .inl (k3, 40, .inl c3)), (h4, .inl (k4, 40, .inl c4)), (h5, .inl (k5, 6, .inl c5))] H → va_D A [(h0, .inr (5, [.ref h5, .ref h3, .ref h4, .ref h1, .int v0_lineCount, .int v0_wicketStands, .int v0_wicketX, .int v0_wicketSide, .int v0_wicketHigh, g0_items])), (h1, .inr (3, [.ref h2, .int v1_kind])), (h2, .inl (k2, 3, .inl c2)), (h3, .inl (k3, 40, .inl c3)), (h4, .inl (k4, 40, .inl c4)), (h5, .inl (k5, 6, .inl c5))] → va_S A s.heap H locs → lv_has ls 2 [(0, .ref h0), (1, .int q4)] → W p l e (headSpec wsX5_take ({ frames := 1, cells := 0, slots := 0, locals := 22 } : Room)).room s m ([.ref h0] : List Value).toArray below meth c H locs 0 0 (MQ below (va_Qv (fun (_ : Unit) => True) (fun (_ : Unit) t => va_P (dC, dI) vwCl [(h0, .inr (5, [.ref h5, .ref h3, .ref h4, .ref h1, .int ru.1, .int ru.2.1, .int ru.2.2.1, .int ru.2.2.2.1, .int ru.2.2.2.2.1, g0_items])), (h1, .inr (3, [.ref h2, .int v1_kind])), (h2, .inl (k2, 3, .inl c2)), (h3, .inl (k3, 40, .inl ru.2.2.2.2.2.1)), (h4, .inl (k4, 40, .inl ru.2.2.2.2.2.2.1)), (h5, .inl (k5, 6, .inl ru.2.2.2.2.2.2.2))] t.heap ∧ va_K (dC, dI) vwCl [(k2, .int), (k3, .int), (k4, .int), (k5, .int)] t ∧ va_D A [(h0, .inr (5, [.ref h5, .ref h3, .ref h4, .ref h1, .int ru.1, .int ru.2.1, .int ru.2.2.1, .int ru.2.2.2.1, .int ru.2.2.2.2.1, g0_items])), (h1, .inr (3, [.ref h2, .int v1_kind])), (h2, .inl (k2, 3, .inl c2)), (h3, .inl (k3, 40, .inl ru.2.2.2.2.2.1)), (h4, .inl (k4, 40, .inl ru.2.2.2.2.2.2.1)), (h5, .inl (k5, 6, .inl ru.2.2.2.2.2.2.2))]) A) ([.ref h0] : List Value).toArray s 0 0 A) (F0 m 38 ls []) := by
      intro u_38 ls H locs hrun hP hD hS hl
      rw [ek38] at hrun
      refine lv_iload_n hx hb dX5_take_38 rfl (lv_at hl 1 rfl) ?_
      refine lv_bipush (v := (6 : Int32)) hx hb dX5_take_39 (by decide) ?_
      refine lv_icmp_ne (tgt := 67) hx hb dX5_take_41 (by decide) (fun cc => ?_) (fun cc => ?_)
      · have hrun := oi_t hrun cc
        refine lv_aload_n hx hb dX5_take_67 rfl (lv_at hl 0 rfl) ?_
        refine lv_iconst (v := (1 : Int32)) hx hb dX5_take_68 (by decide) ?_
        refine va_put (D := (dC, dI)) (ci := 5) (v := .int (1 : Int32)) (ty := .boolean) (C := RX5) (T := TX5) (N := 10) hx hb hts hinX5 tyX5 tyX5_ok nmX5 hown hK hP hD hS 0 rfl rfl 5 (by decide) (hts (.fieldLink RX5 33 "WasItOut$Law" "wicketStands" "Z") (by decide +kernel)) (fun _ h9 => h9) rfl (by decide +kernel) rfl rfl (Nat.le_of_ble_eq_true rfl) dX5_take_69 (fun H locs hP hD hS => ?_)
        have hP : va_P (dC, dI) vwCl [(h0, .inr (5, [.ref h5, .ref h3, .ref h4, .ref h1, .int v0_lineCount, .int (1 : Int32), .int v0_wicketX, .int v0_wicketSide, .int v0_wicketHigh, g0_items])), (h1, .inr (3, [.ref h2, .int v1_kind])), (h2, .inl (k2, 3, .inl c2)), (h3, .inl (k3, 40, .inl c3)), (h4, .inl (k4, 40, .inl c4)), (h5, .inl (k5, 6, .inl c5))] H := hP
        have hD : va_D A [(h0, .inr (5, [.ref h5, .ref h3, .ref h4, .ref h1, .int v0_lineCount, .int (1 : Int32), .int v0_wicketX, .int v0_wicketSide, .int v0_wicketHigh, g0_items])), (h1, .inr (3, [.ref h2, .int v1_kind])), (h2, .inl (k2, 3, .inl c2)), (h3, .inl (k3, 40, .inl c3)), (h4, .inl (k4, 40, .inl c4)), (h5, .inl (k5, 6, .inl c5))] := hD
        refine lv_aload_n hx hb dX5_take_72 rfl (lv_at hl 0 rfl) ?_
        refine lv_aload_n hx hb dX5_take_73 rfl (lv_at hl 0 rfl) ?_
        refine va_get (D := (dC, dI)) (ci := 5) (v := .ref h1) (C := RX5) (T := TX5) (N := 10) hx hb hts hinX5 hown hK hP 0 rfl rfl 3 (by decide) (hts (.fieldLink RX5 22 "WasItOut$Law" "item" "LWasItOut$Item;") (by decide +kernel)) (fun _ h9 => h9) rfl dX5_take_74 ?_
        refine lv_iconst (v := (0 : Int32)) hx hb dX5_take_77 (by decide) ?_
        obtain ⟨q78, hc78, hrun⟩ := ob_e hrun
        refine wz_csi (va_runV (As := [.int (0 : Int32)]) (rest := [.ref h0]) ⟨hx, hb, hml, hown, hts⟩ (tX3_number l dC dI h1 h2 k2 (.int v1_kind) N ((0 : Int32)) c2 q78 hc78) (cwV 1 hts gX5_take_X3_number rfl rfl rfl (by decide +kernel) ⟨Nat.le_of_ble_eq_true rfl, Nat.le_of_ble_eq_true rfl⟩) (wz_pVr (hP.sub (ws' := [(h1, .inr (3, [.ref h2, .int v1_kind])), (h2, .inl (k2, 3, .inl c2))]) [1, 2] rfl) (hK.sub (tys' := [(k2, .int)]) [0] rfl) (va_recv hK hP (ci := 3) (q0 := 1) rfl rfl)) rfl rfl hl.1 rfl (lv_room (Nat.le_of_ble_eq_true rfl)) dX5_take_78 ⟨Nat.zero_le _, Nat.zero_le _⟩) ?_
        refine va_put (D := (dC, dI)) (ci := 5) (v := .int q78) (ty := .int) (C := RX5) (T := TX5) (N := 10) hx hb hts hinX5 tyX5 tyX5_ok nmX5 hown hK hP hD hS 0 rfl rfl 6 (by decide) (hts (.fieldLink RX5 37 "WasItOut$Law" "wicketX" "I") (by decide +kernel)) (fun _ h9 => h9) rfl (by decide +kernel) rfl rfl (Nat.le_of_ble_eq_true rfl) dX5_take_81 (fun H locs hP hD hS => ?_)
        have hP : va_P (dC, dI) vwCl [(h0, .inr (5, [.ref h5, .ref h3, .ref h4, .ref h1, .int v0_lineCount, .int (1 : Int32), .int q78, .int v0_wicketSide, .int v0_wicketHigh, g0_items])), (h1, .inr (3, [.ref h2, .int v1_kind])), (h2, .inl (k2, 3, .inl c2)), (h3, .inl (k3, 40, .inl c3)), (h4, .inl (k4, 40, .inl c4)), (h5, .inl (k5, 6, .inl c5))] H := hP
        have hD : va_D A [(h0, .inr (5, [.ref h5, .ref h3, .ref h4, .ref h1, .int v0_lineCount, .int (1 : Int32), .int q78, .int v0_wicketSide, .int v0_wicketHigh, g0_items])), (h1, .inr (3, [.ref h2, .int v1_kind])), (h2, .inl (k2, 3, .inl c2)), (h3, .inl (k3, 40, .inl c3)), (h4, .inl (k4, 40, .inl c4)), (h5, .inl (k5, 6, .inl c5))] := hD
        refine lv_aload_n hx hb dX5_take_84 rfl (lv_at hl 0 rfl) ?_
        refine lv_aload_n hx hb dX5_take_85 rfl (lv_at hl 0 rfl) ?_
        refine va_get (D := (dC, dI)) (ci := 5) (v := .ref h1) (C := RX5) (T := TX5) (N := 10) hx hb hts hinX5 hown hK hP 0 rfl rfl 3 (by decide) (hts (.fieldLink RX5 22 "WasItOut$Law" "item" "LWasItOut$Item;") (by decide +kernel)) (fun _ h9 => h9) rfl dX5_take_86 ?_
        refine lv_iconst (v := (1 : Int32)) hx hb dX5_take_89 (by decide) ?_
        obtain ⟨q90, hc90, hrun⟩ := ob_e hrun
        refine wz_csi (va_runV (As := [.int (1 : Int32)]) (rest := [.ref h0]) ⟨hx, hb, hml, hown, hts⟩ (tX3_number l dC dI h1 h2 k2 (.int v1_kind) N ((1 : Int32)) c2 q90 hc90) (cwV 1 hts gX5_take_X3_number rfl rfl rfl (by decide +kernel) ⟨Nat.le_of_ble_eq_true rfl, Nat.le_of_ble_eq_true rfl⟩) (wz_pVr (hP.sub (ws' := [(h1, .inr (3, [.ref h2, .int v1_kind])), (h2, .inl (k2, 3, .inl c2))]) [1, 2] rfl) (hK.sub (tys' := [(k2, .int)]) [0] rfl) (va_recv hK hP (ci := 3) (q0 := 1) rfl rfl)) rfl rfl hl.1 rfl (lv_room (Nat.le_of_ble_eq_true rfl)) dX5_take_90 ⟨Nat.zero_le _, Nat.zero_le _⟩) ?_
        refine va_put (D := (dC, dI)) (ci := 5) (v := .int q90) (ty := .int) (C := RX5) (T := TX5) (N := 10) hx hb hts hinX5 tyX5 tyX5_ok nmX5 hown hK hP hD hS 0 rfl rfl 7 (by decide) (hts (.fieldLink RX5 40 "WasItOut$Law" "wicketSide" "I") (by decide +kernel)) (fun _ h9 => h9) rfl (by decide +kernel) rfl rfl (Nat.le_of_ble_eq_true rfl) dX5_take_93 (fun H locs hP hD hS => ?_)
        have hP : va_P (dC, dI) vwCl [(h0, .inr (5, [.ref h5, .ref h3, .ref h4, .ref h1, .int v0_lineCount, .int (1 : Int32), .int q78, .int q90, .int v0_wicketHigh, g0_items])), (h1, .inr (3, [.ref h2, .int v1_kind])), (h2, .inl (k2, 3, .inl c2)), (h3, .inl (k3, 40, .inl c3)), (h4, .inl (k4, 40, .inl c4)), (h5, .inl (k5, 6, .inl c5))] H := hP
        have hD : va_D A [(h0, .inr (5, [.ref h5, .ref h3, .ref h4, .ref h1, .int v0_lineCount, .int (1 : Int32), .int q78, .int q90, .int v0_wicketHigh, g0_items])), (h1, .inr (3, [.ref h2, .int v1_kind])), (h2, .inl (k2, 3, .inl c2)), (h3, .inl (k3, 40, .inl c3)), (h4, .inl (k4, 40, .inl c4)), (h5, .inl (k5, 6, .inl c5))] := hD
        refine lv_aload_n hx hb dX5_take_96 rfl (lv_at hl 0 rfl) ?_
        refine lv_aload_n hx hb dX5_take_97 rfl (lv_at hl 0 rfl) ?_
        refine va_get (D := (dC, dI)) (ci := 5) (v := .ref h1) (C := RX5) (T := TX5) (N := 10) hx hb hts hinX5 hown hK hP 0 rfl rfl 3 (by decide) (hts (.fieldLink RX5 22 "WasItOut$Law" "item" "LWasItOut$Item;") (by decide +kernel)) (fun _ h9 => h9) rfl dX5_take_98 ?_
        refine lv_iconst (v := (2 : Int32)) hx hb dX5_take_101 (by decide) ?_
        obtain ⟨q102, hc102, hrun⟩ := ob_e hrun
        refine wz_csi (va_runV (As := [.int (2 : Int32)]) (rest := [.ref h0]) ⟨hx, hb, hml, hown, hts⟩ (tX3_number l dC dI h1 h2 k2 (.int v1_kind) N ((2 : Int32)) c2 q102 hc102) (cwV 1 hts gX5_take_X3_number rfl rfl rfl (by decide +kernel) ⟨Nat.le_of_ble_eq_true rfl, Nat.le_of_ble_eq_true rfl⟩) (wz_pVr (hP.sub (ws' := [(h1, .inr (3, [.ref h2, .int v1_kind])), (h2, .inl (k2, 3, .inl c2))]) [1, 2] rfl) (hK.sub (tys' := [(k2, .int)]) [0] rfl) (va_recv hK hP (ci := 3) (q0 := 1) rfl rfl)) rfl rfl hl.1 rfl (lv_room (Nat.le_of_ble_eq_true rfl)) dX5_take_102 ⟨Nat.zero_le _, Nat.zero_le _⟩) ?_
        refine va_put (D := (dC, dI)) (ci := 5) (v := .int q102) (ty := .int) (C := RX5) (T := TX5) (N := 10) hx hb hts hinX5 tyX5 tyX5_ok nmX5 hown hK hP hD hS 0 rfl rfl 8 (by decide) (hts (.fieldLink RX5 43 "WasItOut$Law" "wicketHigh" "I") (by decide +kernel)) (fun _ h9 => h9) rfl (by decide +kernel) rfl rfl (Nat.le_of_ble_eq_true rfl) dX5_take_105 (fun H locs hP hD hS => ?_)
        have hP : va_P (dC, dI) vwCl [(h0, .inr (5, [.ref h5, .ref h3, .ref h4, .ref h1, .int v0_lineCount, .int (1 : Int32), .int q78, .int q90, .int q102, g0_items])), (h1, .inr (3, [.ref h2, .int v1_kind])), (h2, .inl (k2, 3, .inl c2)), (h3, .inl (k3, 40, .inl c3)), (h4, .inl (k4, 40, .inl c4)), (h5, .inl (k5, 6, .inl c5))] H := hP
        have hD : va_D A [(h0, .inr (5, [.ref h5, .ref h3, .ref h4, .ref h1, .int v0_lineCount, .int (1 : Int32), .int q78, .int q90, .int q102, g0_items])), (h1, .inr (3, [.ref h2, .int v1_kind])), (h2, .inl (k2, 3, .inl c2)), (h3, .inl (k3, 40, .inl c3)), (h4, .inl (k4, 40, .inl c4)), (h5, .inl (k5, 6, .inl c5))] := hD
        cases hrun
        have hP9 : va_P (dC, dI) vwCl [(h0, .inr (5, [.ref h5, .ref h3, .ref h4, .ref h1, .int v0_lineCount, .int (1 : Int32), .int q78, .int q90, .int q102, g0_items])), (h1, .inr (3, [.ref h2, .int v1_kind])), (h2, .inl (k2, 3, .inl c2)), (h3, .inl (k3, 40, .inl c3)), (h4, .inl (k4, 40, .inl c4)), (h5, .inl (k5, 6, .inl c5))] H := hP
        have hD9 : va_D A [(h0, .inr (5, [.ref h5, .ref h3, .ref h4, .ref h1, .int v0_lineCount, .int (1 : Int32), .int q78, .int q90, .int q102, g0_items])), (h1, .inr (3, [.ref h2, .int v1_kind])), (h2, .inl (k2, 3, .inl c2)), (h3, .inl (k3, 40, .inl c3)), (h4, .inl (k4, 40, .inl c4)), (h5, .inl (k5, 6, .inl c5))] := hD
        exact W.vret hx hb hr (fun t ht hW => ⟨⟨(), rfl, trivial, by rw [ht]; exact hP9, va_K.moved hW.alike hK, hD9⟩, hS.F ht⟩) hS.2.2 dX5_take_108
      · have hrun := oi_n hrun cc
        refine lv_aload_n hx hb dX5_take_44 rfl (lv_at hl 0 rfl) ?_
        refine lv_aload_n hx hb dX5_take_45 rfl (lv_at hl 0 rfl) ?_
        refine va_get (D := (dC, dI)) (ci := 5) (v := .ref h1) (C := RX5) (T := TX5) (N := 10) hx hb hts hinX5 hown hK hP 0 rfl rfl 3 (by decide) (hts (.fieldLink RX5 22 "WasItOut$Law" "item" "LWasItOut$Item;") (by decide +kernel)) (fun _ h9 => h9) rfl dX5_take_46 ?_
        refine lv_iconst (v := (0 : Int32)) hx hb dX5_take_49 (by decide) ?_
        obtain ⟨q50, hc50, hrun⟩ := ob_e hrun
        refine wz_csi (va_runV (As := [.int (0 : Int32)]) (rest := [.ref h0]) ⟨hx, hb, hml, hown, hts⟩ (tX3_number l dC dI h1 h2 k2 (.int v1_kind) N ((0 : Int32)) c2 q50 hc50) (cwV 1 hts gX5_take_X3_number rfl rfl rfl (by decide +kernel) ⟨Nat.le_of_ble_eq_true rfl, Nat.le_of_ble_eq_true rfl⟩) (wz_pVr (hP.sub (ws' := [(h1, .inr (3, [.ref h2, .int v1_kind])), (h2, .inl (k2, 3, .inl c2))]) [1, 2] rfl) (hK.sub (tys' := [(k2, .int)]) [0] rfl) (va_recv hK hP (ci := 3) (q0 := 1) rfl rfl)) rfl rfl hl.1 rfl (lv_room (Nat.le_of_ble_eq_true rfl)) dX5_take_50 ⟨Nat.zero_le _, Nat.zero_le _⟩) ?_
        refine lv_aload_n hx hb dX5_take_53 rfl (lv_at hl 0 rfl) ?_
        refine va_get (D := (dC, dI)) (ci := 5) (v := .ref h1) (C := RX5) (T := TX5) (N := 10) hx hb hts hinX5 hown hK hP 0 rfl rfl 3 (by decide) (hts (.fieldLink RX5 22 "WasItOut$Law" "item" "LWasItOut$Item;") (by decide +kernel)) (fun _ h9 => h9) rfl dX5_take_54 ?_
        refine lv_iconst (v := (1 : Int32)) hx hb dX5_take_57 (by decide) ?_
        obtain ⟨q58, hc58, hrun⟩ := ob_e hrun
        refine wz_csi (va_runV (As := [.int (1 : Int32)]) (rest := [.int q50, .ref h0]) ⟨hx, hb, hml, hown, hts⟩ (tX3_number l dC dI h1 h2 k2 (.int v1_kind) N ((1 : Int32)) c2 q58 hc58) (cwV 1 hts gX5_take_X3_number rfl rfl rfl (by decide +kernel) ⟨Nat.le_of_ble_eq_true rfl, Nat.le_of_ble_eq_true rfl⟩) (wz_pVr (hP.sub (ws' := [(h1, .inr (3, [.ref h2, .int v1_kind])), (h2, .inl (k2, 3, .inl c2))]) [1, 2] rfl) (hK.sub (tys' := [(k2, .int)]) [0] rfl) (va_recv hK hP (ci := 3) (q0 := 1) rfl rfl)) rfl rfl hl.1 rfl (lv_room (Nat.le_of_ble_eq_true rfl)) dX5_take_58 ⟨Nat.zero_le _, Nat.zero_le _⟩) ?_
        obtain ⟨q61, hc61, hrun⟩ := ob_e hrun
        refine wz_cqv (WC := [(h0, .inr (5, [.ref h5, .ref h3, .ref h4, .ref h1, .int v0_lineCount, .int v0_wicketStands, .int v0_wicketX, .int v0_wicketSide, .int v0_wicketHigh, g0_items])), (h3, .inl (k3, 40, .inl c3)), (h4, .inl (k4, 40, .inl c4))]) (WR := [(h1, .inr (3, [.ref h2, .int v1_kind])), (h2, .inl (k2, 3, .inl c2)), (h5, .inl (k5, 6, .inl c5))]) (W1 := [(h0, .inr (5, [.ref h5, .ref h3, .ref h4, .ref h1, .int q61.1, .int v0_wicketStands, .int v0_wicketX, .int v0_wicketSide, .int v0_wicketHigh, g0_items])), (h3, .inl (k3, 40, .inl q61.2.1)), (h4, .inl (k4, 40, .inl q61.2.2))]) (va_runV (As := [.int q50, .int q58]) (rest := []) ⟨hx, hb, hml, hown, hts⟩ (tX5_paint l dC dI H.size h0 h3 h4 k3 k4 (.ref h5) (.ref h1) (.int v0_wicketStands) (.int v0_wicketX) (.int v0_wicketSide) (.int v0_wicketHigh) (g0_items) N q50 q58 v0_lineCount c3 c4 q61 hc61) (cwV 2 hts gX5_take_X5_paint rfl rfl rfl (by decide +kernel) ⟨Nat.le_of_ble_eq_true rfl, Nat.le_of_ble_eq_true rfl⟩) (wz_pVw (hP.sub (ws' := [(h0, .inr (5, [.ref h5, .ref h3, .ref h4, .ref h1, .int v0_lineCount, .int v0_wicketStands, .int v0_wicketX, .int v0_wicketSide, .int v0_wicketHigh, g0_items])), (h3, .inl (k3, 40, .inl c3)), (h4, .inl (k4, 40, .inl c4))]) [0, 3, 4] rfl) (hK.sub (tys' := [(k3, .int), (k4, .int)]) [1, 2] rfl) (hD.sub (ws' := [(h0, .inr (5, [.ref h5, .ref h3, .ref h4, .ref h1, .int v0_lineCount, .int v0_wicketStands, .int v0_wicketX, .int v0_wicketSide, .int v0_wicketHigh, g0_items])), (h3, .inl (k3, 40, .inl c3)), (h4, .inl (k4, 40, .inl c4))]) [0, 3, 4] (by decide) rfl) (va_recv hK hP (ci := 5) (q0 := 0) rfl rfl)) rfl rfl hl.1 rfl (lv_room (Nat.le_of_ble_eq_true rfl)) dX5_take_61 ⟨Nat.zero_le _, Nat.zero_le _⟩) hP hD hS hA [0, 3, 4] [1, 2, 5] rfl rfl (by decide) (by decide) (fun H locs hP hD hS => ?_)
        have hP : va_P (dC, dI) vwCl [(h1, .inr (3, [.ref h2, .int v1_kind])), (h2, .inl (k2, 3, .inl c2)), (h5, .inl (k5, 6, .inl c5)), (h0, .inr (5, [.ref h5, .ref h3, .ref h4, .ref h1, .int q61.1, .int v0_wicketStands, .int v0_wicketX, .int v0_wicketSide, .int v0_wicketHigh, g0_items])), (h3, .inl (k3, 40, .inl q61.2.1)), (h4, .inl (k4, 40, .inl q61.2.2))] H := hP
        have hD : va_D A [(h1, .inr (3, [.ref h2, .int v1_kind])), (h2, .inl (k2, 3, .inl c2)), (h5, .inl (k5, 6, .inl c5)), (h0, .inr (5, [.ref h5, .ref h3, .ref h4, .ref h1, .int q61.1, .int v0_wicketStands, .int v0_wicketX, .int v0_wicketSide, .int v0_wicketHigh, g0_items])), (h3, .inl (k3, 40, .inl q61.2.1)), (h4, .inl (k4, 40, .inl q61.2.2))] := hD
        refine lv_goto (tgt := 108) hx hb dX5_take_64 (by decide) ?_
        cases hrun
        have hP9 : va_P (dC, dI) vwCl [(h0, .inr (5, [.ref h5, .ref h3, .ref h4, .ref h1, .int q61.1, .int v0_wicketStands, .int v0_wicketX, .int v0_wicketSide, .int v0_wicketHigh, g0_items])), (h1, .inr (3, [.ref h2, .int v1_kind])), (h2, .inl (k2, 3, .inl c2)), (h3, .inl (k3, 40, .inl q61.2.1)), (h4, .inl (k4, 40, .inl q61.2.2)), (h5, .inl (k5, 6, .inl c5))] H := (hP.sub [3, 0, 1, 4, 5, 2] rfl)
        have hD9 : va_D A [(h0, .inr (5, [.ref h5, .ref h3, .ref h4, .ref h1, .int q61.1, .int v0_wicketStands, .int v0_wicketX, .int v0_wicketSide, .int v0_wicketHigh, g0_items])), (h1, .inr (3, [.ref h2, .int v1_kind])), (h2, .inl (k2, 3, .inl c2)), (h3, .inl (k3, 40, .inl q61.2.1)), (h4, .inl (k4, 40, .inl q61.2.2)), (h5, .inl (k5, 6, .inl c5))] := (hD.sub [3, 0, 1, 4, 5, 2] (by decide) rfl)
        exact W.vret hx hb hr (fun t ht hW => ⟨⟨(), rfl, trivial, by rw [ht]; exact hP9, va_K.moved hW.alike hK, hD9⟩, hS.F ht⟩) hS.2.2 dX5_take_108
    refine lv_if_lt (tgt := 38) hx hb dX5_take_9 (by decide) (fun cc => ?_) (fun cc => ?_)
    · have hrun := oi_t hrun cc
      exact J38 (()) ls H locs hrun hP hD hS (lv_sub hl [1, 0] rfl)
    · have hrun := oi_f hrun cc
      refine lv_iload_n hx hb dX5_take_12 rfl (lv_at hl 0 rfl) ?_
      refine lv_aload_n hx hb dX5_take_13 rfl (lv_at hl 1 rfl) ?_
      refine va_get (D := (dC, dI)) (ci := 5) (v := .ref h5) (C := RX5) (T := TX5) (N := 10) hx hb hts hinX5 hown hK hP 0 rfl rfl 0 (by decide) (hts (.fieldLink RX5 9 "WasItOut$Law" "numbers" "[I") (by decide +kernel)) (fun _ h9 => h9) rfl dX5_take_14 ?_
      refine va_alen (v := (6 : Int32)) hx hb hK hP 5 3 rfl rfl (by first | rfl | decide) dX5_take_17 ?_
      refine lv_icmp_ge (tgt := 38) hx hb dX5_take_18 (by decide) (fun cc => ?_) (fun cc => ?_)
      · have hrun := oi_t hrun cc
        exact J38 (()) ls H locs hrun hP hD hS (lv_sub hl [1, 0] rfl)
      · have hrun := oi_f hrun cc
        refine lv_aload_n hx hb dX5_take_21 rfl (lv_at hl 1 rfl) ?_
        refine va_get (D := (dC, dI)) (ci := 5) (v := .ref h5) (C := RX5) (T := TX5) (N := 10) hx hb hts hinX5 hown hK hP 0 rfl rfl 0 (by decide) (hts (.fieldLink RX5 9 "WasItOut$Law" "numbers" "[I") (by decide +kernel)) (fun _ h9 => h9) rfl dX5_take_22 ?_
        refine lv_iload_n hx hb dX5_take_25 rfl (lv_at hl 0 rfl) ?_
        refine lv_aload_n hx hb dX5_take_26 rfl (lv_at hl 1 rfl) ?_
        refine va_get (D := (dC, dI)) (ci := 5) (v := .ref h1) (C := RX5) (T := TX5) (N := 10) hx hb hts hinX5 hown hK hP 0 rfl rfl 3 (by decide) (hts (.fieldLink RX5 22 "WasItOut$Law" "item" "LWasItOut$Item;") (by decide +kernel)) (fun _ h9 => h9) rfl dX5_take_27 ?_
        refine lv_iconst (v := (0 : Int32)) hx hb dX5_take_30 (by decide) ?_
        obtain ⟨q31, hc31, hrun⟩ := ob_e hrun
        refine wz_csi (va_runV (As := [.int (0 : Int32)]) (rest := [.int q4, .ref h5]) ⟨hx, hb, hml, hown, hts⟩ (tX3_number l dC dI h1 h2 k2 (.int v1_kind) N ((0 : Int32)) c2 q31 hc31) (cwV 1 hts gX5_take_X3_number rfl rfl rfl (by decide +kernel) ⟨Nat.le_of_ble_eq_true rfl, Nat.le_of_ble_eq_true rfl⟩) (wz_pVr (hP.sub (ws' := [(h1, .inr (3, [.ref h2, .int v1_kind])), (h2, .inl (k2, 3, .inl c2))]) [1, 2] rfl) (hK.sub (tys' := [(k2, .int)]) [0] rfl) (va_recv hK hP (ci := 3) (q0 := 1) rfl rfl)) rfl rfl hl.1 rfl (lv_room (Nat.le_of_ble_eq_true rfl)) dX5_take_31 ⟨Nat.zero_le _, Nat.zero_le _⟩) ?_
        obtain ⟨hi, hrun⟩ := oi_x hrun
        refine va_iast hx hb hK hP hD hS 5 3 rfl rfl hi dX5_take_34 (fun H locs hP hD hS => ?_)
        have hP : va_P (dC, dI) vwCl [(h0, .inr (5, [.ref h5, .ref h3, .ref h4, .ref h1, .int v0_lineCount, .int v0_wicketStands, .int v0_wicketX, .int v0_wicketSide, .int v0_wicketHigh, g0_items])), (h1, .inr (3, [.ref h2, .int v1_kind])), (h2, .inl (k2, 3, .inl c2)), (h3, .inl (k3, 40, .inl c3)), (h4, .inl (k4, 40, .inl c4)), (h5, .inl (k5, 6, .inl (upd c5 q4.toNatClampNeg q31)))] H := hP
        have hD : va_D A [(h0, .inr (5, [.ref h5, .ref h3, .ref h4, .ref h1, .int v0_lineCount, .int v0_wicketStands, .int v0_wicketX, .int v0_wicketSide, .int v0_wicketHigh, g0_items])), (h1, .inr (3, [.ref h2, .int v1_kind])), (h2, .inl (k2, 3, .inl c2)), (h3, .inl (k3, 40, .inl c3)), (h4, .inl (k4, 40, .inl c4)), (h5, .inl (k5, 6, .inl (upd c5 q4.toNatClampNeg q31)))] := hD
        refine lv_goto (tgt := 108) hx hb dX5_take_35 (by decide) ?_
        cases hrun
        have hP9 : va_P (dC, dI) vwCl [(h0, .inr (5, [.ref h5, .ref h3, .ref h4, .ref h1, .int v0_lineCount, .int v0_wicketStands, .int v0_wicketX, .int v0_wicketSide, .int v0_wicketHigh, g0_items])), (h1, .inr (3, [.ref h2, .int v1_kind])), (h2, .inl (k2, 3, .inl c2)), (h3, .inl (k3, 40, .inl c3)), (h4, .inl (k4, 40, .inl c4)), (h5, .inl (k5, 6, .inl (upd c5 q4.toNatClampNeg q31)))] H := hP
        have hD9 : va_D A [(h0, .inr (5, [.ref h5, .ref h3, .ref h4, .ref h1, .int v0_lineCount, .int v0_wicketStands, .int v0_wicketX, .int v0_wicketSide, .int v0_wicketHigh, g0_items])), (h1, .inr (3, [.ref h2, .int v1_kind])), (h2, .inl (k2, 3, .inl c2)), (h3, .inl (k3, 40, .inl c3)), (h4, .inl (k4, 40, .inl c4)), (h5, .inl (k5, 6, .inl (upd c5 q4.toNatClampNeg q31)))] := hD
        exact W.vret hx hb hr (fun t ht hW => ⟨⟨(), rfl, trivial, by rw [ht]; exact hP9, va_K.moved hW.alike hK, hD9⟩, hS.F ht⟩) hS.2.2 dX5_take_108
  rw [hHe, hLe] at key
  exact key
set_option maxHeartbeats 4000000 in
set_option maxRecDepth 100000 in
theorem tX5_read (l : Launch) (dC : Nat → ClassId) (dI : Nat → Nat → Nat) (t : Nat → Nat) (sz : Nat) (h0 h1 h2 h3 h4 h5 h6 h7 : Nat) (k2 k3 k4 k5 k7 : ClassId) (g6_item : Value) (N : Nat)  (v0_lineCount : Int32) (v0_wicketStands : Int32) (v0_wicketX : Int32) (v0_wicketSide : Int32) (v0_wicketHigh : Int32) (v0_items : Int32) (v1_kind : Int32) (c2 : Nat → Int32) (c3 : Nat → Int32) (c4 : Nat → Int32) (c5 : Nat → Int32) (v6_length : Int32) (c7 : Nat → Int32) (ru : (Int32) × (Int32) × (Int32) × (Int32) × (Int32) × (Int32) × (Int32) × (Nat → Int32) × (Nat → Int32) × (Nat → Int32) × (Nat → Int32)) (hm : fX5_read N v0_lineCount v0_wicketStands v0_wicketX v0_wicketSide v0_wicketHigh v0_items v1_kind c2 c3 c4 c5 v6_length c7 = some ru) : Met l yX5_read wsX5_read ({ frames := 3, cells := 0, slots := 0, locals := 74 } : Room) (va_Pc [.ref h0, .ref h6] (fun U => U.heap.size = sz ∧ va_P (dC, dI) vwCl [(h0, .inr (5, [.ref h5, .ref h3, .ref h4, .ref h1, .int v0_lineCount, .int v0_wicketStands, .int v0_wicketX, .int v0_wicketSide, .int v0_wicketHigh, .int v0_items])), (h1, .inr (3, [.ref h2, .int v1_kind])), (h2, .inl (k2, 3, .inl c2)), (h3, .inl (k3, 40, .inl c3)), (h4, .inl (k4, 40, .inl c4)), (h5, .inl (k5, 6, .inl c5)), (h6, .inr (6, [.ref h7, g6_item, .int v6_length])), (h7, .inl (k7, 200, .inl c7))] U.heap ∧ va_K (dC, dI) vwCl [(k2, .int), (k3, .int), (k4, .int), (k5, .int), (k7, .int)] U ∧ va_D (fun _ => True) [(h0, .inr (5, [.ref h5, .ref h3, .ref h4, .ref h1, .int v0_lineCount, .int v0_wicketStands, .int v0_wicketX, .int v0_wicketSide, .int v0_wicketHigh, .int v0_items])), (h1, .inr (3, [.ref h2, .int v1_kind])), (h2, .inl (k2, 3, .inl c2)), (h3, .inl (k3, 40, .inl c3)), (h4, .inl (k4, 40, .inl c4)), (h5, .inl (k5, 6, .inl c5)), (h6, .inr (6, [.ref h7, g6_item, .int v6_length])), (h7, .inl (k7, 200, .inl c7))] ∧ gG t (va_A [(h0, .inr (5, [.ref h5, .ref h3, .ref h4, .ref h1, .int v0_lineCount, .int v0_wicketStands, .int v0_wicketX, .int v0_wicketSide, .int v0_wicketHigh, .int v0_items])), (h1, .inr (3, [.ref h2, .int v1_kind])), (h2, .inl (k2, 3, .inl c2)), (h3, .inl (k3, 40, .inl c3)), (h4, .inl (k4, 40, .inl c4)), (h5, .inl (k5, 6, .inl c5)), (h6, .inr (6, [.ref h7, g6_item, .int v6_length])), (h7, .inl (k7, 200, .inl c7))] sz) U U.heap)) (va_Qv (fun (_ : Unit) => True) (fun (_ : Unit) t => va_P (dC, dI) vwCl [(h0, .inr (5, [.ref h5, .ref h3, .ref h4, .ref h1, .int ru.1, .int ru.2.1, .int ru.2.2.1, .int ru.2.2.2.1, .int ru.2.2.2.2.1, .int ru.2.2.2.2.2.1])), (h1, .inr (3, [.ref h2, .int ru.2.2.2.2.2.2.1])), (h2, .inl (k2, 3, .inl ru.2.2.2.2.2.2.2.1)), (h3, .inl (k3, 40, .inl ru.2.2.2.2.2.2.2.2.1)), (h4, .inl (k4, 40, .inl ru.2.2.2.2.2.2.2.2.2.1)), (h5, .inl (k5, 6, .inl ru.2.2.2.2.2.2.2.2.2.2)), (h6, .inr (6, [.ref h7, g6_item, .int v6_length])), (h7, .inl (k7, 200, .inl c7))] t.heap ∧ va_K (dC, dI) vwCl [(k2, .int), (k3, .int), (k4, .int), (k5, .int), (k7, .int)] t ∧ va_D (va_A [(h0, .inr (5, [.ref h5, .ref h3, .ref h4, .ref h1, .int v0_lineCount, .int v0_wicketStands, .int v0_wicketX, .int v0_wicketSide, .int v0_wicketHigh, .int v0_items])), (h1, .inr (3, [.ref h2, .int v1_kind])), (h2, .inl (k2, 3, .inl c2)), (h3, .inl (k3, 40, .inl c3)), (h4, .inl (k4, 40, .inl c4)), (h5, .inl (k5, 6, .inl c5)), (h6, .inr (6, [.ref h7, g6_item, .int v6_length])), (h7, .inl (k7, 200, .inl c7))] sz) [(h0, .inr (5, [.ref h5, .ref h3, .ref h4, .ref h1, .int ru.1, .int ru.2.1, .int ru.2.2.1, .int ru.2.2.2.1, .int ru.2.2.2.2.1, .int ru.2.2.2.2.2.1])), (h1, .inr (3, [.ref h2, .int ru.2.2.2.2.2.2.1])), (h2, .inl (k2, 3, .inl ru.2.2.2.2.2.2.2.1)), (h3, .inl (k3, 40, .inl ru.2.2.2.2.2.2.2.2.1)), (h4, .inl (k4, 40, .inl ru.2.2.2.2.2.2.2.2.2.1)), (h5, .inl (k5, 6, .inl ru.2.2.2.2.2.2.2.2.2.2)), (h6, .inr (6, [.ref h7, g6_item, .int v6_length])), (h7, .inl (k7, 200, .inl c7))]) (va_A [(h0, .inr (5, [.ref h5, .ref h3, .ref h4, .ref h1, .int v0_lineCount, .int v0_wicketStands, .int v0_wicketX, .int v0_wicketSide, .int v0_wicketHigh, .int v0_items])), (h1, .inr (3, [.ref h2, .int v1_kind])), (h2, .inl (k2, 3, .inl c2)), (h3, .inl (k3, 40, .inl c3)), (h4, .inl (k4, 40, .inl c4)), (h5, .inl (k5, 6, .inl c5)), (h6, .inr (6, [.ref h7, g6_item, .int v6_length])), (h7, .inl (k7, 200, .inl c7))] sz)) 0 0 (va_A [(h0, .inr (5, [.ref h5, .ref h3, .ref h4, .ref h1, .int v0_lineCount, .int v0_wicketStands, .int v0_wicketX, .int v0_wicketSide, .int v0_wicketHigh, .int v0_items])), (h1, .inr (3, [.ref h2, .int v1_kind])), (h2, .inl (k2, 3, .inl c2)), (h3, .inl (k3, 40, .inl c3)), (h4, .inl (k4, 40, .inl c4)), (h5, .inl (k5, 6, .inl c5)), (h6, .inr (6, [.ref h7, g6_item, .int v6_length])), (h7, .inl (k7, 200, .inl c7))] sz) := by
  refine Met.ofW (cc := cX5_read) (maxL := 4) (ret := none) (by decide) rfl ?_
  intro p e s m args below meth c s₁ B hml hv
  obtain ⟨rfl, hsz, hP, hK, hD0, hG⟩ := hv
  have hx := B.exec
  have hb := B.bytes
  have hr := B.returns
  have hts := atoms_spec (ws := wsX5_read) B.pre
  have hown : s.vm.findClass RX5 = some m.cls := findClass_of_methodNamed B.named
  have hlocks := B.notSynchronized
  subst hsz
  have hD := hD0.self (sz := s.heap.size)
  generalize hAe : va_A [(h0, .inr (5, [.ref h5, .ref h3, .ref h4, .ref h1, .int v0_lineCount, .int v0_wicketStands, .int v0_wicketX, .int v0_wicketSide, .int v0_wicketHigh, .int v0_items])), (h1, .inr (3, [.ref h2, .int v1_kind])), (h2, .inl (k2, 3, .inl c2)), (h3, .inl (k3, 40, .inl c3)), (h4, .inl (k4, 40, .inl c4)), (h5, .inl (k5, 6, .inl c5)), (h6, .inr (6, [.ref h7, g6_item, .int v6_length])), (h7, .inl (k7, 200, .inl c7))] s.heap.size = A at hD hG ⊢
  have hA : ∀ q : Nat, s.heap.size ≤ q → A q := fun q h => by rw [← hAe]; exact Or.inr h
  have hS : va_S A s.heap s.heap [] := va_S.rf
  have hinX5 : ∀ w ∈ wsX50, w ∈ wsX5_read := by decide +kernel
  have hl := lv_entry ([.ref h0, .ref h6]) (n := 4) (Nat.le_of_ble_eq_true rfl)
  rw [lg_entry_eq]
  generalize (lg_sl ([.ref h0, .ref h6]) ++ List.replicate (4 - (lg_sl ([.ref h0, .ref h6])).length) Slot.unset).toArray = ls at hl ⊢
  have hl : lv_has ls 4 [(0, .ref h0), (1, .ref h6)] := hl
  have hrun := hm
  rw [fX5_read] at hrun
  obtain ⟨H, hHe⟩ : ∃ H, H = s.heap := ⟨_, rfl⟩
  obtain ⟨locs, hLe⟩ : ∃ locs : List Loc, locs = [] := ⟨_, rfl⟩
  rw [← hHe] at hP
  have hS : va_S A s.heap H locs := by rw [hHe, hLe]; exact hS
  have key : W p l e (headSpec wsX5_read ({ frames := 3, cells := 0, slots := 0, locals := 74 } : Room)).room s m ([.ref h0, .ref h6] : List Value).toArray below meth c H locs 0 0 (MQ below (va_Qv (fun (_ : Unit) => True) (fun (_ : Unit) t => va_P (dC, dI) vwCl [(h0, .inr (5, [.ref h5, .ref h3, .ref h4, .ref h1, .int ru.1, .int ru.2.1, .int ru.2.2.1, .int ru.2.2.2.1, .int ru.2.2.2.2.1, .int ru.2.2.2.2.2.1])), (h1, .inr (3, [.ref h2, .int ru.2.2.2.2.2.2.1])), (h2, .inl (k2, 3, .inl ru.2.2.2.2.2.2.2.1)), (h3, .inl (k3, 40, .inl ru.2.2.2.2.2.2.2.2.1)), (h4, .inl (k4, 40, .inl ru.2.2.2.2.2.2.2.2.2.1)), (h5, .inl (k5, 6, .inl ru.2.2.2.2.2.2.2.2.2.2)), (h6, .inr (6, [.ref h7, g6_item, .int v6_length])), (h7, .inl (k7, 200, .inl c7))] t.heap ∧ va_K (dC, dI) vwCl [(k2, .int), (k3, .int), (k4, .int), (k5, .int), (k7, .int)] t ∧ va_D A [(h0, .inr (5, [.ref h5, .ref h3, .ref h4, .ref h1, .int ru.1, .int ru.2.1, .int ru.2.2.1, .int ru.2.2.2.1, .int ru.2.2.2.2.1, .int ru.2.2.2.2.2.1])), (h1, .inr (3, [.ref h2, .int ru.2.2.2.2.2.2.1])), (h2, .inl (k2, 3, .inl ru.2.2.2.2.2.2.2.1)), (h3, .inl (k3, 40, .inl ru.2.2.2.2.2.2.2.2.1)), (h4, .inl (k4, 40, .inl ru.2.2.2.2.2.2.2.2.2.1)), (h5, .inl (k5, 6, .inl ru.2.2.2.2.2.2.2.2.2.2)), (h6, .inr (6, [.ref h7, g6_item, .int v6_length])), (h7, .inl (k7, 200, .inl c7))]) A) ([.ref h0, .ref h6] : List Value).toArray s 0 0 A) (F0 m 0 ls []) := by
    clear hHe hLe
    refine lv_aload_n hx hb dX5_read_0 rfl (lv_at hl 0 rfl) ?_
    obtain ⟨q1, hc1, hrun⟩ := ob_e hrun
    refine wz_cqv (WC := [(h0, .inr (5, [.ref h5, .ref h3, .ref h4, .ref h1, .int v0_lineCount, .int v0_wicketStands, .int v0_wicketX, .int v0_wicketSide, .int v0_wicketHigh, .int v0_items])), (h5, .inl (k5, 6, .inl c5))]) (WR := [(h1, .inr (3, [.ref h2, .int v1_kind])), (h2, .inl (k2, 3, .inl c2)), (h3, .inl (k3, 40, .inl c3)), (h4, .inl (k4, 40, .inl c4)), (h6, .inr (6, [.ref h7, g6_item, .int v6_length])), (h7, .inl (k7, 200, .inl c7))]) (W1 := [(h0, .inr (5, [.ref h5, .ref h3, .ref h4, .ref h1, .int q1.1, .int q1.2.1, .int v0_wicketX, .int v0_wicketSide, .int v0_wicketHigh, .int q1.2.2.1])), (h5, .inl (k5, 6, .inl q1.2.2.2))]) (va_runV (As := []) (rest := []) ⟨hx, hb, hml, hown, hts⟩ (tX5_reset l dC dI t H.size h0 h5 k5 (.ref h3) (.ref h4) (.ref h1) (.int v0_wicketX) (.int v0_wicketSide) (.int v0_wicketHigh) N v0_lineCount v0_wicketStands v0_items c5 q1 hc1) (cwV 0 hts gX5_read_X5_reset rfl rfl rfl (by decide +kernel) ⟨Nat.le_of_ble_eq_true rfl, Nat.le_of_ble_eq_true rfl⟩) (wz_pVwG (hP.sub (ws' := [(h0, .inr (5, [.ref h5, .ref h3, .ref h4, .ref h1, .int v0_lineCount, .int v0_wicketStands, .int v0_wicketX, .int v0_wicketSide, .int v0_wicketHigh, .int v0_items])), (h5, .inl (k5, 6, .inl c5))]) [0, 5] rfl) (hK.sub (tys' := [(k5, .int)]) [3] rfl) (hD.sub (ws' := [(h0, .inr (5, [.ref h5, .ref h3, .ref h4, .ref h1, .int v0_lineCount, .int v0_wicketStands, .int v0_wicketX, .int v0_wicketSide, .int v0_wicketHigh, .int v0_items])), (h5, .inl (k5, 6, .inl c5))]) [0, 5] (by decide) rfl) hG hS (va_free (wc := [(h0, .inr (5, [.ref h5, .ref h3, .ref h4, .ref h1, .int v0_lineCount, .int v0_wicketStands, .int v0_wicketX, .int v0_wicketSide, .int v0_wicketHigh, .int v0_items])), (h5, .inl (k5, 6, .inl c5))]) hD hS hA [0, 5] rfl) (va_recv hK hP (ci := 5) (q0 := 0) rfl rfl)) rfl rfl hl.1 rfl (lv_room (Nat.le_of_ble_eq_true rfl)) dX5_read_1 ⟨Nat.zero_le _, Nat.zero_le _⟩) hP hD hS hA [0, 5] [1, 2, 3, 4, 6, 7] rfl rfl (by decide) (by decide) (fun H locs hP hD hS => ?_)
    have hP : va_P (dC, dI) vwCl [(h1, .inr (3, [.ref h2, .int v1_kind])), (h2, .inl (k2, 3, .inl c2)), (h3, .inl (k3, 40, .inl c3)), (h4, .inl (k4, 40, .inl c4)), (h6, .inr (6, [.ref h7, g6_item, .int v6_length])), (h7, .inl (k7, 200, .inl c7)), (h0, .inr (5, [.ref h5, .ref h3, .ref h4, .ref h1, .int q1.1, .int q1.2.1, .int v0_wicketX, .int v0_wicketSide, .int v0_wicketHigh, .int q1.2.2.1])), (h5, .inl (k5, 6, .inl q1.2.2.2))] H := hP
    have hD : va_D A [(h1, .inr (3, [.ref h2, .int v1_kind])), (h2, .inl (k2, 3, .inl c2)), (h3, .inl (k3, 40, .inl c3)), (h4, .inl (k4, 40, .inl c4)), (h6, .inr (6, [.ref h7, g6_item, .int v6_length])), (h7, .inl (k7, 200, .inl c7)), (h0, .inr (5, [.ref h5, .ref h3, .ref h4, .ref h1, .int q1.1, .int q1.2.1, .int v0_wicketX, .int v0_wicketSide, .int v0_wicketHigh, .int q1.2.2.1])), (h5, .inl (k5, 6, .inl q1.2.2.2))] := hD
    refine lv_iconst (v := (0 : Int32)) hx hb dX5_read_4 (by decide) ?_
    refine lv_istore_n (lv' := [(2, .int (0 : Int32)), (0, .ref h0), (1, .ref h6)]) hx hb dX5_read_5 rfl hl (by decide) rfl (fun ls hl => ?_)
    refine lv_iconst (v := (0 : Int32)) hx hb dX5_read_6 (by decide) ?_
    refine lv_istore_n (lv' := [(3, .int (0 : Int32)), (2, .int (0 : Int32)), (0, .ref h0), (1, .ref h6)]) hx hb dX5_read_7 rfl hl (by decide) rfl (fun ls hl => ?_)
    obtain ⟨k57, ek57, hrun⟩ := jn_e hrun
    have J57 : ∀ (v0_lineCount_57 : Int32) (v0_wicketStands_57 : Int32) (v0_wicketX_57 : Int32) (v0_wicketSide_57 : Int32) (v0_wicketHigh_57 : Int32) (v0_items_57 : Int32) (v1_kind_57 : Int32) (c2_57 : Nat → Int32) (c3_57 : Nat → Int32) (c4_57 : Nat → Int32) (c5_57 : Nat → Int32) (ls : Array Slot) (H : Heap) (locs : List Loc), k57 v0_lineCount_57 v0_wicketStands_57 v0_wicketX_57 v0_wicketSide_57 v0_wicketHigh_57 v0_items_57 v1_kind_57 c2_57 c3_57 c4_57 c5_57 = some ru → va_P (dC, dI) vwCl [(h0, .inr (5, [.ref h5, .ref h3, .ref h4, .ref h1, .int v0_lineCount_57, .int v0_wicketStands_57, .int v0_wicketX_57, .int v0_wicketSide_57, .int v0_wicketHigh_57, .int v0_items_57])), (h1, .inr (3, [.ref h2, .int v1_kind_57])), (h2, .inl (k2, 3, .inl c2_57)), (h3, .inl (k3, 40, .inl c3_57)), (h4, .inl (k4, 40, .inl c4_57)), (h5, .inl (k5, 6, .inl c5_57)), (h6, .inr (6, [.ref h7, g6_item, .int v6_length])), (h7, .inl (k7, 200, .inl c7))] H → va_D A [(h0, .inr (5, [.ref h5, .ref h3, .ref h4, .ref h1, .int v0_lineCount_57, .int v0_wicketStands_57, .int v0_wicketX_57, .int v0_wicketSide_57, .int v0_wicketHigh_57, .int v0_items_57])), (h1, .inr (3, [.ref h2, .int v1_kind_57])), (h2, .inl (k2, 3, .inl c2_57)), (h3, .inl (k3, 40, .inl c3_57)), (h4, .inl (k4, 40, .inl c4_57)), (h5, .inl (k5, 6, .inl c5_57)), (h6, .inr (6, [.ref h7, g6_item, .int v6_length])), (h7, .inl (k7, 200, .inl c7))] → va_S A s.heap H locs → lv_has ls 4 [] → W p l e (headSpec wsX5_read ({ frames := 3, cells := 0, slots := 0, locals := 74 } : Room)).room s m ([.ref h0, .ref h6] : List Value).toArray below meth c H locs 0 0 (MQ below (va_Qv (fun (_ : Unit) => True) (fun (_ : Unit) t => va_P (dC, dI) vwCl [(h0, .inr (5, [.ref h5, .ref h3, .ref h4, .ref h1, .int ru.1, .int ru.2.1, .int ru.2.2.1, .int ru.2.2.2.1, .int ru.2.2.2.2.1, .int ru.2.2.2.2.2.1])), (h1, .inr (3, [.ref h2, .int ru.2.2.2.2.2.2.1])), (h2, .inl (k2, 3, .inl ru.2.2.2.2.2.2.2.1)), (h3, .inl (k3, 40, .inl ru.2.2.2.2.2.2.2.2.1)), (h4, .inl (k4, 40, .inl ru.2.2.2.2.2.2.2.2.2.1)), (h5, .inl (k5, 6, .inl ru.2.2.2.2.2.2.2.2.2.2)), (h6, .inr (6, [.ref h7, g6_item, .int v6_length])), (h7, .inl (k7, 200, .inl c7))] t.heap ∧ va_K (dC, dI) vwCl [(k2, .int), (k3, .int), (k4, .int), (k5, .int), (k7, .int)] t ∧ va_D A [(h0, .inr (5, [.ref h5, .ref h3, .ref h4, .ref h1, .int ru.1, .int ru.2.1, .int ru.2.2.1, .int ru.2.2.2.1, .int ru.2.2.2.2.1, .int ru.2.2.2.2.2.1])), (h1, .inr (3, [.ref h2, .int ru.2.2.2.2.2.2.1])), (h2, .inl (k2, 3, .inl ru.2.2.2.2.2.2.2.1)), (h3, .inl (k3, 40, .inl ru.2.2.2.2.2.2.2.2.1)), (h4, .inl (k4, 40, .inl ru.2.2.2.2.2.2.2.2.2.1)), (h5, .inl (k5, 6, .inl ru.2.2.2.2.2.2.2.2.2.2)), (h6, .inr (6, [.ref h7, g6_item, .int v6_length])), (h7, .inl (k7, 200, .inl c7))]) A) ([.ref h0, .ref h6] : List Value).toArray s 0 0 A) (F0 m 57 ls []) := by
      intro v0_lineCount_57 v0_wicketStands_57 v0_wicketX_57 v0_wicketSide_57 v0_wicketHigh_57 v0_items_57 v1_kind_57 c2_57 c3_57 c4_57 c5_57 ls H locs hrun hP hD hS hl
      rw [ek57] at hrun
      cases hrun
      have hP9 : va_P (dC, dI) vwCl [(h0, .inr (5, [.ref h5, .ref h3, .ref h4, .ref h1, .int v0_lineCount_57, .int v0_wicketStands_57, .int v0_wicketX_57, .int v0_wicketSide_57, .int v0_wicketHigh_57, .int v0_items_57])), (h1, .inr (3, [.ref h2, .int v1_kind_57])), (h2, .inl (k2, 3, .inl c2_57)), (h3, .inl (k3, 40, .inl c3_57)), (h4, .inl (k4, 40, .inl c4_57)), (h5, .inl (k5, 6, .inl c5_57)), (h6, .inr (6, [.ref h7, g6_item, .int v6_length])), (h7, .inl (k7, 200, .inl c7))] H := hP
      have hD9 : va_D A [(h0, .inr (5, [.ref h5, .ref h3, .ref h4, .ref h1, .int v0_lineCount_57, .int v0_wicketStands_57, .int v0_wicketX_57, .int v0_wicketSide_57, .int v0_wicketHigh_57, .int v0_items_57])), (h1, .inr (3, [.ref h2, .int v1_kind_57])), (h2, .inl (k2, 3, .inl c2_57)), (h3, .inl (k3, 40, .inl c3_57)), (h4, .inl (k4, 40, .inl c4_57)), (h5, .inl (k5, 6, .inl c5_57)), (h6, .inr (6, [.ref h7, g6_item, .int v6_length])), (h7, .inl (k7, 200, .inl c7))] := hD
      exact W.vret hx hb hr (fun t ht hW => ⟨⟨(), rfl, trivial, by rw [ht]; exact hP9, va_K.moved hW.alike hK, hD9⟩, hS.F ht⟩) hS.2.2 dX5_read_57
    have L8 : ∀ (n : Nat) (x2_8 : Int32) (x3_8 : Int32) (v0_lineCount_8 : Int32) (v0_wicketStands_8 : Int32) (v0_wicketX_8 : Int32) (v0_wicketSide_8 : Int32) (v0_wicketHigh_8 : Int32) (v0_items_8 : Int32) (v1_kind_8 : Int32) (c2_8 : Nat → Int32) (c3_8 : Nat → Int32) (c4_8 : Nat → Int32) (c5_8 : Nat → Int32) (ls : Array Slot) (H : Heap) (locs : List Loc), fX5_read_p8 N v6_length c7 k57 n x2_8 x3_8 v0_lineCount_8 v0_wicketStands_8 v0_wicketX_8 v0_wicketSide_8 v0_wicketHigh_8 v0_items_8 v1_kind_8 c2_8 c3_8 c4_8 c5_8 = some ru → va_P (dC, dI) vwCl [(h0, .inr (5, [.ref h5, .ref h3, .ref h4, .ref h1, .int v0_lineCount_8, .int v0_wicketStands_8, .int v0_wicketX_8, .int v0_wicketSide_8, .int v0_wicketHigh_8, .int v0_items_8])), (h1, .inr (3, [.ref h2, .int v1_kind_8])), (h2, .inl (k2, 3, .inl c2_8)), (h3, .inl (k3, 40, .inl c3_8)), (h4, .inl (k4, 40, .inl c4_8)), (h5, .inl (k5, 6, .inl c5_8)), (h6, .inr (6, [.ref h7, g6_item, .int v6_length])), (h7, .inl (k7, 200, .inl c7))] H → va_D A [(h0, .inr (5, [.ref h5, .ref h3, .ref h4, .ref h1, .int v0_lineCount_8, .int v0_wicketStands_8, .int v0_wicketX_8, .int v0_wicketSide_8, .int v0_wicketHigh_8, .int v0_items_8])), (h1, .inr (3, [.ref h2, .int v1_kind_8])), (h2, .inl (k2, 3, .inl c2_8)), (h3, .inl (k3, 40, .inl c3_8)), (h4, .inl (k4, 40, .inl c4_8)), (h5, .inl (k5, 6, .inl c5_8)), (h6, .inr (6, [.ref h7, g6_item, .int v6_length])), (h7, .inl (k7, 200, .inl c7))] → va_S A s.heap H locs → lv_has ls 4 [(0, .ref h0), (1, .ref h6), (2, .int x2_8), (3, .int x3_8)] → W p l e (headSpec wsX5_read ({ frames := 3, cells := 0, slots := 0, locals := 74 } : Room)).room s m ([.ref h0, .ref h6] : List Value).toArray below meth c H locs 0 0 (MQ below (va_Qv (fun (_ : Unit) => True) (fun (_ : Unit) t => va_P (dC, dI) vwCl [(h0, .inr (5, [.ref h5, .ref h3, .ref h4, .ref h1, .int ru.1, .int ru.2.1, .int ru.2.2.1, .int ru.2.2.2.1, .int ru.2.2.2.2.1, .int ru.2.2.2.2.2.1])), (h1, .inr (3, [.ref h2, .int ru.2.2.2.2.2.2.1])), (h2, .inl (k2, 3, .inl ru.2.2.2.2.2.2.2.1)), (h3, .inl (k3, 40, .inl ru.2.2.2.2.2.2.2.2.1)), (h4, .inl (k4, 40, .inl ru.2.2.2.2.2.2.2.2.2.1)), (h5, .inl (k5, 6, .inl ru.2.2.2.2.2.2.2.2.2.2)), (h6, .inr (6, [.ref h7, g6_item, .int v6_length])), (h7, .inl (k7, 200, .inl c7))] t.heap ∧ va_K (dC, dI) vwCl [(k2, .int), (k3, .int), (k4, .int), (k5, .int), (k7, .int)] t ∧ va_D A [(h0, .inr (5, [.ref h5, .ref h3, .ref h4, .ref h1, .int ru.1, .int ru.2.1, .int ru.2.2.1, .int ru.2.2.2.1, .int ru.2.2.2.2.1, .int ru.2.2.2.2.2.1])), (h1, .inr (3, [.ref h2, .int ru.2.2.2.2.2.2.1])), (h2, .inl (k2, 3, .inl ru.2.2.2.2.2.2.2.1)), (h3, .inl (k3, 40, .inl ru.2.2.2.2.2.2.2.2.1)), (h4, .inl (k4, 40, .inl ru.2.2.2.2.2.2.2.2.2.1)), (h5, .inl (k5, 6, .inl ru.2.2.2.2.2.2.2.2.2.2)), (h6, .inr (6, [.ref h7, g6_item, .int v6_length])), (h7, .inl (k7, 200, .inl c7))]) A) ([.ref h0, .ref h6] : List Value).toArray s 0 0 A) (F0 m 8 ls []) := by
      intro n
      induction n with
      | zero => intro x2_8 x3_8 v0_lineCount_8 v0_wicketStands_8 v0_wicketX_8 v0_wicketSide_8 v0_wicketHigh_8 v0_items_8 v1_kind_8 c2_8 c3_8 c4_8 c5_8 ls H locs hrun; rw [fX5_read_p8] at hrun; exact on_e hrun
      | succ n ih =>
        intro x2_8 x3_8 v0_lineCount_8 v0_wicketStands_8 v0_wicketX_8 v0_wicketSide_8 v0_wicketHigh_8 v0_items_8 v1_kind_8 c2_8 c3_8 c4_8 c5_8 ls H locs hrun hP hD hS hl
        rw [fX5_read_p8] at hrun
        refine lv_iload_n hx hb dX5_read_8 rfl (lv_at hl 3 rfl) ?_
        refine lv_sipush (v := (200 : Int32)) hx hb dX5_read_9 (by decide) ?_
        refine lv_icmp_ge (tgt := 57) hx hb dX5_read_12 (by decide) (fun cc => ?_) (fun cc => ?_)
        · have hrun := oi_t hrun cc
          exact J57 v0_lineCount_8 v0_wicketStands_8 v0_wicketX_8 v0_wicketSide_8 v0_wicketHigh_8 v0_items_8 v1_kind_8 c2_8 c3_8 c4_8 c5_8 ls H locs hrun hP hD hS (lv_sub hl [] rfl)
        · have hrun := oi_f hrun cc
          refine lv_iload_n hx hb dX5_read_15 rfl (lv_at hl 2 rfl) ?_
          refine lv_if_lt (tgt := 57) hx hb dX5_read_16 (by decide) (fun cc => ?_) (fun cc => ?_)
          · have hrun := oi_t hrun cc
            exact J57 v0_lineCount_8 v0_wicketStands_8 v0_wicketX_8 v0_wicketSide_8 v0_wicketHigh_8 v0_items_8 v1_kind_8 c2_8 c3_8 c4_8 c5_8 ls H locs hrun hP hD hS (lv_sub hl [] rfl)
          · have hrun := oi_f hrun cc
            refine lv_iload_n hx hb dX5_read_19 rfl (lv_at hl 2 rfl) ?_
            refine lv_aload_n hx hb dX5_read_20 rfl (lv_at hl 1 rfl) ?_
            obtain ⟨q21, hc21, hrun⟩ := ob_e hrun
            refine wz_csi (va_runV (As := []) (rest := [.int x2_8]) ⟨hx, hb, hml, hown, hts⟩ (tX6_size l dC dI h6 (.ref h7) (g6_item) N v6_length q21 hc21) (cwV 0 hts gX5_read_X6_size rfl rfl rfl (by decide +kernel) ⟨Nat.le_of_ble_eq_true rfl, Nat.le_of_ble_eq_true rfl⟩) (wz_pVr (hP.sub (ws' := [(h6, .inr (6, [.ref h7, g6_item, .int v6_length]))]) [6] rfl) (hK.sub (tys' := []) [] rfl) (va_recv hK hP (ci := 6) (q0 := 6) rfl rfl)) rfl rfl hl.1 rfl (lv_room (Nat.le_of_ble_eq_true rfl)) dX5_read_21 ⟨Nat.zero_le _, Nat.zero_le _⟩) ?_
            refine lv_icmp_ge (tgt := 57) hx hb dX5_read_24 (by decide) (fun cc => ?_) (fun cc => ?_)
            · have hrun := oi_t hrun cc
              exact J57 v0_lineCount_8 v0_wicketStands_8 v0_wicketX_8 v0_wicketSide_8 v0_wicketHigh_8 v0_items_8 v1_kind_8 c2_8 c3_8 c4_8 c5_8 ls H locs hrun hP hD hS (lv_sub hl [] rfl)
            · have hrun := oi_f hrun cc
              refine lv_aload_n hx hb dX5_read_27 rfl (lv_at hl 0 rfl) ?_
              refine va_get (D := (dC, dI)) (ci := 5) (v := .ref h1) (C := RX5) (T := TX5) (N := 10) hx hb hts hinX5 hown hK hP 0 rfl rfl 3 (by decide) (hts (.fieldLink RX5 22 "WasItOut$Law" "item" "LWasItOut$Item;") (by decide +kernel)) (fun _ h9 => h9) rfl dX5_read_28 ?_
              refine lv_aload_n hx hb dX5_read_31 rfl (lv_at hl 1 rfl) ?_
              refine lv_iload_n hx hb dX5_read_32 rfl (lv_at hl 2 rfl) ?_
              obtain ⟨q33, hc33, hrun⟩ := ob_e hrun
              refine wz_cqi (WC := [(h1, .inr (3, [.ref h2, .int v1_kind_8])), (h2, .inl (k2, 3, .inl c2_8)), (h6, .inr (6, [.ref h7, g6_item, .int v6_length])), (h7, .inl (k7, 200, .inl c7))]) (WR := [(h0, .inr (5, [.ref h5, .ref h3, .ref h4, .ref h1, .int v0_lineCount_8, .int v0_wicketStands_8, .int v0_wicketX_8, .int v0_wicketSide_8, .int v0_wicketHigh_8, .int v0_items_8])), (h3, .inl (k3, 40, .inl c3_8)), (h4, .inl (k4, 40, .inl c4_8)), (h5, .inl (k5, 6, .inl c5_8))]) (W1 := [(h1, .inr (3, [.ref h2, .int q33.2.1])), (h2, .inl (k2, 3, .inl q33.2.2)), (h6, .inr (6, [.ref h7, g6_item, .int v6_length])), (h7, .inl (k7, 200, .inl c7))]) (va_runV (As := [.ref h6, .int x2_8]) (rest := []) ⟨hx, hb, hml, hown, hts⟩ (tX3_readFrom l dC dI t H.size h1 h2 h6 h7 k2 k7 (g6_item) N x2_8 v1_kind_8 c2_8 v6_length c7 q33 hc33) (cwV 2 hts gX5_read_X3_readFrom rfl rfl rfl (by decide +kernel) ⟨Nat.le_of_ble_eq_true rfl, Nat.le_of_ble_eq_true rfl⟩) (wz_pVwG (hP.sub (ws' := [(h1, .inr (3, [.ref h2, .int v1_kind_8])), (h2, .inl (k2, 3, .inl c2_8)), (h6, .inr (6, [.ref h7, g6_item, .int v6_length])), (h7, .inl (k7, 200, .inl c7))]) [1, 2, 6, 7] rfl) (hK.sub (tys' := [(k2, .int), (k7, .int)]) [0, 4] rfl) (hD.sub (ws' := [(h1, .inr (3, [.ref h2, .int v1_kind_8])), (h2, .inl (k2, 3, .inl c2_8)), (h6, .inr (6, [.ref h7, g6_item, .int v6_length])), (h7, .inl (k7, 200, .inl c7))]) [1, 2, 6, 7] (by decide) rfl) hG hS (va_free (wc := [(h1, .inr (3, [.ref h2, .int v1_kind_8])), (h2, .inl (k2, 3, .inl c2_8)), (h6, .inr (6, [.ref h7, g6_item, .int v6_length])), (h7, .inl (k7, 200, .inl c7))]) hD hS hA [1, 2, 6, 7] rfl) (va_recv hK hP (ci := 3) (q0 := 1) rfl rfl)) rfl rfl hl.1 rfl (lv_room (Nat.le_of_ble_eq_true rfl)) dX5_read_33 ⟨Nat.zero_le _, Nat.zero_le _⟩) hP hD hS hA [1, 2, 6, 7] [0, 3, 4, 5] rfl rfl (by decide) (by decide) (fun H locs hP hD hS => ?_)
              have hP : va_P (dC, dI) vwCl [(h0, .inr (5, [.ref h5, .ref h3, .ref h4, .ref h1, .int v0_lineCount_8, .int v0_wicketStands_8, .int v0_wicketX_8, .int v0_wicketSide_8, .int v0_wicketHigh_8, .int v0_items_8])), (h3, .inl (k3, 40, .inl c3_8)), (h4, .inl (k4, 40, .inl c4_8)), (h5, .inl (k5, 6, .inl c5_8)), (h1, .inr (3, [.ref h2, .int q33.2.1])), (h2, .inl (k2, 3, .inl q33.2.2)), (h6, .inr (6, [.ref h7, g6_item, .int v6_length])), (h7, .inl (k7, 200, .inl c7))] H := hP
              have hD : va_D A [(h0, .inr (5, [.ref h5, .ref h3, .ref h4, .ref h1, .int v0_lineCount_8, .int v0_wicketStands_8, .int v0_wicketX_8, .int v0_wicketSide_8, .int v0_wicketHigh_8, .int v0_items_8])), (h3, .inl (k3, 40, .inl c3_8)), (h4, .inl (k4, 40, .inl c4_8)), (h5, .inl (k5, 6, .inl c5_8)), (h1, .inr (3, [.ref h2, .int q33.2.1])), (h2, .inl (k2, 3, .inl q33.2.2)), (h6, .inr (6, [.ref h7, g6_item, .int v6_length])), (h7, .inl (k7, 200, .inl c7))] := hD
              refine lv_istore_n (lv' := [(2, .int q33.1), (0, .ref h0), (1, .ref h6), (3, .int x3_8)]) hx hb dX5_read_36 rfl hl (by decide) rfl (fun ls hl => ?_)
              refine lv_aload_n hx hb dX5_read_37 rfl (lv_at hl 1 rfl) ?_
              obtain ⟨q38, hc38, hrun⟩ := ob_e hrun
              refine wz_cqv (WC := [(h0, .inr (5, [.ref h5, .ref h3, .ref h4, .ref h1, .int v0_lineCount_8, .int v0_wicketStands_8, .int v0_wicketX_8, .int v0_wicketSide_8, .int v0_wicketHigh_8, .int v0_items_8])), (h1, .inr (3, [.ref h2, .int q33.2.1])), (h2, .inl (k2, 3, .inl q33.2.2)), (h3, .inl (k3, 40, .inl c3_8)), (h4, .inl (k4, 40, .inl c4_8)), (h5, .inl (k5, 6, .inl c5_8))]) (WR := [(h6, .inr (6, [.ref h7, g6_item, .int v6_length])), (h7, .inl (k7, 200, .inl c7))]) (W1 := [(h0, .inr (5, [.ref h5, .ref h3, .ref h4, .ref h1, .int q38.1, .int q38.2.1, .int q38.2.2.1, .int q38.2.2.2.1, .int q38.2.2.2.2.1, .int v0_items_8])), (h1, .inr (3, [.ref h2, .int q33.2.1])), (h2, .inl (k2, 3, .inl q33.2.2)), (h3, .inl (k3, 40, .inl q38.2.2.2.2.2.1)), (h4, .inl (k4, 40, .inl q38.2.2.2.2.2.2.1)), (h5, .inl (k5, 6, .inl q38.2.2.2.2.2.2.2))]) (va_runV (As := []) (rest := []) ⟨hx, hb, hml, hown, hts⟩ (tX5_take l dC dI H.size h0 h1 h2 h3 h4 h5 k2 k3 k4 k5 (.int v0_items_8) N v0_lineCount_8 v0_wicketStands_8 v0_wicketX_8 v0_wicketSide_8 v0_wicketHigh_8 q33.2.1 q33.2.2 c3_8 c4_8 c5_8 q38 hc38) (cwV 0 hts gX5_read_X5_take rfl rfl rfl (by decide +kernel) ⟨Nat.le_of_ble_eq_true rfl, Nat.le_of_ble_eq_true rfl⟩) (wz_pVw (hP.sub (ws' := [(h0, .inr (5, [.ref h5, .ref h3, .ref h4, .ref h1, .int v0_lineCount_8, .int v0_wicketStands_8, .int v0_wicketX_8, .int v0_wicketSide_8, .int v0_wicketHigh_8, .int v0_items_8])), (h1, .inr (3, [.ref h2, .int q33.2.1])), (h2, .inl (k2, 3, .inl q33.2.2)), (h3, .inl (k3, 40, .inl c3_8)), (h4, .inl (k4, 40, .inl c4_8)), (h5, .inl (k5, 6, .inl c5_8))]) [0, 4, 5, 1, 2, 3] rfl) (hK.sub (tys' := [(k2, .int), (k3, .int), (k4, .int), (k5, .int)]) [0, 1, 2, 3] rfl) (hD.sub (ws' := [(h0, .inr (5, [.ref h5, .ref h3, .ref h4, .ref h1, .int v0_lineCount_8, .int v0_wicketStands_8, .int v0_wicketX_8, .int v0_wicketSide_8, .int v0_wicketHigh_8, .int v0_items_8])), (h1, .inr (3, [.ref h2, .int q33.2.1])), (h2, .inl (k2, 3, .inl q33.2.2)), (h3, .inl (k3, 40, .inl c3_8)), (h4, .inl (k4, 40, .inl c4_8)), (h5, .inl (k5, 6, .inl c5_8))]) [0, 4, 5, 1, 2, 3] (by decide) rfl) (va_recv hK hP (ci := 5) (q0 := 0) rfl rfl)) rfl rfl hl.1 rfl (lv_room (Nat.le_of_ble_eq_true rfl)) dX5_read_38 ⟨Nat.zero_le _, Nat.zero_le _⟩) hP hD hS hA [0, 4, 5, 1, 2, 3] [6, 7] rfl rfl (by decide) (by decide) (fun H locs hP hD hS => ?_)
              have hP : va_P (dC, dI) vwCl [(h6, .inr (6, [.ref h7, g6_item, .int v6_length])), (h7, .inl (k7, 200, .inl c7)), (h0, .inr (5, [.ref h5, .ref h3, .ref h4, .ref h1, .int q38.1, .int q38.2.1, .int q38.2.2.1, .int q38.2.2.2.1, .int q38.2.2.2.2.1, .int v0_items_8])), (h1, .inr (3, [.ref h2, .int q33.2.1])), (h2, .inl (k2, 3, .inl q33.2.2)), (h3, .inl (k3, 40, .inl q38.2.2.2.2.2.1)), (h4, .inl (k4, 40, .inl q38.2.2.2.2.2.2.1)), (h5, .inl (k5, 6, .inl q38.2.2.2.2.2.2.2))] H := hP
              have hD : va_D A [(h6, .inr (6, [.ref h7, g6_item, .int v6_length])), (h7, .inl (k7, 200, .inl c7)), (h0, .inr (5, [.ref h5, .ref h3, .ref h4, .ref h1, .int q38.1, .int q38.2.1, .int q38.2.2.1, .int q38.2.2.2.1, .int q38.2.2.2.2.1, .int v0_items_8])), (h1, .inr (3, [.ref h2, .int q33.2.1])), (h2, .inl (k2, 3, .inl q33.2.2)), (h3, .inl (k3, 40, .inl q38.2.2.2.2.2.1)), (h4, .inl (k4, 40, .inl q38.2.2.2.2.2.2.1)), (h5, .inl (k5, 6, .inl q38.2.2.2.2.2.2.2))] := hD
              refine lv_aload_n hx hb dX5_read_41 rfl (lv_at hl 1 rfl) ?_
              refine lv_dup hx hb dX5_read_42 rfl ?_
              refine va_get (D := (dC, dI)) (ci := 5) (v := .int v0_items_8) (C := RX5) (T := TX5) (N := 10) hx hb hts hinX5 hown hK hP 2 rfl rfl 9 (by decide) (hts (.fieldLink RX5 29 "WasItOut$Law" "items" "I") (by decide +kernel)) (fun _ h9 => h9) rfl dX5_read_43 ?_
              refine lv_iconst (v := (1 : Int32)) hx hb dX5_read_46 (by decide) ?_
              refine lv_iadd hx hb dX5_read_47 ?_
              refine va_put (D := (dC, dI)) (ci := 5) (v := .int (v0_items_8 + (1 : Int32))) (ty := .int) (C := RX5) (T := TX5) (N := 10) hx hb hts hinX5 tyX5 tyX5_ok nmX5 hown hK hP hD hS 2 rfl rfl 9 (by decide) (hts (.fieldLink RX5 29 "WasItOut$Law" "items" "I") (by decide +kernel)) (fun _ h9 => h9) rfl (by decide +kernel) rfl rfl (Nat.le_of_ble_eq_true rfl) dX5_read_48 (fun H locs hP hD hS => ?_)
              have hP : va_P (dC, dI) vwCl [(h6, .inr (6, [.ref h7, g6_item, .int v6_length])), (h7, .inl (k7, 200, .inl c7)), (h0, .inr (5, [.ref h5, .ref h3, .ref h4, .ref h1, .int q38.1, .int q38.2.1, .int q38.2.2.1, .int q38.2.2.2.1, .int q38.2.2.2.2.1, .int (v0_items_8 + (1 : Int32))])), (h1, .inr (3, [.ref h2, .int q33.2.1])), (h2, .inl (k2, 3, .inl q33.2.2)), (h3, .inl (k3, 40, .inl q38.2.2.2.2.2.1)), (h4, .inl (k4, 40, .inl q38.2.2.2.2.2.2.1)), (h5, .inl (k5, 6, .inl q38.2.2.2.2.2.2.2))] H := hP
              have hD : va_D A [(h6, .inr (6, [.ref h7, g6_item, .int v6_length])), (h7, .inl (k7, 200, .inl c7)), (h0, .inr (5, [.ref h5, .ref h3, .ref h4, .ref h1, .int q38.1, .int q38.2.1, .int q38.2.2.1, .int q38.2.2.2.1, .int q38.2.2.2.2.1, .int (v0_items_8 + (1 : Int32))])), (h1, .inr (3, [.ref h2, .int q33.2.1])), (h2, .inl (k2, 3, .inl q33.2.2)), (h3, .inl (k3, 40, .inl q38.2.2.2.2.2.1)), (h4, .inl (k4, 40, .inl q38.2.2.2.2.2.2.1)), (h5, .inl (k5, 6, .inl q38.2.2.2.2.2.2.2))] := hD
              refine lv_iinc (v := (x3_8 + (1 : Int32))) (lv' := [(3, .int (x3_8 + (1 : Int32))), (2, .int q33.1), (0, .ref h0), (1, .ref h6)]) hx hb dX5_read_51 hl (k := 3) rfl rfl (by decide) rfl (fun ls hl => ?_)
              refine lv_goto (tgt := 8) hx hb dX5_read_54 (by decide) ?_
              exact ih q33.1 ((x3_8 + (1 : Int32))) q38.1 q38.2.1 q38.2.2.1 q38.2.2.2.1 q38.2.2.2.2.1 ((v0_items_8 + (1 : Int32))) q33.2.1 q33.2.2 q38.2.2.2.2.2.1 q38.2.2.2.2.2.2.1 q38.2.2.2.2.2.2.2 ls H locs hrun (hP.sub [2, 3, 4, 5, 6, 7, 0, 1] rfl) (hD.sub [2, 3, 4, 5, 6, 7, 0, 1] (by decide) rfl) hS (lv_sub hl [2, 3, 1, 0] rfl)
    exact L8 N ((0 : Int32)) ((0 : Int32)) q1.1 q1.2.1 v0_wicketX v0_wicketSide v0_wicketHigh q1.2.2.1 v1_kind c2 c3 c4 q1.2.2.2 ls H locs hrun (hP.sub [6, 0, 1, 2, 3, 7, 4, 5] rfl) (hD.sub [6, 0, 1, 2, 3, 7, 4, 5] (by decide) rfl) hS (lv_sub hl [2, 3, 1, 0] rfl)
  rw [hHe, hLe] at key
  exact key
set_option maxHeartbeats 4000000 in
set_option maxRecDepth 100000 in
theorem tX5_wicketHigh (l : Launch) (dC : Nat → ClassId) (dI : Nat → Nat → Nat) (h0 : Nat) (g0_numbers g0_lineFrom g0_lineY g0_item g0_lineCount g0_wicketStands g0_wicketX g0_wicketSide g0_items : Value) (N : Nat)  (v0_wicketHigh : Int32) (ru : Int32) (hm : fX5_wicketHigh N v0_wicketHigh = some ru) : Met l yX5_wicketHigh wsX5_wicketHigh ({ frames := 0, cells := 0, slots := 0, locals := 0 } : Room) (va_Pc [.ref h0] (fun U => va_P (dC, dI) vwCl [(h0, .inr (5, [g0_numbers, g0_lineFrom, g0_lineY, g0_item, g0_lineCount, g0_wicketStands, g0_wicketX, g0_wicketSide, .int v0_wicketHigh, g0_items]))] U.heap ∧ va_K (dC, dI) vwCl [] U)) (vp_Si (fun r => r = ru)) 0 0 (fun _ => False) := by
  refine Met.ofW (cc := cX5_wicketHigh) (maxL := 1) (ret := (some .int)) (by decide) rfl ?_
  intro p e s m args below meth c s₁ B hml hv
  obtain ⟨rfl, hP, hK⟩ := hv
  have hx := B.exec
  have hb := B.bytes
  have hr := B.returns
  have hts := atoms_spec (ws := wsX5_wicketHigh) B.pre
  have hown : s.vm.findClass RX5 = some m.cls := findClass_of_methodNamed B.named
  have hlocks := B.notSynchronized
  have hinX5 : ∀ w ∈ wsX50, w ∈ wsX5_wicketHigh := by decide +kernel
  have hl := lv_entry ([.ref h0]) (n := 1) (Nat.le_of_ble_eq_true rfl)
  rw [lg_entry_eq]
  generalize (lg_sl ([.ref h0]) ++ List.replicate (1 - (lg_sl ([.ref h0])).length) Slot.unset).toArray = ls at hl ⊢
  have hl : lv_has ls 1 [(0, .ref h0)] := hl
  have hrun := hm
  rw [fX5_wicketHigh] at hrun
  refine lv_aload_n hx hb dX5_wicketHigh_0 rfl (lv_at hl 0 rfl) ?_
  refine va_get (D := (dC, dI)) (ci := 5) (v := .int v0_wicketHigh) (C := RX5) (T := TX5) (N := 10) hx hb hts hinX5 hown hK hP 0 rfl rfl 8 (by decide) (hts (.fieldLink RX5 43 "WasItOut$Law" "wicketHigh" "I") (by decide +kernel)) (fun _ h9 => h9) rfl dX5_wicketHigh_1 ?_
  exact W.iret hx hb hr (fun t ht _ => ⟨_, rfl, Option.some.inj hrun, ht⟩) (fun _ h => by cases h) dX5_wicketHigh_4
set_option maxHeartbeats 4000000 in
set_option maxRecDepth 100000 in
theorem tX5_wicketSide (l : Launch) (dC : Nat → ClassId) (dI : Nat → Nat → Nat) (h0 : Nat) (g0_numbers g0_lineFrom g0_lineY g0_item g0_lineCount g0_wicketStands g0_wicketX g0_wicketHigh g0_items : Value) (N : Nat)  (v0_wicketSide : Int32) (ru : Int32) (hm : fX5_wicketSide N v0_wicketSide = some ru) : Met l yX5_wicketSide wsX5_wicketSide ({ frames := 0, cells := 0, slots := 0, locals := 0 } : Room) (va_Pc [.ref h0] (fun U => va_P (dC, dI) vwCl [(h0, .inr (5, [g0_numbers, g0_lineFrom, g0_lineY, g0_item, g0_lineCount, g0_wicketStands, g0_wicketX, .int v0_wicketSide, g0_wicketHigh, g0_items]))] U.heap ∧ va_K (dC, dI) vwCl [] U)) (vp_Si (fun r => r = ru)) 0 0 (fun _ => False) := by
  refine Met.ofW (cc := cX5_wicketSide) (maxL := 1) (ret := (some .int)) (by decide) rfl ?_
  intro p e s m args below meth c s₁ B hml hv
  obtain ⟨rfl, hP, hK⟩ := hv
  have hx := B.exec
  have hb := B.bytes
  have hr := B.returns
  have hts := atoms_spec (ws := wsX5_wicketSide) B.pre
  have hown : s.vm.findClass RX5 = some m.cls := findClass_of_methodNamed B.named
  have hlocks := B.notSynchronized
  have hinX5 : ∀ w ∈ wsX50, w ∈ wsX5_wicketSide := by decide +kernel
  have hl := lv_entry ([.ref h0]) (n := 1) (Nat.le_of_ble_eq_true rfl)
  rw [lg_entry_eq]
  generalize (lg_sl ([.ref h0]) ++ List.replicate (1 - (lg_sl ([.ref h0])).length) Slot.unset).toArray = ls at hl ⊢
  have hl : lv_has ls 1 [(0, .ref h0)] := hl
  have hrun := hm
  rw [fX5_wicketSide] at hrun
  refine lv_aload_n hx hb dX5_wicketSide_0 rfl (lv_at hl 0 rfl) ?_
  refine va_get (D := (dC, dI)) (ci := 5) (v := .int v0_wicketSide) (C := RX5) (T := TX5) (N := 10) hx hb hts hinX5 hown hK hP 0 rfl rfl 7 (by decide) (hts (.fieldLink RX5 40 "WasItOut$Law" "wicketSide" "I") (by decide +kernel)) (fun _ h9 => h9) rfl dX5_wicketSide_1 ?_
  exact W.iret hx hb hr (fun t ht _ => ⟨_, rfl, Option.some.inj hrun, ht⟩) (fun _ h => by cases h) dX5_wicketSide_4
set_option maxHeartbeats 4000000 in
set_option maxRecDepth 100000 in
theorem tX5_wicketX (l : Launch) (dC : Nat → ClassId) (dI : Nat → Nat → Nat) (h0 : Nat) (g0_numbers g0_lineFrom g0_lineY g0_item g0_lineCount g0_wicketStands g0_wicketSide g0_wicketHigh g0_items : Value) (N : Nat)  (v0_wicketX : Int32) (ru : Int32) (hm : fX5_wicketX N v0_wicketX = some ru) : Met l yX5_wicketX wsX5_wicketX ({ frames := 0, cells := 0, slots := 0, locals := 0 } : Room) (va_Pc [.ref h0] (fun U => va_P (dC, dI) vwCl [(h0, .inr (5, [g0_numbers, g0_lineFrom, g0_lineY, g0_item, g0_lineCount, g0_wicketStands, .int v0_wicketX, g0_wicketSide, g0_wicketHigh, g0_items]))] U.heap ∧ va_K (dC, dI) vwCl [] U)) (vp_Si (fun r => r = ru)) 0 0 (fun _ => False) := by
  refine Met.ofW (cc := cX5_wicketX) (maxL := 1) (ret := (some .int)) (by decide) rfl ?_
  intro p e s m args below meth c s₁ B hml hv
  obtain ⟨rfl, hP, hK⟩ := hv
  have hx := B.exec
  have hb := B.bytes
  have hr := B.returns
  have hts := atoms_spec (ws := wsX5_wicketX) B.pre
  have hown : s.vm.findClass RX5 = some m.cls := findClass_of_methodNamed B.named
  have hlocks := B.notSynchronized
  have hinX5 : ∀ w ∈ wsX50, w ∈ wsX5_wicketX := by decide +kernel
  have hl := lv_entry ([.ref h0]) (n := 1) (Nat.le_of_ble_eq_true rfl)
  rw [lg_entry_eq]
  generalize (lg_sl ([.ref h0]) ++ List.replicate (1 - (lg_sl ([.ref h0])).length) Slot.unset).toArray = ls at hl ⊢
  have hl : lv_has ls 1 [(0, .ref h0)] := hl
  have hrun := hm
  rw [fX5_wicketX] at hrun
  refine lv_aload_n hx hb dX5_wicketX_0 rfl (lv_at hl 0 rfl) ?_
  refine va_get (D := (dC, dI)) (ci := 5) (v := .int v0_wicketX) (C := RX5) (T := TX5) (N := 10) hx hb hts hinX5 hown hK hP 0 rfl rfl 6 (by decide) (hts (.fieldLink RX5 37 "WasItOut$Law" "wicketX" "I") (by decide +kernel)) (fun _ h9 => h9) rfl dX5_wicketX_1 ?_
  exact W.iret hx hb hr (fun t ht _ => ⟨_, rfl, Option.some.inj hrun, ht⟩) (fun _ h => by cases h) dX5_wicketX_4
set_option maxHeartbeats 4000000 in
set_option maxRecDepth 100000 in
theorem tX6_append (l : Launch) (dC : Nat → ClassId) (dI : Nat → Nat → Nat) (sz : Nat) (h0 h1 : Nat) (k1 : ClassId) (g0_item : Value) (N : Nat) (a1 : Int32) (a2 : Int64) (v0_length : Int32) (c1 : Nat → Int32) (ru : Int32 × (Int32) × (Nat → Int32)) (hm : fX6_append N a1 a2 v0_length c1 = some ru) : Met l yX6_append wsX6_append ({ frames := 0, cells := 0, slots := 0, locals := 0 } : Room) (va_Pc [.ref h0, .int a1, .long a2] (fun U => U.heap.size = sz ∧ va_P (dC, dI) vwCl [(h0, .inr (6, [.ref h1, g0_item, .int v0_length])), (h1, .inl (k1, 200, .inl c1))] U.heap ∧ va_K (dC, dI) vwCl [(k1, .int)] U ∧ va_D (fun _ => True) [(h0, .inr (6, [.ref h1, g0_item, .int v0_length])), (h1, .inl (k1, 200, .inl c1))])) (va_Qi (fun r (_ : Unit) => r = ru.1) (fun (_ : Unit) t => va_P (dC, dI) vwCl [(h0, .inr (6, [.ref h1, g0_item, .int ru.2.1])), (h1, .inl (k1, 200, .inl ru.2.2))] t.heap ∧ va_K (dC, dI) vwCl [(k1, .int)] t ∧ va_D (va_A [(h0, .inr (6, [.ref h1, g0_item, .int v0_length])), (h1, .inl (k1, 200, .inl c1))] sz) [(h0, .inr (6, [.ref h1, g0_item, .int ru.2.1])), (h1, .inl (k1, 200, .inl ru.2.2))]) (va_A [(h0, .inr (6, [.ref h1, g0_item, .int v0_length])), (h1, .inl (k1, 200, .inl c1))] sz)) 0 0 (va_A [(h0, .inr (6, [.ref h1, g0_item, .int v0_length])), (h1, .inl (k1, 200, .inl c1))] sz) := by
  refine Met.ofW (cc := cX6_append) (maxL := 5) (ret := (some .int)) (by decide) rfl ?_
  intro p e s m args below meth c s₁ B hml hv
  obtain ⟨rfl, hsz, hP, hK, hD0⟩ := hv
  have hx := B.exec
  have hb := B.bytes
  have hr := B.returns
  have hts := atoms_spec (ws := wsX6_append) B.pre
  have hown : s.vm.findClass RX6 = some m.cls := findClass_of_methodNamed B.named
  have hlocks := B.notSynchronized
  subst hsz
  have hD := hD0.self (sz := s.heap.size)
  generalize hAe : va_A [(h0, .inr (6, [.ref h1, g0_item, .int v0_length])), (h1, .inl (k1, 200, .inl c1))] s.heap.size = A at hD ⊢
  have hA : ∀ q : Nat, s.heap.size ≤ q → A q := fun q h => by rw [← hAe]; exact Or.inr h
  have hS : va_S A s.heap s.heap [] := va_S.rf
  have hinX6 : ∀ w ∈ wsX60, w ∈ wsX6_append := by decide +kernel
  have hl := lv_entry ([.ref h0, .int a1, .long a2]) (n := 5) (Nat.le_of_ble_eq_true rfl)
  rw [lg_entry_eq]
  generalize (lg_sl ([.ref h0, .int a1, .long a2]) ++ List.replicate (5 - (lg_sl ([.ref h0, .int a1, .long a2])).length) Slot.unset).toArray = ls at hl ⊢
  have hl : lv_has ls 5 [(0, .ref h0), (1, .int a1), (2, .long a2)] := hl
  have hrun := hm
  rw [fX6_append] at hrun
  obtain ⟨H, hHe⟩ : ∃ H, H = s.heap := ⟨_, rfl⟩
  obtain ⟨locs, hLe⟩ : ∃ locs : List Loc, locs = [] := ⟨_, rfl⟩
  rw [← hHe] at hP
  have hS : va_S A s.heap H locs := by rw [hHe, hLe]; exact hS
  have key : W p l e (headSpec wsX6_append ({ frames := 0, cells := 0, slots := 0, locals := 0 } : Room)).room s m ([.ref h0, .int a1, .long a2] : List Value).toArray below meth c H locs 0 0 (MQ below (va_Qi (fun r (_ : Unit) => r = ru.1) (fun (_ : Unit) t => va_P (dC, dI) vwCl [(h0, .inr (6, [.ref h1, g0_item, .int ru.2.1])), (h1, .inl (k1, 200, .inl ru.2.2))] t.heap ∧ va_K (dC, dI) vwCl [(k1, .int)] t ∧ va_D A [(h0, .inr (6, [.ref h1, g0_item, .int ru.2.1])), (h1, .inl (k1, 200, .inl ru.2.2))]) A) ([.ref h0, .int a1, .long a2] : List Value).toArray s 0 0 A) (F0 m 0 ls []) := by
    clear hHe hLe
    refine lv_aload_n hx hb dX6_append_0 rfl (lv_at hl 0 rfl) ?_
    refine va_get (D := (dC, dI)) (ci := 6) (v := .int v0_length) (C := RX6) (T := TX6) (N := 3) hx hb hts hinX6 hown hK hP 0 rfl rfl 2 (by decide) (hts (.fieldLink RX6 22 "WasItOut$Text" "length" "I") (by decide +kernel)) (fun _ h9 => h9) rfl dX6_append_1 ?_
    refine lv_iload_n hx hb dX6_append_4 rfl (lv_at hl 1 rfl) ?_
    refine lv_iadd hx hb dX6_append_5 ?_
    refine lv_sipush (v := (200 : Int32)) hx hb dX6_append_6 (by decide) ?_
    refine lv_icmp_le (tgt := 15) hx hb dX6_append_9 (by decide) (fun cc => ?_) (fun cc => ?_)
    · have hrun := oi_t hrun cc
      refine lv_bipush (v := (8 : Int32)) hx hb dX6_append_15 (by decide) ?_
      refine lv_iload_n hx hb dX6_append_17 rfl (lv_at hl 1 rfl) ?_
      refine lv_iconst (v := (1 : Int32)) hx hb dX6_append_18 (by decide) ?_
      refine lv_isub hx hb dX6_append_19 ?_
      refine lv_imul hx hb dX6_append_20 ?_
      refine lv_istore (lv' := [(4, .int ((8 : Int32) * (a1 - (1 : Int32)))), (0, .ref h0), (1, .int a1), (2, .long a2)]) hx hb dX6_append_21 hl (by decide) rfl (fun ls hl => ?_)
      obtain ⟨k74, ek74, hrun⟩ := jn_e hrun
      have J74 : ∀ (v0_length_74 : Int32) (c1_74 : Nat → Int32) (ls : Array Slot) (H : Heap) (locs : List Loc), k74 v0_length_74 c1_74 = some ru → va_P (dC, dI) vwCl [(h0, .inr (6, [.ref h1, g0_item, .int v0_length_74])), (h1, .inl (k1, 200, .inl c1_74))] H → va_D A [(h0, .inr (6, [.ref h1, g0_item, .int v0_length_74])), (h1, .inl (k1, 200, .inl c1_74))] → va_S A s.heap H locs → lv_has ls 5 [(0, .ref h0)] → W p l e (headSpec wsX6_append ({ frames := 0, cells := 0, slots := 0, locals := 0 } : Room)).room s m ([.ref h0, .int a1, .long a2] : List Value).toArray below meth c H locs 0 0 (MQ below (va_Qi (fun r (_ : Unit) => r = ru.1) (fun (_ : Unit) t => va_P (dC, dI) vwCl [(h0, .inr (6, [.ref h1, g0_item, .int ru.2.1])), (h1, .inl (k1, 200, .inl ru.2.2))] t.heap ∧ va_K (dC, dI) vwCl [(k1, .int)] t ∧ va_D A [(h0, .inr (6, [.ref h1, g0_item, .int ru.2.1])), (h1, .inl (k1, 200, .inl ru.2.2))]) A) ([.ref h0, .int a1, .long a2] : List Value).toArray s 0 0 A) (F0 m 74 ls []) := by
        intro v0_length_74 c1_74 ls H locs hrun hP hD hS hl
        rw [ek74] at hrun
        refine lv_aload_n hx hb dX6_append_74 rfl (lv_at hl 0 rfl) ?_
        refine va_get (D := (dC, dI)) (ci := 6) (v := .int v0_length_74) (C := RX6) (T := TX6) (N := 3) hx hb hts hinX6 hown hK hP 0 rfl rfl 2 (by decide) (hts (.fieldLink RX6 22 "WasItOut$Text" "length" "I") (by decide +kernel)) (fun _ h9 => h9) rfl dX6_append_75 ?_
        cases hrun
        have hP9 : va_P (dC, dI) vwCl [(h0, .inr (6, [.ref h1, g0_item, .int v0_length_74])), (h1, .inl (k1, 200, .inl c1_74))] H := hP
        have hD9 : va_D A [(h0, .inr (6, [.ref h1, g0_item, .int v0_length_74])), (h1, .inl (k1, 200, .inl c1_74))] := hD
        exact W.iret hx hb hr (fun t ht hW => ⟨⟨_, (), rfl, rfl, by rw [ht]; exact hP9, va_K.moved hW.alike hK, hD9⟩, hS.F ht⟩) hS.2.2 dX6_append_78
      have L23 : ∀ (n : Nat) (x4_23 : Int32) (v0_length_23 : Int32) (c1_23 : Nat → Int32) (ls : Array Slot) (H : Heap) (locs : List Loc), fX6_append_p23 N a2 k74 n x4_23 v0_length_23 c1_23 = some ru → va_P (dC, dI) vwCl [(h0, .inr (6, [.ref h1, g0_item, .int v0_length_23])), (h1, .inl (k1, 200, .inl c1_23))] H → va_D A [(h0, .inr (6, [.ref h1, g0_item, .int v0_length_23])), (h1, .inl (k1, 200, .inl c1_23))] → va_S A s.heap H locs → lv_has ls 5 [(0, .ref h0), (2, .long a2), (4, .int x4_23)] → W p l e (headSpec wsX6_append ({ frames := 0, cells := 0, slots := 0, locals := 0 } : Room)).room s m ([.ref h0, .int a1, .long a2] : List Value).toArray below meth c H locs 0 0 (MQ below (va_Qi (fun r (_ : Unit) => r = ru.1) (fun (_ : Unit) t => va_P (dC, dI) vwCl [(h0, .inr (6, [.ref h1, g0_item, .int ru.2.1])), (h1, .inl (k1, 200, .inl ru.2.2))] t.heap ∧ va_K (dC, dI) vwCl [(k1, .int)] t ∧ va_D A [(h0, .inr (6, [.ref h1, g0_item, .int ru.2.1])), (h1, .inl (k1, 200, .inl ru.2.2))]) A) ([.ref h0, .int a1, .long a2] : List Value).toArray s 0 0 A) (F0 m 23 ls []) := by
        intro n
        induction n with
        | zero => intro x4_23 v0_length_23 c1_23 ls H locs hrun; rw [fX6_append_p23] at hrun; exact on_e hrun
        | succ n ih =>
          intro x4_23 v0_length_23 c1_23 ls H locs hrun hP hD hS hl
          rw [fX6_append_p23] at hrun
          refine lv_iload hx hb dX6_append_23 (lv_at hl 2 rfl) ?_
          refine lv_if_lt (tgt := 74) hx hb dX6_append_25 (by decide) (fun cc => ?_) (fun cc => ?_)
          · have hrun := oi_t hrun cc
            exact J74 v0_length_23 c1_23 ls H locs hrun hP hD hS (lv_sub hl [0] rfl)
          · have hrun := oi_f hrun cc
            refine lv_aload_n hx hb dX6_append_28 rfl (lv_at hl 0 rfl) ?_
            refine va_get (D := (dC, dI)) (ci := 6) (v := .int v0_length_23) (C := RX6) (T := TX6) (N := 3) hx hb hts hinX6 hown hK hP 0 rfl rfl 2 (by decide) (hts (.fieldLink RX6 22 "WasItOut$Text" "length" "I") (by decide +kernel)) (fun _ h9 => h9) rfl dX6_append_29 ?_
            refine lv_aload_n hx hb dX6_append_32 rfl (lv_at hl 0 rfl) ?_
            refine va_get (D := (dC, dI)) (ci := 6) (v := .ref h1) (C := RX6) (T := TX6) (N := 3) hx hb hts hinX6 hown hK hP 0 rfl rfl 0 (by decide) (hts (.fieldLink RX6 11 "WasItOut$Text" "bytes" "[I") (by decide +kernel)) (fun _ h9 => h9) rfl dX6_append_33 ?_
            refine va_alen (v := (200 : Int32)) hx hb hK hP 1 0 rfl rfl (by first | rfl | decide) dX6_append_36 ?_
            refine lv_icmp_ge (tgt := 74) hx hb dX6_append_37 (by decide) (fun cc => ?_) (fun cc => ?_)
            · have hrun := oi_t hrun cc
              exact J74 v0_length_23 c1_23 ls H locs hrun hP hD hS (lv_sub hl [0] rfl)
            · have hrun := oi_f hrun cc
              refine lv_aload_n hx hb dX6_append_40 rfl (lv_at hl 0 rfl) ?_
              refine va_get (D := (dC, dI)) (ci := 6) (v := .ref h1) (C := RX6) (T := TX6) (N := 3) hx hb hts hinX6 hown hK hP 0 rfl rfl 0 (by decide) (hts (.fieldLink RX6 11 "WasItOut$Text" "bytes" "[I") (by decide +kernel)) (fun _ h9 => h9) rfl dX6_append_41 ?_
              refine lv_aload_n hx hb dX6_append_44 rfl (lv_at hl 0 rfl) ?_
              refine va_get (D := (dC, dI)) (ci := 6) (v := .int v0_length_23) (C := RX6) (T := TX6) (N := 3) hx hb hts hinX6 hown hK hP 0 rfl rfl 2 (by decide) (hts (.fieldLink RX6 22 "WasItOut$Text" "length" "I") (by decide +kernel)) (fun _ h9 => h9) rfl dX6_append_45 ?_
              refine lv_lload_n hx hb dX6_append_48 rfl (lv_at hl 1 rfl) ?_
              refine lv_iload hx hb dX6_append_49 (lv_at hl 2 rfl) ?_
              refine lv_lushr (v := (a2.toUInt64 >>> (x4_23.toInt64.toUInt64 &&& Int64.toUInt64 63)).toInt64) hx hb dX6_append_51 rfl ?_
              refine lv_l2i (v := (a2.toUInt64 >>> (x4_23.toInt64.toUInt64 &&& Int64.toUInt64 63)).toInt64.toInt32) hx hb dX6_append_52 rfl ?_
              refine lv_sipush (v := (255 : Int32)) hx hb dX6_append_53 (by decide) ?_
              refine lv_iand hx hb dX6_append_56 ?_
              obtain ⟨hi, hrun⟩ := oi_x hrun
              refine va_iast hx hb hK hP hD hS 1 0 rfl rfl hi dX6_append_57 (fun H locs hP hD hS => ?_)
              have hP : va_P (dC, dI) vwCl [(h0, .inr (6, [.ref h1, g0_item, .int v0_length_23])), (h1, .inl (k1, 200, .inl (upd c1_23 v0_length_23.toNatClampNeg ((a2.toUInt64 >>> (x4_23.toInt64.toUInt64 &&& Int64.toUInt64 63)).toInt64.toInt32 &&& (255 : Int32)))))] H := hP
              have hD : va_D A [(h0, .inr (6, [.ref h1, g0_item, .int v0_length_23])), (h1, .inl (k1, 200, .inl (upd c1_23 v0_length_23.toNatClampNeg ((a2.toUInt64 >>> (x4_23.toInt64.toUInt64 &&& Int64.toUInt64 63)).toInt64.toInt32 &&& (255 : Int32)))))] := hD
              refine lv_aload_n hx hb dX6_append_58 rfl (lv_at hl 0 rfl) ?_
              refine lv_dup hx hb dX6_append_59 rfl ?_
              refine va_get (D := (dC, dI)) (ci := 6) (v := .int v0_length_23) (C := RX6) (T := TX6) (N := 3) hx hb hts hinX6 hown hK hP 0 rfl rfl 2 (by decide) (hts (.fieldLink RX6 22 "WasItOut$Text" "length" "I") (by decide +kernel)) (fun _ h9 => h9) rfl dX6_append_60 ?_
              refine lv_iconst (v := (1 : Int32)) hx hb dX6_append_63 (by decide) ?_
              refine lv_iadd hx hb dX6_append_64 ?_
              refine va_put (D := (dC, dI)) (ci := 6) (v := .int (v0_length_23 + (1 : Int32))) (ty := .int) (C := RX6) (T := TX6) (N := 3) hx hb hts hinX6 tyX6 tyX6_ok nmX6 hown hK hP hD hS 0 rfl rfl 2 (by decide) (hts (.fieldLink RX6 22 "WasItOut$Text" "length" "I") (by decide +kernel)) (fun _ h9 => h9) rfl (by decide +kernel) rfl rfl (Nat.le_of_ble_eq_true rfl) dX6_append_65 (fun H locs hP hD hS => ?_)
              have hP : va_P (dC, dI) vwCl [(h0, .inr (6, [.ref h1, g0_item, .int (v0_length_23 + (1 : Int32))])), (h1, .inl (k1, 200, .inl (upd c1_23 v0_length_23.toNatClampNeg ((a2.toUInt64 >>> (x4_23.toInt64.toUInt64 &&& Int64.toUInt64 63)).toInt64.toInt32 &&& (255 : Int32)))))] H := hP
              have hD : va_D A [(h0, .inr (6, [.ref h1, g0_item, .int (v0_length_23 + (1 : Int32))])), (h1, .inl (k1, 200, .inl (upd c1_23 v0_length_23.toNatClampNeg ((a2.toUInt64 >>> (x4_23.toInt64.toUInt64 &&& Int64.toUInt64 63)).toInt64.toInt32 &&& (255 : Int32)))))] := hD
              refine lv_iinc (v := (x4_23 + (-8 : Int32))) (lv' := [(4, .int (x4_23 + (-8 : Int32))), (0, .ref h0), (2, .long a2)]) hx hb dX6_append_68 hl (k := 2) rfl rfl (by decide) rfl (fun ls hl => ?_)
              refine lv_goto (tgt := 23) hx hb dX6_append_71 (by decide) ?_
              exact ih ((x4_23 + (-8 : Int32))) ((v0_length_23 + (1 : Int32))) ((upd c1_23 v0_length_23.toNatClampNeg ((a2.toUInt64 >>> (x4_23.toInt64.toUInt64 &&& Int64.toUInt64 63)).toInt64.toInt32 &&& (255 : Int32)))) ls H locs hrun hP hD hS (lv_sub hl [1, 2, 0] rfl)
      exact L23 N (((8 : Int32) * (a1 - (1 : Int32)))) v0_length c1 ls H locs hrun hP hD hS (lv_sub hl [1, 3, 0] rfl)
    · have hrun := oi_f hrun cc
      refine lv_bipush (v := (-3 : Int32)) hx hb dX6_append_12 (by decide) ?_
      cases hrun
      have hP9 : va_P (dC, dI) vwCl [(h0, .inr (6, [.ref h1, g0_item, .int v0_length])), (h1, .inl (k1, 200, .inl c1))] H := hP
      have hD9 : va_D A [(h0, .inr (6, [.ref h1, g0_item, .int v0_length])), (h1, .inl (k1, 200, .inl c1))] := hD
      exact W.iret hx hb hr (fun t ht hW => ⟨⟨_, (), rfl, rfl, by rw [ht]; exact hP9, va_K.moved hW.alike hK, hD9⟩, hS.F ht⟩) hS.2.2 dX6_append_14
  rw [hHe, hLe] at key
  exact key
set_option maxHeartbeats 4000000 in
set_option maxRecDepth 100000 in
theorem tX6_clear (l : Launch) (dC : Nat → ClassId) (dI : Nat → Nat → Nat) (sz : Nat) (h0 : Nat) (g0_bytes g0_item : Value) (N : Nat)  (v0_length : Int32) (ru : Int32 × (Int32)) (hm : fX6_clear N v0_length = some ru) : Met l yX6_clear wsX6_clear ({ frames := 0, cells := 0, slots := 0, locals := 0 } : Room) (va_Pc [.ref h0] (fun U => U.heap.size = sz ∧ va_P (dC, dI) vwCl [(h0, .inr (6, [g0_bytes, g0_item, .int v0_length]))] U.heap ∧ va_K (dC, dI) vwCl [] U ∧ va_D (fun _ => True) [(h0, .inr (6, [g0_bytes, g0_item, .int v0_length]))])) (va_Qi (fun r (_ : Unit) => r = ru.1) (fun (_ : Unit) t => va_P (dC, dI) vwCl [(h0, .inr (6, [g0_bytes, g0_item, .int ru.2]))] t.heap ∧ va_K (dC, dI) vwCl [] t ∧ va_D (va_A [(h0, .inr (6, [g0_bytes, g0_item, .int v0_length]))] sz) [(h0, .inr (6, [g0_bytes, g0_item, .int ru.2]))]) (va_A [(h0, .inr (6, [g0_bytes, g0_item, .int v0_length]))] sz)) 0 0 (va_A [(h0, .inr (6, [g0_bytes, g0_item, .int v0_length]))] sz) := by
  refine Met.ofW (cc := cX6_clear) (maxL := 2) (ret := (some .int)) (by decide) rfl ?_
  intro p e s m args below meth c s₁ B hml hv
  obtain ⟨rfl, hsz, hP, hK, hD0⟩ := hv
  have hx := B.exec
  have hb := B.bytes
  have hr := B.returns
  have hts := atoms_spec (ws := wsX6_clear) B.pre
  have hown : s.vm.findClass RX6 = some m.cls := findClass_of_methodNamed B.named
  have hlocks := B.notSynchronized
  subst hsz
  have hD := hD0.self (sz := s.heap.size)
  generalize hAe : va_A [(h0, .inr (6, [g0_bytes, g0_item, .int v0_length]))] s.heap.size = A at hD ⊢
  have hA : ∀ q : Nat, s.heap.size ≤ q → A q := fun q h => by rw [← hAe]; exact Or.inr h
  have hS : va_S A s.heap s.heap [] := va_S.rf
  have hinX6 : ∀ w ∈ wsX60, w ∈ wsX6_clear := by decide +kernel
  have hl := lv_entry ([.ref h0]) (n := 2) (Nat.le_of_ble_eq_true rfl)
  rw [lg_entry_eq]
  generalize (lg_sl ([.ref h0]) ++ List.replicate (2 - (lg_sl ([.ref h0])).length) Slot.unset).toArray = ls at hl ⊢
  have hl : lv_has ls 2 [(0, .ref h0)] := hl
  have hrun := hm
  rw [fX6_clear] at hrun
  obtain ⟨H, hHe⟩ : ∃ H, H = s.heap := ⟨_, rfl⟩
  obtain ⟨locs, hLe⟩ : ∃ locs : List Loc, locs = [] := ⟨_, rfl⟩
  rw [← hHe] at hP
  have hS : va_S A s.heap H locs := by rw [hHe, hLe]; exact hS
  have key : W p l e (headSpec wsX6_clear ({ frames := 0, cells := 0, slots := 0, locals := 0 } : Room)).room s m ([.ref h0] : List Value).toArray below meth c H locs 0 0 (MQ below (va_Qi (fun r (_ : Unit) => r = ru.1) (fun (_ : Unit) t => va_P (dC, dI) vwCl [(h0, .inr (6, [g0_bytes, g0_item, .int ru.2]))] t.heap ∧ va_K (dC, dI) vwCl [] t ∧ va_D A [(h0, .inr (6, [g0_bytes, g0_item, .int ru.2]))]) A) ([.ref h0] : List Value).toArray s 0 0 A) (F0 m 0 ls []) := by
    clear hHe hLe
    refine lv_aload_n hx hb dX6_clear_0 rfl (lv_at hl 0 rfl) ?_
    refine va_get (D := (dC, dI)) (ci := 6) (v := .int v0_length) (C := RX6) (T := TX6) (N := 3) hx hb hts hinX6 hown hK hP 0 rfl rfl 2 (by decide) (hts (.fieldLink RX6 22 "WasItOut$Text" "length" "I") (by decide +kernel)) (fun _ h9 => h9) rfl dX6_clear_1 ?_
    refine lv_istore_n (lv' := [(1, .int v0_length), (0, .ref h0)]) hx hb dX6_clear_4 rfl hl (by decide) rfl (fun ls hl => ?_)
    refine lv_aload_n hx hb dX6_clear_5 rfl (lv_at hl 1 rfl) ?_
    refine lv_iconst (v := (0 : Int32)) hx hb dX6_clear_6 (by decide) ?_
    refine va_put (D := (dC, dI)) (ci := 6) (v := .int (0 : Int32)) (ty := .int) (C := RX6) (T := TX6) (N := 3) hx hb hts hinX6 tyX6 tyX6_ok nmX6 hown hK hP hD hS 0 rfl rfl 2 (by decide) (hts (.fieldLink RX6 22 "WasItOut$Text" "length" "I") (by decide +kernel)) (fun _ h9 => h9) rfl (by decide +kernel) rfl rfl (Nat.le_of_ble_eq_true rfl) dX6_clear_7 (fun H locs hP hD hS => ?_)
    have hP : va_P (dC, dI) vwCl [(h0, .inr (6, [g0_bytes, g0_item, .int (0 : Int32)]))] H := hP
    have hD : va_D A [(h0, .inr (6, [g0_bytes, g0_item, .int (0 : Int32)]))] := hD
    refine lv_iload_n hx hb dX6_clear_10 rfl (lv_at hl 0 rfl) ?_
    cases hrun
    have hP9 : va_P (dC, dI) vwCl [(h0, .inr (6, [g0_bytes, g0_item, .int (0 : Int32)]))] H := hP
    have hD9 : va_D A [(h0, .inr (6, [g0_bytes, g0_item, .int (0 : Int32)]))] := hD
    exact W.iret hx hb hr (fun t ht hW => ⟨⟨_, (), rfl, rfl, by rw [ht]; exact hP9, va_K.moved hW.alike hK, hD9⟩, hS.F ht⟩) hS.2.2 dX6_clear_11
  rw [hHe, hLe] at key
  exact key
set_option maxHeartbeats 4000000 in
set_option maxRecDepth 100000 in
theorem tX6_firstFault (l : Launch) (dC : Nat → ClassId) (dI : Nat → Nat → Nat) (t : Nat → Nat) (sz : Nat) (h0 h1 h2 h3 : Nat) (k1 k3 : ClassId) (N : Nat)  (v0_length : Int32) (c1 : Nat → Int32) (v2_kind : Int32) (c3 : Nat → Int32) (ru : Int32 × (Int32) × (Nat → Int32)) (hm : fX6_firstFault N v0_length c1 v2_kind c3 = some ru) : Met l yX6_firstFault wsX6_firstFault ({ frames := 3, cells := 0, slots := 0, locals := 74 } : Room) (va_Pc [.ref h0] (fun U => U.heap.size = sz ∧ va_P (dC, dI) vwCl [(h0, .inr (6, [.ref h1, .ref h2, .int v0_length])), (h1, .inl (k1, 200, .inl c1)), (h2, .inr (3, [.ref h3, .int v2_kind])), (h3, .inl (k3, 3, .inl c3))] U.heap ∧ va_K (dC, dI) vwCl [(k1, .int), (k3, .int)] U ∧ va_D (fun _ => True) [(h0, .inr (6, [.ref h1, .ref h2, .int v0_length])), (h1, .inl (k1, 200, .inl c1)), (h2, .inr (3, [.ref h3, .int v2_kind])), (h3, .inl (k3, 3, .inl c3))] ∧ gG t (va_A [(h0, .inr (6, [.ref h1, .ref h2, .int v0_length])), (h1, .inl (k1, 200, .inl c1)), (h2, .inr (3, [.ref h3, .int v2_kind])), (h3, .inl (k3, 3, .inl c3))] sz) U U.heap)) (va_Qi (fun r (_ : Unit) => r = ru.1) (fun (_ : Unit) t => va_P (dC, dI) vwCl [(h0, .inr (6, [.ref h1, .ref h2, .int v0_length])), (h1, .inl (k1, 200, .inl c1)), (h2, .inr (3, [.ref h3, .int ru.2.1])), (h3, .inl (k3, 3, .inl ru.2.2))] t.heap ∧ va_K (dC, dI) vwCl [(k1, .int), (k3, .int)] t ∧ va_D (va_A [(h0, .inr (6, [.ref h1, .ref h2, .int v0_length])), (h1, .inl (k1, 200, .inl c1)), (h2, .inr (3, [.ref h3, .int v2_kind])), (h3, .inl (k3, 3, .inl c3))] sz) [(h0, .inr (6, [.ref h1, .ref h2, .int v0_length])), (h1, .inl (k1, 200, .inl c1)), (h2, .inr (3, [.ref h3, .int ru.2.1])), (h3, .inl (k3, 3, .inl ru.2.2))]) (va_A [(h0, .inr (6, [.ref h1, .ref h2, .int v0_length])), (h1, .inl (k1, 200, .inl c1)), (h2, .inr (3, [.ref h3, .int v2_kind])), (h3, .inl (k3, 3, .inl c3))] sz)) 0 0 (va_A [(h0, .inr (6, [.ref h1, .ref h2, .int v0_length])), (h1, .inl (k1, 200, .inl c1)), (h2, .inr (3, [.ref h3, .int v2_kind])), (h3, .inl (k3, 3, .inl c3))] sz) := by
  refine Met.ofW (cc := cX6_firstFault) (maxL := 4) (ret := (some .int)) (by decide) rfl ?_
  intro p e s m args below meth c s₁ B hml hv
  obtain ⟨rfl, hsz, hP, hK, hD0, hG⟩ := hv
  have hx := B.exec
  have hb := B.bytes
  have hr := B.returns
  have hts := atoms_spec (ws := wsX6_firstFault) B.pre
  have hown : s.vm.findClass RX6 = some m.cls := findClass_of_methodNamed B.named
  have hlocks := B.notSynchronized
  subst hsz
  have hD := hD0.self (sz := s.heap.size)
  generalize hAe : va_A [(h0, .inr (6, [.ref h1, .ref h2, .int v0_length])), (h1, .inl (k1, 200, .inl c1)), (h2, .inr (3, [.ref h3, .int v2_kind])), (h3, .inl (k3, 3, .inl c3))] s.heap.size = A at hD hG ⊢
  have hA : ∀ q : Nat, s.heap.size ≤ q → A q := fun q h => by rw [← hAe]; exact Or.inr h
  have hS : va_S A s.heap s.heap [] := va_S.rf
  have hinX6 : ∀ w ∈ wsX60, w ∈ wsX6_firstFault := by decide +kernel
  have hl := lv_entry ([.ref h0]) (n := 4) (Nat.le_of_ble_eq_true rfl)
  rw [lg_entry_eq]
  generalize (lg_sl ([.ref h0]) ++ List.replicate (4 - (lg_sl ([.ref h0])).length) Slot.unset).toArray = ls at hl ⊢
  have hl : lv_has ls 4 [(0, .ref h0)] := hl
  have hrun := hm
  rw [fX6_firstFault] at hrun
  obtain ⟨H, hHe⟩ : ∃ H, H = s.heap := ⟨_, rfl⟩
  obtain ⟨locs, hLe⟩ : ∃ locs : List Loc, locs = [] := ⟨_, rfl⟩
  rw [← hHe] at hP
  have hS : va_S A s.heap H locs := by rw [hHe, hLe]; exact hS
  have key : W p l e (headSpec wsX6_firstFault ({ frames := 3, cells := 0, slots := 0, locals := 74 } : Room)).room s m ([.ref h0] : List Value).toArray below meth c H locs 0 0 (MQ below (va_Qi (fun r (_ : Unit) => r = ru.1) (fun (_ : Unit) t => va_P (dC, dI) vwCl [(h0, .inr (6, [.ref h1, .ref h2, .int v0_length])), (h1, .inl (k1, 200, .inl c1)), (h2, .inr (3, [.ref h3, .int ru.2.1])), (h3, .inl (k3, 3, .inl ru.2.2))] t.heap ∧ va_K (dC, dI) vwCl [(k1, .int), (k3, .int)] t ∧ va_D A [(h0, .inr (6, [.ref h1, .ref h2, .int v0_length])), (h1, .inl (k1, 200, .inl c1)), (h2, .inr (3, [.ref h3, .int ru.2.1])), (h3, .inl (k3, 3, .inl ru.2.2))]) A) ([.ref h0] : List Value).toArray s 0 0 A) (F0 m 0 ls []) := by
    clear hHe hLe
    refine lv_iconst (v := (0 : Int32)) hx hb dX6_firstFault_0 (by decide) ?_
    refine lv_istore_n (lv' := [(1, .int (0 : Int32)), (0, .ref h0)]) hx hb dX6_firstFault_1 rfl hl (by decide) rfl (fun ls hl => ?_)
    refine lv_iconst (v := (0 : Int32)) hx hb dX6_firstFault_2 (by decide) ?_
    refine lv_istore_n (lv' := [(2, .int (0 : Int32)), (1, .int (0 : Int32)), (0, .ref h0)]) hx hb dX6_firstFault_3 rfl hl (by decide) rfl (fun ls hl => ?_)
    have L4 : ∀ (n : Nat) (x1_4 : Int32) (x2_4 : Int32) (v2_kind_4 : Int32) (c3_4 : Nat → Int32) (ls : Array Slot) (H : Heap) (locs : List Loc), fX6_firstFault_p4 N v0_length c1 n x1_4 x2_4 v2_kind_4 c3_4 = some ru → va_P (dC, dI) vwCl [(h0, .inr (6, [.ref h1, .ref h2, .int v0_length])), (h1, .inl (k1, 200, .inl c1)), (h2, .inr (3, [.ref h3, .int v2_kind_4])), (h3, .inl (k3, 3, .inl c3_4))] H → va_D A [(h0, .inr (6, [.ref h1, .ref h2, .int v0_length])), (h1, .inl (k1, 200, .inl c1)), (h2, .inr (3, [.ref h3, .int v2_kind_4])), (h3, .inl (k3, 3, .inl c3_4))] → va_S A s.heap H locs → lv_has ls 4 [(0, .ref h0), (1, .int x1_4), (2, .int x2_4)] → W p l e (headSpec wsX6_firstFault ({ frames := 3, cells := 0, slots := 0, locals := 74 } : Room)).room s m ([.ref h0] : List Value).toArray below meth c H locs 0 0 (MQ below (va_Qi (fun r (_ : Unit) => r = ru.1) (fun (_ : Unit) t => va_P (dC, dI) vwCl [(h0, .inr (6, [.ref h1, .ref h2, .int v0_length])), (h1, .inl (k1, 200, .inl c1)), (h2, .inr (3, [.ref h3, .int ru.2.1])), (h3, .inl (k3, 3, .inl ru.2.2))] t.heap ∧ va_K (dC, dI) vwCl [(k1, .int), (k3, .int)] t ∧ va_D A [(h0, .inr (6, [.ref h1, .ref h2, .int v0_length])), (h1, .inl (k1, 200, .inl c1)), (h2, .inr (3, [.ref h3, .int ru.2.1])), (h3, .inl (k3, 3, .inl ru.2.2))]) A) ([.ref h0] : List Value).toArray s 0 0 A) (F0 m 4 ls []) := by
      intro n
      induction n with
      | zero => intro x1_4 x2_4 v2_kind_4 c3_4 ls H locs hrun; rw [fX6_firstFault_p4] at hrun; exact on_e hrun
      | succ n ih =>
        intro x1_4 x2_4 v2_kind_4 c3_4 ls H locs hrun hP hD hS hl
        rw [fX6_firstFault_p4] at hrun
        refine lv_iload_n hx hb dX6_firstFault_4 rfl (lv_at hl 2 rfl) ?_
        refine lv_sipush (v := (200 : Int32)) hx hb dX6_firstFault_5 (by decide) ?_
        refine lv_icmp_ge (tgt := 43) hx hb dX6_firstFault_8 (by decide) (fun cc => ?_) (fun cc => ?_)
        · have hrun := oi_t hrun cc
          refine lv_bipush (v := (-4 : Int32)) hx hb dX6_firstFault_43 (by decide) ?_
          cases hrun
          have hP9 : va_P (dC, dI) vwCl [(h0, .inr (6, [.ref h1, .ref h2, .int v0_length])), (h1, .inl (k1, 200, .inl c1)), (h2, .inr (3, [.ref h3, .int v2_kind_4])), (h3, .inl (k3, 3, .inl c3_4))] H := hP
          have hD9 : va_D A [(h0, .inr (6, [.ref h1, .ref h2, .int v0_length])), (h1, .inl (k1, 200, .inl c1)), (h2, .inr (3, [.ref h3, .int v2_kind_4])), (h3, .inl (k3, 3, .inl c3_4))] := hD
          exact W.iret hx hb hr (fun t ht hW => ⟨⟨_, (), rfl, rfl, by rw [ht]; exact hP9, va_K.moved hW.alike hK, hD9⟩, hS.F ht⟩) hS.2.2 dX6_firstFault_45
        · have hrun := oi_f hrun cc
          refine lv_iload_n hx hb dX6_firstFault_11 rfl (lv_at hl 1 rfl) ?_
          refine lv_aload_n hx hb dX6_firstFault_12 rfl (lv_at hl 0 rfl) ?_
          refine va_get (D := (dC, dI)) (ci := 6) (v := .int v0_length) (C := RX6) (T := TX6) (N := 3) hx hb hts hinX6 hown hK hP 0 rfl rfl 2 (by decide) (hts (.fieldLink RX6 22 "WasItOut$Text" "length" "I") (by decide +kernel)) (fun _ h9 => h9) rfl dX6_firstFault_13 ?_
          refine lv_icmp_ge (tgt := 43) hx hb dX6_firstFault_16 (by decide) (fun cc => ?_) (fun cc => ?_)
          · have hrun := oi_t hrun cc
            refine lv_bipush (v := (-4 : Int32)) hx hb dX6_firstFault_43 (by decide) ?_
            cases hrun
            have hP9 : va_P (dC, dI) vwCl [(h0, .inr (6, [.ref h1, .ref h2, .int v0_length])), (h1, .inl (k1, 200, .inl c1)), (h2, .inr (3, [.ref h3, .int v2_kind_4])), (h3, .inl (k3, 3, .inl c3_4))] H := hP
            have hD9 : va_D A [(h0, .inr (6, [.ref h1, .ref h2, .int v0_length])), (h1, .inl (k1, 200, .inl c1)), (h2, .inr (3, [.ref h3, .int v2_kind_4])), (h3, .inl (k3, 3, .inl c3_4))] := hD
            exact W.iret hx hb hr (fun t ht hW => ⟨⟨_, (), rfl, rfl, by rw [ht]; exact hP9, va_K.moved hW.alike hK, hD9⟩, hS.F ht⟩) hS.2.2 dX6_firstFault_45
          · have hrun := oi_f hrun cc
            refine lv_aload_n hx hb dX6_firstFault_19 rfl (lv_at hl 0 rfl) ?_
            refine va_get (D := (dC, dI)) (ci := 6) (v := .ref h2) (C := RX6) (T := TX6) (N := 3) hx hb hts hinX6 hown hK hP 0 rfl rfl 1 (by decide) (hts (.fieldLink RX6 18 "WasItOut$Text" "item" "LWasItOut$Item;") (by decide +kernel)) (fun _ h9 => h9) rfl dX6_firstFault_20 ?_
            refine lv_aload_n hx hb dX6_firstFault_23 rfl (lv_at hl 0 rfl) ?_
            refine lv_iload_n hx hb dX6_firstFault_24 rfl (lv_at hl 1 rfl) ?_
            obtain ⟨q25, hc25, hrun⟩ := ob_e hrun
            refine wz_cqi (WC := [(h2, .inr (3, [.ref h3, .int v2_kind_4])), (h3, .inl (k3, 3, .inl c3_4)), (h0, .inr (6, [.ref h1, .ref h2, .int v0_length])), (h1, .inl (k1, 200, .inl c1))]) (WR := []) (W1 := [(h2, .inr (3, [.ref h3, .int q25.2.1])), (h3, .inl (k3, 3, .inl q25.2.2)), (h0, .inr (6, [.ref h1, .ref h2, .int v0_length])), (h1, .inl (k1, 200, .inl c1))]) (va_runV (As := [.ref h0, .int x1_4]) (rest := []) ⟨hx, hb, hml, hown, hts⟩ (tX3_readFrom l dC dI t H.size h2 h3 h0 h1 k3 k1 (.ref h2) N x1_4 v2_kind_4 c3_4 v0_length c1 q25 hc25) (cwV 2 hts gX6_firstFault_X3_readFrom rfl rfl rfl (by decide +kernel) ⟨Nat.le_of_ble_eq_true rfl, Nat.le_of_ble_eq_true rfl⟩) (wz_pVwG (hP.sub (ws' := [(h2, .inr (3, [.ref h3, .int v2_kind_4])), (h3, .inl (k3, 3, .inl c3_4)), (h0, .inr (6, [.ref h1, .ref h2, .int v0_length])), (h1, .inl (k1, 200, .inl c1))]) [2, 3, 0, 1] rfl) (hK.sub (tys' := [(k3, .int), (k1, .int)]) [1, 0] rfl) (hD.sub (ws' := [(h2, .inr (3, [.ref h3, .int v2_kind_4])), (h3, .inl (k3, 3, .inl c3_4)), (h0, .inr (6, [.ref h1, .ref h2, .int v0_length])), (h1, .inl (k1, 200, .inl c1))]) [2, 3, 0, 1] (by decide) rfl) hG hS (va_free (wc := [(h2, .inr (3, [.ref h3, .int v2_kind_4])), (h3, .inl (k3, 3, .inl c3_4)), (h0, .inr (6, [.ref h1, .ref h2, .int v0_length])), (h1, .inl (k1, 200, .inl c1))]) hD hS hA [2, 3, 0, 1] rfl) (va_recv hK hP (ci := 3) (q0 := 2) rfl rfl)) rfl rfl hl.1 rfl (lv_room (Nat.le_of_ble_eq_true rfl)) dX6_firstFault_25 ⟨Nat.zero_le _, Nat.zero_le _⟩) hP hD hS hA [2, 3, 0, 1] [] rfl rfl (by decide) (by decide) (fun H locs hP hD hS => ?_)
            have hP : va_P (dC, dI) vwCl [(h2, .inr (3, [.ref h3, .int q25.2.1])), (h3, .inl (k3, 3, .inl q25.2.2)), (h0, .inr (6, [.ref h1, .ref h2, .int v0_length])), (h1, .inl (k1, 200, .inl c1))] H := hP
            have hD : va_D A [(h2, .inr (3, [.ref h3, .int q25.2.1])), (h3, .inl (k3, 3, .inl q25.2.2)), (h0, .inr (6, [.ref h1, .ref h2, .int v0_length])), (h1, .inl (k1, 200, .inl c1))] := hD
            refine lv_istore_n (lv' := [(3, .int q25.1), (0, .ref h0), (1, .int x1_4), (2, .int x2_4)]) hx hb dX6_firstFault_28 rfl hl (by decide) rfl (fun ls hl => ?_)
            refine lv_iload_n hx hb dX6_firstFault_29 rfl (lv_at hl 0 rfl) ?_
            refine lv_if_ge (tgt := 35) hx hb dX6_firstFault_30 (by decide) (fun cc => ?_) (fun cc => ?_)
            · have hrun := oi_t hrun cc
              refine lv_iload_n hx hb dX6_firstFault_35 rfl (lv_at hl 0 rfl) ?_
              refine lv_istore_n (lv' := [(1, .int q25.1), (3, .int q25.1), (0, .ref h0), (2, .int x2_4)]) hx hb dX6_firstFault_36 rfl hl (by decide) rfl (fun ls hl => ?_)
              refine lv_iinc (v := (x2_4 + (1 : Int32))) (lv' := [(2, .int (x2_4 + (1 : Int32))), (1, .int q25.1), (3, .int q25.1), (0, .ref h0)]) hx hb dX6_firstFault_37 hl (k := 3) rfl rfl (by decide) rfl (fun ls hl => ?_)
              refine lv_goto (tgt := 4) hx hb dX6_firstFault_40 (by decide) ?_
              exact ih q25.1 ((x2_4 + (1 : Int32))) q25.2.1 q25.2.2 ls H locs hrun (hP.sub [2, 3, 0, 1] rfl) (hD.sub [2, 3, 0, 1] (by decide) rfl) hS (lv_sub hl [3, 1, 0] rfl)
            · have hrun := oi_f hrun cc
              refine lv_iload_n hx hb dX6_firstFault_33 rfl (lv_at hl 2 rfl) ?_
              cases hrun
              have hP9 : va_P (dC, dI) vwCl [(h0, .inr (6, [.ref h1, .ref h2, .int v0_length])), (h1, .inl (k1, 200, .inl c1)), (h2, .inr (3, [.ref h3, .int q25.2.1])), (h3, .inl (k3, 3, .inl q25.2.2))] H := (hP.sub [2, 3, 0, 1] rfl)
              have hD9 : va_D A [(h0, .inr (6, [.ref h1, .ref h2, .int v0_length])), (h1, .inl (k1, 200, .inl c1)), (h2, .inr (3, [.ref h3, .int q25.2.1])), (h3, .inl (k3, 3, .inl q25.2.2))] := (hD.sub [2, 3, 0, 1] (by decide) rfl)
              exact W.iret hx hb hr (fun t ht hW => ⟨⟨_, (), rfl, rfl, by rw [ht]; exact hP9, va_K.moved hW.alike hK, hD9⟩, hS.F ht⟩) hS.2.2 dX6_firstFault_34
    exact L4 N ((0 : Int32)) ((0 : Int32)) v2_kind c3 ls H locs hrun hP hD hS (lv_sub hl [2, 1, 0] rfl)
  rw [hHe, hLe] at key
  exact key
set_option maxHeartbeats 4000000 in
set_option maxRecDepth 100000 in
theorem tX9_isCurve (l : Launch) (dC : Nat → ClassId) (dI : Nat → Nat → Nat) (N : Nat) (a0 : Int32)  (ru : Int32) (hm : fX9_isCurve N a0 = some ru) : Met l yX9_isCurve wsX9_isCurve ({ frames := 1, cells := 0, slots := 0, locals := 22 } : Room) (va_Pc [.int a0] (fun U => va_P (dC, dI) vwCl [] U.heap ∧ va_K (dC, dI) vwCl [] U)) (vp_Si (fun r => r = ru ∧ narrow .boolean (.int r) = .int r)) 0 0 (fun _ => False) := by
  refine Met.ofW (cc := cX9_isCurve) (maxL := 1) (ret := (some .boolean)) (by decide) rfl ?_
  intro p e s m args below meth c s₁ B hml hv
  obtain ⟨rfl, hP, hK⟩ := hv
  have hx := B.exec
  have hb := B.bytes
  have hr := B.returns
  have hts := atoms_spec (ws := wsX9_isCurve) B.pre
  have hown : s.vm.findClass RX9 = some m.cls := findClass_of_methodNamed B.named
  have hlocks := B.notSynchronized
  have hl := lv_entry ([.int a0]) (n := 1) (Nat.le_of_ble_eq_true rfl)
  rw [lg_entry_eq]
  generalize (lg_sl ([.int a0]) ++ List.replicate (1 - (lg_sl ([.int a0])).length) Slot.unset).toArray = ls at hl ⊢
  have hl : lv_has ls 1 [(0, .int a0)] := hl
  have hrun := hm
  rw [fX9_isCurve] at hrun
  refine lv_iload_n hx hb dX9_isCurve_0 rfl (lv_at hl 0 rfl) ?_
  refine lv_iconst (v := (0 : Int32)) hx hb dX9_isCurve_1 (by decide) ?_
  refine lv_sipush (v := (188 : Int32)) hx hb dX9_isCurve_2 (by decide) ?_
  obtain ⟨q5, hc5, hrun⟩ := ob_e hrun
  refine wz_csz (va_runS (As := [.int a0, .int (0 : Int32), .int (188 : Int32)]) (rest := []) ⟨hx, hb, hml, hown, hts⟩ (tX9_within l dC dI N a0 ((0 : Int32)) ((188 : Int32)) q5 hc5) (va_cwS 3 hts gX9_isCurve_X9_within rfl rfl rfl (by decide +kernel) ⟨Nat.le_of_ble_eq_true rfl, Nat.le_of_ble_eq_true rfl⟩) (wz_pSr (hP.sub (ws' := []) [] rfl) (hK.sub (tys' := []) [] rfl)) rfl rfl hl.1 rfl (lv_room (Nat.le_of_ble_eq_true rfl)) dX9_isCurve_5 ⟨Nat.zero_le _, Nat.zero_le _⟩) (fun hz5 => ?_)
  exact W.zret hx hb hr hz5 (fun t ht _ => ⟨_, rfl, ⟨Option.some.inj hrun, hz5⟩, ht⟩) (fun _ h => by cases h) dX9_isCurve_8
set_option maxHeartbeats 4000000 in
set_option maxRecDepth 100000 in
theorem tX9_isTick (l : Launch) (dC : Nat → ClassId) (dI : Nat → Nat → Nat) (N : Nat) (a0 : Int32)  (ru : Int32) (hm : fX9_isTick N a0 = some ru) : Met l yX9_isTick wsX9_isTick ({ frames := 1, cells := 0, slots := 0, locals := 22 } : Room) (va_Pc [.int a0] (fun U => va_P (dC, dI) vwCl [] U.heap ∧ va_K (dC, dI) vwCl [] U)) (vp_Si (fun r => r = ru ∧ narrow .boolean (.int r) = .int r)) 0 0 (fun _ => False) := by
  refine Met.ofW (cc := cX9_isTick) (maxL := 1) (ret := (some .boolean)) (by decide) rfl ?_
  intro p e s m args below meth c s₁ B hml hv
  obtain ⟨rfl, hP, hK⟩ := hv
  have hx := B.exec
  have hb := B.bytes
  have hr := B.returns
  have hts := atoms_spec (ws := wsX9_isTick) B.pre
  have hown : s.vm.findClass RX9 = some m.cls := findClass_of_methodNamed B.named
  have hlocks := B.notSynchronized
  have hl := lv_entry ([.int a0]) (n := 1) (Nat.le_of_ble_eq_true rfl)
  rw [lg_entry_eq]
  generalize (lg_sl ([.int a0]) ++ List.replicate (1 - (lg_sl ([.int a0])).length) Slot.unset).toArray = ls at hl ⊢
  have hl : lv_has ls 1 [(0, .int a0)] := hl
  have hrun := hm
  rw [fX9_isTick] at hrun
  refine lv_iload_n hx hb dX9_isTick_0 rfl (lv_at hl 0 rfl) ?_
  refine lv_iconst (v := (0 : Int32)) hx hb dX9_isTick_1 (by decide) ?_
  refine lv_sipush (v := (600 : Int32)) hx hb dX9_isTick_2 (by decide) ?_
  obtain ⟨q5, hc5, hrun⟩ := ob_e hrun
  refine wz_csz (va_runS (As := [.int a0, .int (0 : Int32), .int (600 : Int32)]) (rest := []) ⟨hx, hb, hml, hown, hts⟩ (tX9_within l dC dI N a0 ((0 : Int32)) ((600 : Int32)) q5 hc5) (va_cwS 3 hts gX9_isTick_X9_within rfl rfl rfl (by decide +kernel) ⟨Nat.le_of_ble_eq_true rfl, Nat.le_of_ble_eq_true rfl⟩) (wz_pSr (hP.sub (ws' := []) [] rfl) (hK.sub (tys' := []) [] rfl)) rfl rfl hl.1 rfl (lv_room (Nat.le_of_ble_eq_true rfl)) dX9_isTick_5 ⟨Nat.zero_le _, Nat.zero_le _⟩) (fun hz5 => ?_)
  exact W.zret hx hb hr hz5 (fun t ht _ => ⟨_, rfl, ⟨Option.some.inj hrun, hz5⟩, ht⟩) (fun _ h => by cases h) dX9_isTick_8
set_option maxHeartbeats 4000000 in
set_option maxRecDepth 100000 in
theorem tX9_isCamera (l : Launch) (dC : Nat → ClassId) (dI : Nat → Nat → Nat) (N : Nat) (a0 : Int32)  (ru : Int32) (hm : fX9_isCamera N a0 = some ru) : Met l yX9_isCamera wsX9_isCamera ({ frames := 1, cells := 0, slots := 0, locals := 22 } : Room) (va_Pc [.int a0] (fun U => va_P (dC, dI) vwCl [] U.heap ∧ va_K (dC, dI) vwCl [] U)) (vp_Si (fun r => r = ru ∧ narrow .boolean (.int r) = .int r)) 0 0 (fun _ => False) := by
  refine Met.ofW (cc := cX9_isCamera) (maxL := 1) (ret := (some .boolean)) (by decide) rfl ?_
  intro p e s m args below meth c s₁ B hml hv
  obtain ⟨rfl, hP, hK⟩ := hv
  have hx := B.exec
  have hb := B.bytes
  have hr := B.returns
  have hts := atoms_spec (ws := wsX9_isCamera) B.pre
  have hown : s.vm.findClass RX9 = some m.cls := findClass_of_methodNamed B.named
  have hlocks := B.notSynchronized
  have hl := lv_entry ([.int a0]) (n := 1) (Nat.le_of_ble_eq_true rfl)
  rw [lg_entry_eq]
  generalize (lg_sl ([.int a0]) ++ List.replicate (1 - (lg_sl ([.int a0])).length) Slot.unset).toArray = ls at hl ⊢
  have hl : lv_has ls 1 [(0, .int a0)] := hl
  have hrun := hm
  rw [fX9_isCamera] at hrun
  refine lv_iload_n hx hb dX9_isCamera_0 rfl (lv_at hl 0 rfl) ?_
  refine lv_iconst (v := (0 : Int32)) hx hb dX9_isCamera_1 (by decide) ?_
  refine lv_iconst (v := (3 : Int32)) hx hb dX9_isCamera_2 (by decide) ?_
  obtain ⟨q3, hc3, hrun⟩ := ob_e hrun
  refine wz_csz (va_runS (As := [.int a0, .int (0 : Int32), .int (3 : Int32)]) (rest := []) ⟨hx, hb, hml, hown, hts⟩ (tX9_within l dC dI N a0 ((0 : Int32)) ((3 : Int32)) q3 hc3) (va_cwS 3 hts gX9_isCamera_X9_within rfl rfl rfl (by decide +kernel) ⟨Nat.le_of_ble_eq_true rfl, Nat.le_of_ble_eq_true rfl⟩) (wz_pSr (hP.sub (ws' := []) [] rfl) (hK.sub (tys' := []) [] rfl)) rfl rfl hl.1 rfl (lv_room (Nat.le_of_ble_eq_true rfl)) dX9_isCamera_3 ⟨Nat.zero_le _, Nat.zero_le _⟩) (fun hz3 => ?_)
  exact W.zret hx hb hr hz3 (fun t ht _ => ⟨_, rfl, ⟨Option.some.inj hrun, hz3⟩, ht⟩) (fun _ h => by cases h) dX9_isCamera_6
set_option maxHeartbeats 4000000 in
set_option maxRecDepth 100000 in
theorem tX9_isDoubt (l : Launch) (dC : Nat → ClassId) (dI : Nat → Nat → Nat) (N : Nat) (a0 : Int32)  (ru : Int32) (hm : fX9_isDoubt N a0 = some ru) : Met l yX9_isDoubt wsX9_isDoubt ({ frames := 1, cells := 0, slots := 0, locals := 22 } : Room) (va_Pc [.int a0] (fun U => va_P (dC, dI) vwCl [] U.heap ∧ va_K (dC, dI) vwCl [] U)) (vp_Si (fun r => r = ru ∧ narrow .boolean (.int r) = .int r)) 0 0 (fun _ => False) := by
  refine Met.ofW (cc := cX9_isDoubt) (maxL := 1) (ret := (some .boolean)) (by decide) rfl ?_
  intro p e s m args below meth c s₁ B hml hv
  obtain ⟨rfl, hP, hK⟩ := hv
  have hx := B.exec
  have hb := B.bytes
  have hr := B.returns
  have hts := atoms_spec (ws := wsX9_isDoubt) B.pre
  have hown : s.vm.findClass RX9 = some m.cls := findClass_of_methodNamed B.named
  have hlocks := B.notSynchronized
  have hl := lv_entry ([.int a0]) (n := 1) (Nat.le_of_ble_eq_true rfl)
  rw [lg_entry_eq]
  generalize (lg_sl ([.int a0]) ++ List.replicate (1 - (lg_sl ([.int a0])).length) Slot.unset).toArray = ls at hl ⊢
  have hl : lv_has ls 1 [(0, .int a0)] := hl
  have hrun := hm
  rw [fX9_isDoubt] at hrun
  refine lv_iload_n hx hb dX9_isDoubt_0 rfl (lv_at hl 0 rfl) ?_
  refine lv_iconst (v := (0 : Int32)) hx hb dX9_isDoubt_1 (by decide) ?_
  refine lv_sipush (v := (1000 : Int32)) hx hb dX9_isDoubt_2 (by decide) ?_
  obtain ⟨q5, hc5, hrun⟩ := ob_e hrun
  refine wz_csz (va_runS (As := [.int a0, .int (0 : Int32), .int (1000 : Int32)]) (rest := []) ⟨hx, hb, hml, hown, hts⟩ (tX9_within l dC dI N a0 ((0 : Int32)) ((1000 : Int32)) q5 hc5) (va_cwS 3 hts gX9_isDoubt_X9_within rfl rfl rfl (by decide +kernel) ⟨Nat.le_of_ble_eq_true rfl, Nat.le_of_ble_eq_true rfl⟩) (wz_pSr (hP.sub (ws' := []) [] rfl) (hK.sub (tys' := []) [] rfl)) rfl rfl hl.1 rfl (lv_room (Nat.le_of_ble_eq_true rfl)) dX9_isDoubt_5 ⟨Nat.zero_le _, Nat.zero_le _⟩) (fun hz5 => ?_)
  exact W.zret hx hb hr hz5 (fun t ht _ => ⟨_, rfl, ⟨Option.some.inj hrun, hz5⟩, ht⟩) (fun _ h => by cases h) dX9_isDoubt_8
set_option maxHeartbeats 4000000 in
set_option maxRecDepth 100000 in
theorem tX9_calledBy (l : Launch) (dC : Nat → ClassId) (dI : Nat → Nat → Nat) (N : Nat) (a0 : Int32) (a1 : Int32) (a2 : Int32)  (ru : Int32) (hm : fX9_calledBy N a0 a1 a2 = some ru) : Met l yX9_calledBy wsX9_calledBy ({ frames := 0, cells := 0, slots := 0, locals := 0 } : Room) (va_Pc [.int a0, .int a1, .int a2] (fun U => va_P (dC, dI) vwCl [] U.heap ∧ va_K (dC, dI) vwCl [] U)) (vp_Si (fun r => r = ru)) 0 0 (fun _ => False) := by
  refine Met.ofW (cc := cX9_calledBy) (maxL := 3) (ret := (some .int)) (by decide) rfl ?_
  intro p e s m args below meth c s₁ B hml hv
  obtain ⟨rfl, hP, hK⟩ := hv
  have hx := B.exec
  have hb := B.bytes
  have hr := B.returns
  have hts := atoms_spec (ws := wsX9_calledBy) B.pre
  have hown : s.vm.findClass RX9 = some m.cls := findClass_of_methodNamed B.named
  have hlocks := B.notSynchronized
  have hl := lv_entry ([.int a0, .int a1, .int a2]) (n := 3) (Nat.le_of_ble_eq_true rfl)
  rw [lg_entry_eq]
  generalize (lg_sl ([.int a0, .int a1, .int a2]) ++ List.replicate (3 - (lg_sl ([.int a0, .int a1, .int a2])).length) Slot.unset).toArray = ls at hl ⊢
  have hl : lv_has ls 3 [(0, .int a0), (1, .int a1), (2, .int a2)] := hl
  have hrun := hm
  rw [fX9_calledBy] at hrun
  refine lv_bipush (v := (100 : Int32)) hx hb dX9_calledBy_0 (by decide) ?_
  refine lv_iload_n hx hb dX9_calledBy_2 rfl (lv_at hl 0 rfl) ?_
  refine lv_imul hx hb dX9_calledBy_3 ?_
  refine lv_iload_n hx hb dX9_calledBy_4 rfl (lv_at hl 2 rfl) ?_
  refine lv_icmp_lt (tgt := 10) hx hb dX9_calledBy_5 (by decide) (fun cc => ?_) (fun cc => ?_)
  · have hrun := oi_t hrun cc
    refine lv_bipush (v := (100 : Int32)) hx hb dX9_calledBy_10 (by decide) ?_
    refine lv_iload_n hx hb dX9_calledBy_12 rfl (lv_at hl 1 rfl) ?_
    refine lv_imul hx hb dX9_calledBy_13 ?_
    refine lv_iload_n hx hb dX9_calledBy_14 rfl (lv_at hl 2 rfl) ?_
    refine lv_icmp_lt (tgt := 22) hx hb dX9_calledBy_15 (by decide) (fun cc => ?_) (fun cc => ?_)
    · have hrun := oi_t hrun cc
      refine lv_iconst (v := (1 : Int32)) hx hb dX9_calledBy_22 (by decide) ?_
      exact W.iret hx hb hr (fun t ht _ => ⟨_, rfl, Option.some.inj hrun, ht⟩) (fun _ h => by cases h) dX9_calledBy_23
    · have hrun := oi_f hrun cc
      refine lv_iconst (v := (0 : Int32)) hx hb dX9_calledBy_18 (by decide) ?_
      refine lv_goto (tgt := 23) hx hb dX9_calledBy_19 (by decide) ?_
      exact W.iret hx hb hr (fun t ht _ => ⟨_, rfl, Option.some.inj hrun, ht⟩) (fun _ h => by cases h) dX9_calledBy_23
  · have hrun := oi_f hrun cc
    refine lv_iconst (v := (2 : Int32)) hx hb dX9_calledBy_8 (by decide) ?_
    exact W.iret hx hb hr (fun t ht _ => ⟨_, rfl, Option.some.inj hrun, ht⟩) (fun _ h => by cases h) dX9_calledBy_9
set_option maxHeartbeats 4000000 in
set_option maxRecDepth 100000 in
theorem tX9_onField (l : Launch) (dC : Nat → ClassId) (dI : Nat → Nat → Nat) (N : Nat) (a0 : Int32)  (ru : Int32) (hm : fX9_onField N a0 = some ru) : Met l yX9_onField wsX9_onField ({ frames := 1, cells := 0, slots := 0, locals := 22 } : Room) (va_Pc [.int a0] (fun U => va_P (dC, dI) vwCl [] U.heap ∧ va_K (dC, dI) vwCl [] U)) (vp_Si (fun r => r = ru ∧ narrow .boolean (.int r) = .int r)) 0 0 (fun _ => False) := by
  refine Met.ofW (cc := cX9_onField) (maxL := 1) (ret := (some .boolean)) (by decide) rfl ?_
  intro p e s m args below meth c s₁ B hml hv
  obtain ⟨rfl, hP, hK⟩ := hv
  have hx := B.exec
  have hb := B.bytes
  have hr := B.returns
  have hts := atoms_spec (ws := wsX9_onField) B.pre
  have hown : s.vm.findClass RX9 = some m.cls := findClass_of_methodNamed B.named
  have hlocks := B.notSynchronized
  have hl := lv_entry ([.int a0]) (n := 1) (Nat.le_of_ble_eq_true rfl)
  rw [lg_entry_eq]
  generalize (lg_sl ([.int a0]) ++ List.replicate (1 - (lg_sl ([.int a0])).length) Slot.unset).toArray = ls at hl ⊢
  have hl : lv_has ls 1 [(0, .int a0)] := hl
  have hrun := hm
  rw [fX9_onField] at hrun
  refine lv_iload_n hx hb dX9_onField_0 rfl (lv_at hl 0 rfl) ?_
  refine lv_ldc (v := (-100000 : Int32)) hx hb hown (hts (.constant RX9 119 (-100000 : Int32)) (by decide +kernel)) dX9_onField_1 ?_
  refine lv_ldcw (v := (100000 : Int32)) hx hb hown (hts (.constant RX9 273 (100000 : Int32)) (by decide +kernel)) dX9_onField_3 ?_
  obtain ⟨q6, hc6, hrun⟩ := ob_e hrun
  refine wz_csz (va_runS (As := [.int a0, .int (-100000 : Int32), .int (100000 : Int32)]) (rest := []) ⟨hx, hb, hml, hown, hts⟩ (tX9_within l dC dI N a0 ((-100000 : Int32)) ((100000 : Int32)) q6 hc6) (va_cwS 3 hts gX9_onField_X9_within rfl rfl rfl (by decide +kernel) ⟨Nat.le_of_ble_eq_true rfl, Nat.le_of_ble_eq_true rfl⟩) (wz_pSr (hP.sub (ws' := []) [] rfl) (hK.sub (tys' := []) [] rfl)) rfl rfl hl.1 rfl (lv_room (Nat.le_of_ble_eq_true rfl)) dX9_onField_6 ⟨Nat.zero_le _, Nat.zero_le _⟩) (fun hz6 => ?_)
  exact W.zret hx hb hr hz6 (fun t ht _ => ⟨_, rfl, ⟨Option.some.inj hrun, hz6⟩, ht⟩) (fun _ h => by cases h) dX9_onField_9
