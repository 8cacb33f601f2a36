set_option maxHeartbeats 4000000 in
set_option maxRecDepth 100000 in
theorem tX10_in (l : Launch) (dC : Nat → ClassId) (dI : Nat → Nat → Nat) (N : Nat) (a0 : Int64) (a2 : Int64) (a4 : Int64)  (ru : Int32) (hm : fX10_in N a0 a2 a4 = some ru) : Met l yX10_in wsX10_in ({ frames := 0, cells := 0, slots := 0, locals := 0 } : Room) (va_Pc [.long a0, .long a2, .long a4] (fun U => va_P (dC, dI) vwCl [] U.heap ∧ va_K (dC, dI) vwCl [] U)) (vp_Si (fun r => r = ru ∧ narrow .boolean (.int r) = .int r)) 0 0 (fun _ => False) := by
  refine Met.ofW (cc := cX10_in) (maxL := 6) (ret := (some .boolean)) (by decide) rfl ?_
  intro p e s m args below meth c s₁ B hml hv
  obtain ⟨rfl, hP, hK⟩ := hv
  have hx := B.exec
  have hb := B.bytes
  have hr := B.returns
  have hts := atoms_spec (ws := wsX10_in) B.pre
  have hown : s.vm.findClass RX10 = some m.cls := findClass_of_methodNamed B.named
  have hlocks := B.notSynchronized
  have hl := lv_entry ([.long a0, .long a2, .long a4]) (n := 6) (Nat.le_of_ble_eq_true rfl)
  rw [lg_entry_eq]
  generalize (lg_sl ([.long a0, .long a2, .long a4]) ++ List.replicate (6 - (lg_sl ([.long a0, .long a2, .long a4])).length) Slot.unset).toArray = ls at hl ⊢
  have hl : lv_has ls 6 [(0, .long a0), (2, .long a2), (4, .long a4)] := hl
  have hrun := hm
  rw [fX10_in] at hrun
  refine lv_lload_n hx hb dX10_in_0 rfl (lv_at hl 0 rfl) ?_
  refine lv_lload_n hx hb dX10_in_1 rfl (lv_at hl 1 rfl) ?_
  refine W.lcmp hx hb dX10_in_2 ?_
  refine lv_if_lt (tgt := 17) hx hb dX10_in_3 (by decide) (fun cc => ?_) (fun cc => ?_)
  · have hrun := oi_t hrun cc
    refine lv_iconst (v := (0 : Int32)) hx hb dX10_in_17 (by decide) ?_
    exact W.zret hx hb hr (by rfl) (fun t ht _ => ⟨_, rfl, ⟨Option.some.inj hrun, (by rfl)⟩, ht⟩) (fun _ h => by cases h) dX10_in_18
  · have hrun := oi_f hrun cc
    refine lv_lload_n hx hb dX10_in_6 rfl (lv_at hl 0 rfl) ?_
    refine lv_lload hx hb dX10_in_7 (lv_at hl 2 rfl) ?_
    refine W.lcmp hx hb dX10_in_9 ?_
    refine lv_if_gt (tgt := 17) hx hb dX10_in_10 (by decide) (fun cc => ?_) (fun cc => ?_)
    · have hrun := oi_t hrun cc
      refine lv_iconst (v := (0 : Int32)) hx hb dX10_in_17 (by decide) ?_
      exact W.zret hx hb hr (by rfl) (fun t ht _ => ⟨_, rfl, ⟨Option.some.inj hrun, (by rfl)⟩, ht⟩) (fun _ h => by cases h) dX10_in_18
    · have hrun := oi_f hrun cc
      refine lv_iconst (v := (1 : Int32)) hx hb dX10_in_13 (by decide) ?_
      refine lv_goto (tgt := 18) hx hb dX10_in_14 (by decide) ?_
      exact W.zret hx hb hr (by rfl) (fun t ht _ => ⟨_, rfl, ⟨Option.some.inj hrun, (by rfl)⟩, ht⟩) (fun _ h => by cases h) dX10_in_18
set_option maxHeartbeats 4000000 in
set_option maxRecDepth 100000 in
theorem tX10_last (l : Launch) (dC : Nat → ClassId) (dI : Nat → Nat → Nat) (h0 h1 h2 : Nat) (k1 k2 : ClassId) (g0_length g0_text g0_balls g0_outs g0_sightMany g0_sights g0_keptMany g0_cameras g0_callMany g0_calls g0_shares g0_rights g0_caseMany g0_cases g0_place g0_numbers g0_xs g0_ys g0_zs g0_us g0_vs g0_ws g0_touchTick g0_touchHalf g0_powers g0_worths : Value) (N : Nat) (a1 : Int32) (c1 : Nat → Int32) (c2 : Nat → Int32) (ru : Int32) (hm : fX10_last N a1 c1 c2 = some ru) : Met l yX10_last wsX10_last ({ frames := 0, cells := 0, slots := 0, locals := 0 } : Room) (va_Pc [.ref h0, .int a1] (fun U => va_P (dC, dI) vwCl [(h0, .inr (10, [g0_length, g0_text, .ref h1, .ref h2, g0_balls, g0_outs, g0_sightMany, g0_sights, g0_keptMany, g0_cameras, g0_callMany, g0_calls, g0_shares, g0_rights, g0_caseMany, g0_cases, g0_place, g0_numbers, g0_xs, g0_ys, g0_zs, g0_us, g0_vs, g0_ws, g0_touchTick, g0_touchHalf, g0_powers, g0_worths])), (h1, .inl (k1, 2, .inl c1)), (h2, .inl (k2, 536, .inl c2))] U.heap ∧ va_K (dC, dI) vwCl [(k1, .int), (k2, .int)] U)) (vp_Si (fun r => r = ru)) 0 0 (fun _ => False) := by
  refine Met.ofW (cc := cX10_last) (maxL := 4) (ret := (some .int)) (by decide) rfl ?_
  intro p e s m args below meth c s₁ B hml hv
  obtain ⟨rfl, hP, hK⟩ := hv
  have hx := B.exec
  have hb := B.bytes
  have hr := B.returns
  have hts := atoms_spec (ws := wsX10_last) B.pre
  have hown : s.vm.findClass RX10 = some m.cls := findClass_of_methodNamed B.named
  have hlocks := B.notSynchronized
  have hinX10 : ∀ w ∈ wsX100, w ∈ wsX10_last := by decide +kernel
  have hl := lv_entry ([.ref h0, .int a1]) (n := 4) (Nat.le_of_ble_eq_true rfl)
  rw [lg_entry_eq]
  generalize (lg_sl ([.ref h0, .int a1]) ++ List.replicate (4 - (lg_sl ([.ref h0, .int a1])).length) Slot.unset).toArray = ls at hl ⊢
  have hl : lv_has ls 4 [(0, .ref h0), (1, .int a1)] := hl
  have hrun := hm
  rw [fX10_last] at hrun
  refine lv_bipush (v := (-4 : Int32)) hx hb dX10_last_0 (by decide) ?_
  refine lv_istore_n (lv' := [(2, .int (-4 : Int32)), (0, .ref h0), (1, .int a1)]) hx hb dX10_last_2 rfl hl (by decide) rfl (fun ls hl => ?_)
  refine lv_iconst (v := (0 : Int32)) hx hb dX10_last_3 (by decide) ?_
  refine lv_istore_n (lv' := [(3, .int (0 : Int32)), (2, .int (-4 : Int32)), (0, .ref h0), (1, .int a1)]) hx hb dX10_last_4 rfl hl (by decide) rfl (fun ls hl => ?_)
  obtain ⟨k41, ek41, hrun⟩ := jn_e hrun
  have J41 : ∀ (x2_41 : Int32) (ls : Array Slot), k41 x2_41 = some ru → lv_has ls 4 [(2, .int x2_41)] → W p l e (headSpec wsX10_last ({ frames := 0, cells := 0, slots := 0, locals := 0 } : Room)).room s m ([.ref h0, .int a1] : List Value).toArray below meth c s.heap [] 0 0 (MQ below (vp_Si (fun r => r = ru)) ([.ref h0, .int a1] : List Value).toArray s 0 0 (fun _ => False)) (F0 m 41 ls []) := by
    intro x2_41 ls hrun hl
    rw [ek41] at hrun
    refine lv_iload_n hx hb dX10_last_41 rfl (lv_at hl 0 rfl) ?_
    exact W.iret hx hb hr (fun t ht _ => ⟨_, rfl, Option.some.inj hrun, ht⟩) (fun _ h => by cases h) dX10_last_42
  have L5 : ∀ (n : Nat) (x2_5 : Int32) (x3_5 : Int32) (ls : Array Slot), fX10_last_p5 N a1 c1 c2 k41 n x2_5 x3_5 = some ru → lv_has ls 4 [(0, .ref h0), (1, .int a1), (2, .int x2_5), (3, .int x3_5)] → W p l e (headSpec wsX10_last ({ frames := 0, cells := 0, slots := 0, locals := 0 } : Room)).room s m ([.ref h0, .int a1] : List Value).toArray below meth c s.heap [] 0 0 (MQ below (vp_Si (fun r => r = ru)) ([.ref h0, .int a1] : List Value).toArray s 0 0 (fun _ => False)) (F0 m 5 ls []) := by
    intro n
    induction n with
    | zero => intro x2_5 x3_5 ls hrun; rw [fX10_last_p5] at hrun; exact on_e hrun
    | succ n ih =>
      intro x2_5 x3_5 ls hrun hl
      rw [fX10_last_p5] at hrun
      refine lv_iload_n hx hb dX10_last_5 rfl (lv_at hl 3 rfl) ?_
      refine lv_aload_n hx hb dX10_last_6 rfl (lv_at hl 0 rfl) ?_
      refine va_get (D := (dC, dI)) (ci := 10) (v := .ref h1) (C := RX10) (T := TX10) (N := 28) hx hb hts hinX10 hown hK hP 0 rfl rfl 2 (by decide) (hts (.fieldLink RX10 13 "WasItOutModel" "itemMany" "[I") (by decide +kernel)) (fun _ h9 => h9) rfl dX10_last_7 ?_
      refine lv_iconst (v := (0 : Int32)) hx hb dX10_last_10 (by decide) ?_
      have hi : vp_in (0 : Int32) 2 := ixk (by decide)
      refine va_iald hx hb hK hP 1 0 rfl rfl hi dX10_last_11 ?_
      refine lv_icmp_ge (tgt := 41) hx hb dX10_last_12 (by decide) (fun cc => ?_) (fun cc => ?_)
      · have hrun := oi_t hrun cc
        exact J41 x2_5 ls hrun (lv_sub hl [2] rfl)
      · have hrun := oi_f hrun cc
        refine lv_aload_n hx hb dX10_last_15 rfl (lv_at hl 0 rfl) ?_
        refine va_get (D := (dC, dI)) (ci := 10) (v := .ref h2) (C := RX10) (T := TX10) (N := 28) hx hb hts hinX10 hown hK hP 0 rfl rfl 3 (by decide) (hts (.fieldLink RX10 16 "WasItOutModel" "items" "[I") (by decide +kernel)) (fun _ h9 => h9) rfl dX10_last_16 ?_
        refine lv_iconst (v := (4 : Int32)) hx hb dX10_last_19 (by decide) ?_
        refine lv_iload_n hx hb dX10_last_20 rfl (lv_at hl 3 rfl) ?_
        refine lv_imul hx hb dX10_last_21 ?_
        obtain ⟨hi, hrun⟩ := oi_x hrun
        refine va_iald hx hb hK hP 2 1 rfl rfl hi dX10_last_22 ?_
        refine lv_iload_n hx hb dX10_last_23 rfl (lv_at hl 1 rfl) ?_
        obtain ⟨k34, ek34, hrun⟩ := jn_e hrun
        have J34 : ∀ (z0_34 : Int32) (ls : Array Slot), k34 z0_34 = some ru → lv_has ls 4 [(0, .ref h0), (1, .int a1), (3, .int x3_5)] → W p l e (headSpec wsX10_last ({ frames := 0, cells := 0, slots := 0, locals := 0 } : Room)).room s m ([.ref h0, .int a1] : List Value).toArray below meth c s.heap [] 0 0 (MQ below (vp_Si (fun r => r = ru)) ([.ref h0, .int a1] : List Value).toArray s 0 0 (fun _ => False)) (F0 m 34 ls [.int z0_34]) := by
          intro z0_34 ls hrun hl
          rw [ek34] at hrun
          refine lv_istore_n (lv' := [(2, .int z0_34), (0, .ref h0), (1, .int a1), (3, .int x3_5)]) hx hb dX10_last_34 rfl hl (by decide) rfl (fun ls hl => ?_)
          refine lv_iinc (v := (x3_5 + (1 : Int32))) (lv' := [(3, .int (x3_5 + (1 : Int32))), (2, .int z0_34), (0, .ref h0), (1, .int a1)]) hx hb dX10_last_35 hl (k := 3) rfl rfl (by decide) rfl (fun ls hl => ?_)
          refine lv_goto (tgt := 5) hx hb dX10_last_38 (by decide) ?_
          exact ih z0_34 ((x3_5 + (1 : Int32))) ls hrun (lv_sub hl [2, 3, 1, 0] rfl)
        refine lv_icmp_ne (tgt := 33) hx hb dX10_last_24 (by decide) (fun cc => ?_) (fun cc => ?_)
        · have hrun := oi_t hrun cc
          refine lv_iload_n hx hb dX10_last_33 rfl (lv_at hl 2 rfl) ?_
          exact J34 x2_5 ls hrun (lv_sub hl [0, 1, 3] rfl)
        · have hrun := oi_n hrun cc
          refine lv_iconst (v := (4 : Int32)) hx hb dX10_last_27 (by decide) ?_
          refine lv_iload_n hx hb dX10_last_28 rfl (lv_at hl 3 rfl) ?_
          refine lv_imul hx hb dX10_last_29 ?_
          refine lv_goto (tgt := 34) hx hb dX10_last_30 (by decide) ?_
          exact J34 (((4 : Int32) * x3_5)) ls hrun (lv_sub hl [0, 1, 3] rfl)
  exact L5 N ((-4 : Int32)) ((0 : Int32)) ls hrun (lv_sub hl [2, 3, 1, 0] rfl)
set_option maxHeartbeats 4000000 in
set_option maxRecDepth 100000 in
theorem tX10_lawOf (l : Launch) (dC : Nat → ClassId) (dI : Nat → Nat → Nat) (h0 h1 h2 : Nat) (k1 k2 : ClassId) (g0_length g0_text g0_balls g0_outs g0_sightMany g0_sights g0_keptMany g0_cameras g0_callMany g0_calls g0_shares g0_rights g0_caseMany g0_cases g0_place g0_numbers g0_xs g0_ys g0_zs g0_us g0_vs g0_ws g0_touchTick g0_touchHalf g0_powers g0_worths : Value) (N : Nat) (a1 : Int32) (c1 : Nat → Int32) (c2 : Nat → Int32) (ru : Int32) (hm : fX10_lawOf N a1 c1 c2 = some ru) : Met l yX10_lawOf wsX10_lawOf ({ frames := 1, cells := 0, slots := 0, locals := 23 } : Room) (va_Pc [.ref h0, .int a1] (fun U => va_P (dC, dI) vwCl [(h0, .inr (10, [g0_length, g0_text, .ref h1, .ref h2, g0_balls, g0_outs, g0_sightMany, g0_sights, g0_keptMany, g0_cameras, g0_callMany, g0_calls, g0_shares, g0_rights, g0_caseMany, g0_cases, g0_place, g0_numbers, g0_xs, g0_ys, g0_zs, g0_us, g0_vs, g0_ws, g0_touchTick, g0_touchHalf, g0_powers, g0_worths])), (h1, .inl (k1, 2, .inl c1)), (h2, .inl (k2, 536, .inl c2))] U.heap ∧ va_K (dC, dI) vwCl [(k1, .int), (k2, .int)] U)) (vp_Si (fun r => r = ru)) 0 0 (fun _ => False) := by
  refine Met.ofW (cc := cX10_lawOf) (maxL := 4) (ret := (some .int)) (by decide) rfl ?_
  intro p e s m args below meth c s₁ B hml hv
  obtain ⟨rfl, hP, hK⟩ := hv
  have hx := B.exec
  have hb := B.bytes
  have hr := B.returns
  have hts := atoms_spec (ws := wsX10_lawOf) B.pre
  have hown : s.vm.findClass RX10 = some m.cls := findClass_of_methodNamed B.named
  have hlocks := B.notSynchronized
  have hinX10 : ∀ w ∈ wsX100, w ∈ wsX10_lawOf := by decide +kernel
  have hl := lv_entry ([.ref h0, .int a1]) (n := 4) (Nat.le_of_ble_eq_true rfl)
  rw [lg_entry_eq]
  generalize (lg_sl ([.ref h0, .int a1]) ++ List.replicate (4 - (lg_sl ([.ref h0, .int a1])).length) Slot.unset).toArray = ls at hl ⊢
  have hl : lv_has ls 4 [(0, .ref h0), (1, .int a1)] := hl
  have hrun := hm
  rw [fX10_lawOf] at hrun
  refine lv_iload_n hx hb dX10_lawOf_0 rfl (lv_at hl 1 rfl) ?_
  obtain ⟨k51, ek51, hrun⟩ := jn_e hrun
  have J51 : ∀ (z0_51 : Int32) (ls : Array Slot), k51 z0_51 = some ru → lv_has ls 4 [(0, .ref h0), (1, .int a1)] → W p l e (headSpec wsX10_lawOf ({ frames := 1, cells := 0, slots := 0, locals := 23 } : Room)).room s m ([.ref h0, .int a1] : List Value).toArray below meth c s.heap [] 0 0 (MQ below (vp_Si (fun r => r = ru)) ([.ref h0, .int a1] : List Value).toArray s 0 0 (fun _ => False)) (F0 m 51 ls [.int z0_51]) := by
    intro z0_51 ls hrun hl
    rw [ek51] at hrun
    refine lv_istore_n (lv' := [(2, .int z0_51), (0, .ref h0), (1, .int a1)]) hx hb dX10_lawOf_51 rfl hl (by decide) rfl (fun ls hl => ?_)
    refine lv_aload_n hx hb dX10_lawOf_52 rfl (lv_at hl 1 rfl) ?_
    refine lv_iload_n hx hb dX10_lawOf_53 rfl (lv_at hl 0 rfl) ?_
    obtain ⟨q54, hc54, hrun⟩ := ob_e hrun
    refine wz_csi (va_runV (As := [.int z0_51]) (rest := []) ⟨hx, hb, hml, hown, hts⟩ (tX10_last l dC dI h0 h1 h2 k1 k2 (g0_length) (g0_text) (g0_balls) (g0_outs) (g0_sightMany) (g0_sights) (g0_keptMany) (g0_cameras) (g0_callMany) (g0_calls) (g0_shares) (g0_rights) (g0_caseMany) (g0_cases) (g0_place) (g0_numbers) (g0_xs) (g0_ys) (g0_zs) (g0_us) (g0_vs) (g0_ws) (g0_touchTick) (g0_touchHalf) (g0_powers) (g0_worths) N z0_51 c1 c2 q54 hc54) (cwV 1 hts gX10_lawOf_X10_last rfl rfl rfl (by decide +kernel) ⟨Nat.le_of_ble_eq_true rfl, Nat.le_of_ble_eq_true rfl⟩) (wz_pVr (hP.sub (ws' := [(h0, .inr (10, [g0_length, g0_text, .ref h1, .ref h2, g0_balls, g0_outs, g0_sightMany, g0_sights, g0_keptMany, g0_cameras, g0_callMany, g0_calls, g0_shares, g0_rights, g0_caseMany, g0_cases, g0_place, g0_numbers, g0_xs, g0_ys, g0_zs, g0_us, g0_vs, g0_ws, g0_touchTick, g0_touchHalf, g0_powers, g0_worths])), (h1, .inl (k1, 2, .inl c1)), (h2, .inl (k2, 536, .inl c2))]) [0, 1, 2] rfl) (hK.sub (tys' := [(k1, .int), (k2, .int)]) [0, 1] rfl) (va_recv hK hP (ci := 10) (q0 := 0) rfl rfl)) rfl rfl hl.1 rfl (lv_room (Nat.le_of_ble_eq_true rfl)) dX10_lawOf_54 ⟨Nat.zero_le _, Nat.zero_le _⟩) ?_
    refine lv_istore_n (lv' := [(3, .int q54), (2, .int z0_51), (0, .ref h0), (1, .int a1)]) hx hb dX10_lawOf_57 rfl hl (by decide) rfl (fun ls hl => ?_)
    refine lv_iload_n hx hb dX10_lawOf_58 rfl (lv_at hl 0 rfl) ?_
    refine lv_if_lt (tgt := 71) hx hb dX10_lawOf_59 (by decide) (fun cc => ?_) (fun cc => ?_)
    · have hrun := oi_t hrun cc
      refine lv_iload_n hx hb dX10_lawOf_71 rfl (lv_at hl 3 rfl) ?_
      refine lv_iconst (v := (1 : Int32)) hx hb dX10_lawOf_72 (by decide) ?_
      refine lv_icmp_ne (tgt := 80) hx hb dX10_lawOf_73 (by decide) (fun cc => ?_) (fun cc => ?_)
      · have hrun := oi_t hrun cc
        refine lv_iload_n hx hb dX10_lawOf_80 rfl (lv_at hl 3 rfl) ?_
        refine lv_iconst (v := (2 : Int32)) hx hb dX10_lawOf_81 (by decide) ?_
        refine lv_icmp_ne (tgt := 91) hx hb dX10_lawOf_82 (by decide) (fun cc => ?_) (fun cc => ?_)
        · have hrun := oi_t hrun cc
          refine lv_iload_n hx hb dX10_lawOf_91 rfl (lv_at hl 3 rfl) ?_
          refine lv_iconst (v := (3 : Int32)) hx hb dX10_lawOf_92 (by decide) ?_
          refine lv_icmp_ne (tgt := 102) hx hb dX10_lawOf_93 (by decide) (fun cc => ?_) (fun cc => ?_)
          · have hrun := oi_t hrun cc
            refine lv_iload_n hx hb dX10_lawOf_102 rfl (lv_at hl 3 rfl) ?_
            refine lv_iconst (v := (5 : Int32)) hx hb dX10_lawOf_103 (by decide) ?_
            refine lv_icmp_ne (tgt := 112) hx hb dX10_lawOf_104 (by decide) (fun cc => ?_) (fun cc => ?_)
            · have hrun := oi_t hrun cc
              refine lv_iconst (v := (0 : Int32)) hx hb dX10_lawOf_112 (by decide) ?_
              exact W.iret hx hb hr (fun t ht _ => ⟨_, rfl, Option.some.inj hrun, ht⟩) (fun _ h => by cases h) dX10_lawOf_113
            · have hrun := oi_n hrun cc
              refine lv_bipush (v := (90 : Int32)) hx hb dX10_lawOf_107 (by decide) ?_
              refine lv_goto (tgt := 113) hx hb dX10_lawOf_109 (by decide) ?_
              exact W.iret hx hb hr (fun t ht _ => ⟨_, rfl, Option.some.inj hrun, ht⟩) (fun _ h => by cases h) dX10_lawOf_113
          · have hrun := oi_n hrun cc
            refine lv_sipush (v := (1000 : Int32)) hx hb dX10_lawOf_96 (by decide) ?_
            refine lv_goto (tgt := 113) hx hb dX10_lawOf_99 (by decide) ?_
            exact W.iret hx hb hr (fun t ht _ => ⟨_, rfl, Option.some.inj hrun, ht⟩) (fun _ h => by cases h) dX10_lawOf_113
        · have hrun := oi_n hrun cc
          refine lv_sipush (v := (500 : Int32)) hx hb dX10_lawOf_85 (by decide) ?_
          refine lv_goto (tgt := 113) hx hb dX10_lawOf_88 (by decide) ?_
          exact W.iret hx hb hr (fun t ht _ => ⟨_, rfl, Option.some.inj hrun, ht⟩) (fun _ h => by cases h) dX10_lawOf_113
      · have hrun := oi_n hrun cc
        refine lv_iconst (v := (1 : Int32)) hx hb dX10_lawOf_76 (by decide) ?_
        refine lv_goto (tgt := 113) hx hb dX10_lawOf_77 (by decide) ?_
        exact W.iret hx hb hr (fun t ht _ => ⟨_, rfl, Option.some.inj hrun, ht⟩) (fun _ h => by cases h) dX10_lawOf_113
    · have hrun := oi_f hrun cc
      refine lv_aload_n hx hb dX10_lawOf_62 rfl (lv_at hl 2 rfl) ?_
      refine va_get (D := (dC, dI)) (ci := 10) (v := .ref h2) (C := RX10) (T := TX10) (N := 28) hx hb hts hinX10 hown hK hP 0 rfl rfl 3 (by decide) (hts (.fieldLink RX10 16 "WasItOutModel" "items" "[I") (by decide +kernel)) (fun _ h9 => h9) rfl dX10_lawOf_63 ?_
      refine lv_iload_n hx hb dX10_lawOf_66 rfl (lv_at hl 0 rfl) ?_
      refine lv_iconst (v := (1 : Int32)) hx hb dX10_lawOf_67 (by decide) ?_
      refine lv_iadd hx hb dX10_lawOf_68 ?_
      obtain ⟨hi, hrun⟩ := oi_x hrun
      refine va_iald hx hb hK hP 2 1 rfl rfl hi dX10_lawOf_69 ?_
      exact W.iret hx hb hr (fun t ht _ => ⟨_, rfl, Option.some.inj hrun, ht⟩) (fun _ h => by cases h) dX10_lawOf_70
  refine lv_if_ne (tgt := 9) hx hb dX10_lawOf_1 (by decide) (fun cc => ?_) (fun cc => ?_)
  · have hrun := oi_t hrun cc
    refine lv_iload_n hx hb dX10_lawOf_9 rfl (lv_at hl 1 rfl) ?_
    refine lv_iconst (v := (1 : Int32)) hx hb dX10_lawOf_10 (by decide) ?_
    refine lv_icmp_ne (tgt := 19) hx hb dX10_lawOf_11 (by decide) (fun cc => ?_) (fun cc => ?_)
    · have hrun := oi_t hrun cc
      refine lv_iload_n hx hb dX10_lawOf_19 rfl (lv_at hl 1 rfl) ?_
      refine lv_iconst (v := (2 : Int32)) hx hb dX10_lawOf_20 (by decide) ?_
      refine lv_icmp_ne (tgt := 29) hx hb dX10_lawOf_21 (by decide) (fun cc => ?_) (fun cc => ?_)
      · have hrun := oi_t hrun cc
        refine lv_iload_n hx hb dX10_lawOf_29 rfl (lv_at hl 1 rfl) ?_
        refine lv_iconst (v := (3 : Int32)) hx hb dX10_lawOf_30 (by decide) ?_
        refine lv_icmp_ne (tgt := 39) hx hb dX10_lawOf_31 (by decide) (fun cc => ?_) (fun cc => ?_)
        · have hrun := oi_t hrun cc
          refine lv_iload_n hx hb dX10_lawOf_39 rfl (lv_at hl 1 rfl) ?_
          refine lv_iconst (v := (4 : Int32)) hx hb dX10_lawOf_40 (by decide) ?_
          refine lv_icmp_ne (tgt := 49) hx hb dX10_lawOf_41 (by decide) (fun cc => ?_) (fun cc => ?_)
          · have hrun := oi_t hrun cc
            refine lv_bipush (v := (116 : Int32)) hx hb dX10_lawOf_49 (by decide) ?_
            exact J51 ((116 : Int32)) ls hrun hl
          · have hrun := oi_n hrun cc
            refine lv_bipush (v := (113 : Int32)) hx hb dX10_lawOf_44 (by decide) ?_
            refine lv_goto (tgt := 51) hx hb dX10_lawOf_46 (by decide) ?_
            exact J51 ((113 : Int32)) ls hrun hl
        · have hrun := oi_n hrun cc
          refine lv_bipush (v := (114 : Int32)) hx hb dX10_lawOf_34 (by decide) ?_
          refine lv_goto (tgt := 51) hx hb dX10_lawOf_36 (by decide) ?_
          exact J51 ((114 : Int32)) ls hrun hl
      · have hrun := oi_n hrun cc
        refine lv_bipush (v := (98 : Int32)) hx hb dX10_lawOf_24 (by decide) ?_
        refine lv_goto (tgt := 51) hx hb dX10_lawOf_26 (by decide) ?_
        exact J51 ((98 : Int32)) ls hrun hl
    · have hrun := oi_n hrun cc
      refine lv_bipush (v := (103 : Int32)) hx hb dX10_lawOf_14 (by decide) ?_
      refine lv_goto (tgt := 51) hx hb dX10_lawOf_16 (by decide) ?_
      exact J51 ((103 : Int32)) ls hrun hl
  · have hrun := oi_n hrun cc
    refine lv_bipush (v := (97 : Int32)) hx hb dX10_lawOf_4 (by decide) ?_
    refine lv_goto (tgt := 51) hx hb dX10_lawOf_6 (by decide) ?_
    exact J51 ((97 : Int32)) ls hrun hl
set_option maxHeartbeats 4000000 in
set_option maxRecDepth 100000 in
theorem tX10_off (l : Launch) (dC : Nat → ClassId) (dI : Nat → Nat → Nat) (N : Nat) (a0 : Int32)  (ru : Int32) (hm : fX10_off N a0 = some ru) : Met l yX10_off wsX10_off ({ frames := 0, cells := 0, slots := 0, locals := 0 } : Room) (va_Pc [.int a0] (fun U => va_P (dC, dI) vwCl [] U.heap ∧ va_K (dC, dI) vwCl [] U)) (vp_Si (fun r => r = ru)) 0 0 (fun _ => False) := by
  refine Met.ofW (cc := cX10_off) (maxL := 1) (ret := (some .int)) (by decide) rfl ?_
  intro p e s m args below meth c s₁ B hml hv
  obtain ⟨rfl, hP, hK⟩ := hv
  have hx := B.exec
  have hb := B.bytes
  have hr := B.returns
  have hts := atoms_spec (ws := wsX10_off) B.pre
  have hown : s.vm.findClass RX10 = some m.cls := findClass_of_methodNamed B.named
  have hlocks := B.notSynchronized
  have hl := lv_entry ([.int a0]) (n := 1) (Nat.le_of_ble_eq_true rfl)
  rw [lg_entry_eq]
  generalize (lg_sl ([.int a0]) ++ List.replicate (1 - (lg_sl ([.int a0])).length) Slot.unset).toArray = ls at hl ⊢
  have hl : lv_has ls 1 [(0, .int a0)] := hl
  have hrun := hm
  rw [fX10_off] at hrun
  refine lv_iload_n hx hb dX10_off_0 rfl (lv_at hl 0 rfl) ?_
  refine lv_if_ge (tgt := 9) hx hb dX10_off_1 (by decide) (fun cc => ?_) (fun cc => ?_)
  · have hrun := oi_t hrun cc
    refine lv_iload_n hx hb dX10_off_9 rfl (lv_at hl 0 rfl) ?_
    exact W.iret hx hb hr (fun t ht _ => ⟨_, rfl, Option.some.inj hrun, ht⟩) (fun _ h => by cases h) dX10_off_10
  · have hrun := oi_f hrun cc
    refine lv_iload_n hx hb dX10_off_4 rfl (lv_at hl 0 rfl) ?_
    refine lv_ineg hx hb dX10_off_5 ?_
    refine lv_goto (tgt := 10) hx hb dX10_off_6 (by decide) ?_
    exact W.iret hx hb hr (fun t ht _ => ⟨_, rfl, Option.some.inj hrun, ht⟩) (fun _ h => by cases h) dX10_off_10
set_option maxHeartbeats 4000000 in
set_option maxRecDepth 100000 in
theorem tX10_ball (l : Launch) (dC : Nat → ClassId) (dI : Nat → Nat → Nat) (sz : Nat) (h0 h1 : Nat) (k1 : ClassId) (g0_length g0_text g0_itemMany g0_items g0_outs g0_sightMany g0_sights g0_keptMany g0_cameras g0_callMany g0_calls g0_shares g0_rights g0_caseMany g0_cases g0_place g0_numbers g0_xs g0_ys g0_zs g0_us g0_vs g0_ws g0_touchTick g0_touchHalf g0_powers g0_worths : Value) (N : Nat) (a1 : Int32) (a2 : Int32) (c1 : Nat → Int32) (ru : Int32 × (Nat → Int32)) (hm : fX10_ball N a1 a2 c1 = some ru) : Met l yX10_ball wsX10_ball ({ frames := 1, cells := 0, slots := 0, locals := 25 } : Room) (va_Pc [.ref h0, .int a1, .int a2] (fun U => U.heap.size = sz ∧ va_P (dC, dI) vwCl [(h0, .inr (10, [g0_length, g0_text, g0_itemMany, g0_items, .ref h1, g0_outs, g0_sightMany, g0_sights, g0_keptMany, g0_cameras, g0_callMany, g0_calls, g0_shares, g0_rights, g0_caseMany, g0_cases, g0_place, g0_numbers, g0_xs, g0_ys, g0_zs, g0_us, g0_vs, g0_ws, g0_touchTick, g0_touchHalf, g0_powers, g0_worths])), (h1, .inl (k1, 18, .inl c1))] U.heap ∧ va_K (dC, dI) vwCl [(k1, .int)] U ∧ va_D (fun _ => True) [(h0, .inr (10, [g0_length, g0_text, g0_itemMany, g0_items, .ref h1, g0_outs, g0_sightMany, g0_sights, g0_keptMany, g0_cameras, g0_callMany, g0_calls, g0_shares, g0_rights, g0_caseMany, g0_cases, g0_place, g0_numbers, g0_xs, g0_ys, g0_zs, g0_us, g0_vs, g0_ws, g0_touchTick, g0_touchHalf, g0_powers, g0_worths])), (h1, .inl (k1, 18, .inl c1))])) (va_Qi (fun r (_ : Unit) => r = ru.1) (fun (_ : Unit) t => va_P (dC, dI) vwCl [(h0, .inr (10, [g0_length, g0_text, g0_itemMany, g0_items, .ref h1, g0_outs, g0_sightMany, g0_sights, g0_keptMany, g0_cameras, g0_callMany, g0_calls, g0_shares, g0_rights, g0_caseMany, g0_cases, g0_place, g0_numbers, g0_xs, g0_ys, g0_zs, g0_us, g0_vs, g0_ws, g0_touchTick, g0_touchHalf, g0_powers, g0_worths])), (h1, .inl (k1, 18, .inl ru.2))] t.heap ∧ va_K (dC, dI) vwCl [(k1, .int)] t ∧ va_D (va_A [(h0, .inr (10, [g0_length, g0_text, g0_itemMany, g0_items, .ref h1, g0_outs, g0_sightMany, g0_sights, g0_keptMany, g0_cameras, g0_callMany, g0_calls, g0_shares, g0_rights, g0_caseMany, g0_cases, g0_place, g0_numbers, g0_xs, g0_ys, g0_zs, g0_us, g0_vs, g0_ws, g0_touchTick, g0_touchHalf, g0_powers, g0_worths])), (h1, .inl (k1, 18, .inl c1))] sz) [(h0, .inr (10, [g0_length, g0_text, g0_itemMany, g0_items, .ref h1, g0_outs, g0_sightMany, g0_sights, g0_keptMany, g0_cameras, g0_callMany, g0_calls, g0_shares, g0_rights, g0_caseMany, g0_cases, g0_place, g0_numbers, g0_xs, g0_ys, g0_zs, g0_us, g0_vs, g0_ws, g0_touchTick, g0_touchHalf, g0_powers, g0_worths])), (h1, .inl (k1, 18, .inl ru.2))]) (va_A [(h0, .inr (10, [g0_length, g0_text, g0_itemMany, g0_items, .ref h1, g0_outs, g0_sightMany, g0_sights, g0_keptMany, g0_cameras, g0_callMany, g0_calls, g0_shares, g0_rights, g0_caseMany, g0_cases, g0_place, g0_numbers, g0_xs, g0_ys, g0_zs, g0_us, g0_vs, g0_ws, g0_touchTick, g0_touchHalf, g0_powers, g0_worths])), (h1, .inl (k1, 18, .inl c1))] sz)) 0 0 (va_A [(h0, .inr (10, [g0_length, g0_text, g0_itemMany, g0_items, .ref h1, g0_outs, g0_sightMany, g0_sights, g0_keptMany, g0_cameras, g0_callMany, g0_calls, g0_shares, g0_rights, g0_caseMany, g0_cases, g0_place, g0_numbers, g0_xs, g0_ys, g0_zs, g0_us, g0_vs, g0_ws, g0_touchTick, g0_touchHalf, g0_powers, g0_worths])), (h1, .inl (k1, 18, .inl c1))] sz) := by
  refine Met.ofW (cc := cX10_ball) (maxL := 5) (ret := (some .int)) (by decide) rfl ?_
  intro p e s m args below meth c s₁ B hml hv
  obtain ⟨rfl, hsz, hP, hK, hD0⟩ := hv
  have hx := B.exec
  have hb := B.bytes
  have hr := B.returns
  have hts := atoms_spec (ws := wsX10_ball) B.pre
  have hown : s.vm.findClass RX10 = some m.cls := findClass_of_methodNamed B.named
  have hlocks := B.notSynchronized
  subst hsz
  have hD := hD0.self (sz := s.heap.size)
  generalize hAe : va_A [(h0, .inr (10, [g0_length, g0_text, g0_itemMany, g0_items, .ref h1, g0_outs, g0_sightMany, g0_sights, g0_keptMany, g0_cameras, g0_callMany, g0_calls, g0_shares, g0_rights, g0_caseMany, g0_cases, g0_place, g0_numbers, g0_xs, g0_ys, g0_zs, g0_us, g0_vs, g0_ws, g0_touchTick, g0_touchHalf, g0_powers, g0_worths])), (h1, .inl (k1, 18, .inl c1))] s.heap.size = A at hD ⊢
  have hA : ∀ q : Nat, s.heap.size ≤ q → A q := fun q h => by rw [← hAe]; exact Or.inr h
  have hS : va_S A s.heap s.heap [] := va_S.rf
  have hinX10 : ∀ w ∈ wsX100, w ∈ wsX10_ball := by decide +kernel
  have hl := lv_entry ([.ref h0, .int a1, .int a2]) (n := 5) (Nat.le_of_ble_eq_true rfl)
  rw [lg_entry_eq]
  generalize (lg_sl ([.ref h0, .int a1, .int a2]) ++ List.replicate (5 - (lg_sl ([.ref h0, .int a1, .int a2])).length) Slot.unset).toArray = ls at hl ⊢
  have hl : lv_has ls 5 [(0, .ref h0), (1, .int a1), (2, .int a2)] := hl
  have hrun := hm
  rw [fX10_ball] at hrun
  obtain ⟨H, hHe⟩ : ∃ H, H = s.heap := ⟨_, rfl⟩
  obtain ⟨locs, hLe⟩ : ∃ locs : List Loc, locs = [] := ⟨_, rfl⟩
  rw [← hHe] at hP
  have hS : va_S A s.heap H locs := by rw [hHe, hLe]; exact hS
  have key : W p l e (headSpec wsX10_ball ({ frames := 1, cells := 0, slots := 0, locals := 25 } : Room)).room s m ([.ref h0, .int a1, .int a2] : List Value).toArray below meth c H locs 0 0 (MQ below (va_Qi (fun r (_ : Unit) => r = ru.1) (fun (_ : Unit) t => va_P (dC, dI) vwCl [(h0, .inr (10, [g0_length, g0_text, g0_itemMany, g0_items, .ref h1, g0_outs, g0_sightMany, g0_sights, g0_keptMany, g0_cameras, g0_callMany, g0_calls, g0_shares, g0_rights, g0_caseMany, g0_cases, g0_place, g0_numbers, g0_xs, g0_ys, g0_zs, g0_us, g0_vs, g0_ws, g0_touchTick, g0_touchHalf, g0_powers, g0_worths])), (h1, .inl (k1, 18, .inl ru.2))] t.heap ∧ va_K (dC, dI) vwCl [(k1, .int)] t ∧ va_D A [(h0, .inr (10, [g0_length, g0_text, g0_itemMany, g0_items, .ref h1, g0_outs, g0_sightMany, g0_sights, g0_keptMany, g0_cameras, g0_callMany, g0_calls, g0_shares, g0_rights, g0_caseMany, g0_cases, g0_place, g0_numbers, g0_xs, g0_ys, g0_zs, g0_us, g0_vs, g0_ws, g0_touchTick, g0_touchHalf, g0_powers, g0_worths])), (h1, .inl (k1, 18, .inl ru.2))]) A) ([.ref h0, .int a1, .int a2] : List Value).toArray s 0 0 A) (F0 m 0 ls []) := by
    clear hHe hLe
    refine lv_iload_n hx hb dX10_ball_0 rfl (lv_at hl 1 rfl) ?_
    refine lv_iconst (v := (2 : Int32)) hx hb dX10_ball_1 (by decide) ?_
    obtain ⟨k47, ek47, hrun⟩ := jn_e hrun
    have J47 : ∀ (z0_47 : Int32) (ls : Array Slot) (H : Heap) (locs : List Loc), k47 z0_47 = some ru → va_P (dC, dI) vwCl [(h0, .inr (10, [g0_length, g0_text, g0_itemMany, g0_items, .ref h1, g0_outs, g0_sightMany, g0_sights, g0_keptMany, g0_cameras, g0_callMany, g0_calls, g0_shares, g0_rights, g0_caseMany, g0_cases, g0_place, g0_numbers, g0_xs, g0_ys, g0_zs, g0_us, g0_vs, g0_ws, g0_touchTick, g0_touchHalf, g0_powers, g0_worths])), (h1, .inl (k1, 18, .inl c1))] H → va_D A [(h0, .inr (10, [g0_length, g0_text, g0_itemMany, g0_items, .ref h1, g0_outs, g0_sightMany, g0_sights, g0_keptMany, g0_cameras, g0_callMany, g0_calls, g0_shares, g0_rights, g0_caseMany, g0_cases, g0_place, g0_numbers, g0_xs, g0_ys, g0_zs, g0_us, g0_vs, g0_ws, g0_touchTick, g0_touchHalf, g0_powers, g0_worths])), (h1, .inl (k1, 18, .inl c1))] → va_S A s.heap H locs → lv_has ls 5 [(0, .ref h0), (1, .int a1), (2, .int a2)] → W p l e (headSpec wsX10_ball ({ frames := 1, cells := 0, slots := 0, locals := 25 } : Room)).room s m ([.ref h0, .int a1, .int a2] : List Value).toArray below meth c H locs 0 0 (MQ below (va_Qi (fun r (_ : Unit) => r = ru.1) (fun (_ : Unit) t => va_P (dC, dI) vwCl [(h0, .inr (10, [g0_length, g0_text, g0_itemMany, g0_items, .ref h1, g0_outs, g0_sightMany, g0_sights, g0_keptMany, g0_cameras, g0_callMany, g0_calls, g0_shares, g0_rights, g0_caseMany, g0_cases, g0_place, g0_numbers, g0_xs, g0_ys, g0_zs, g0_us, g0_vs, g0_ws, g0_touchTick, g0_touchHalf, g0_powers, g0_worths])), (h1, .inl (k1, 18, .inl ru.2))] t.heap ∧ va_K (dC, dI) vwCl [(k1, .int)] t ∧ va_D A [(h0, .inr (10, [g0_length, g0_text, g0_itemMany, g0_items, .ref h1, g0_outs, g0_sightMany, g0_sights, g0_keptMany, g0_cameras, g0_callMany, g0_calls, g0_shares, g0_rights, g0_caseMany, g0_cases, g0_place, g0_numbers, g0_xs, g0_ys, g0_zs, g0_us, g0_vs, g0_ws, g0_touchTick, g0_touchHalf, g0_powers, g0_worths])), (h1, .inl (k1, 18, .inl ru.2))]) A) ([.ref h0, .int a1, .int a2] : List Value).toArray s 0 0 A) (F0 m 47 ls [.int z0_47]) := by
      intro z0_47 ls H locs hrun hP hD hS hl
      rw [ek47] at hrun
      refine lv_istore_n (lv' := [(3, .int z0_47), (0, .ref h0), (1, .int a1), (2, .int a2)]) hx hb dX10_ball_47 rfl hl (by decide) rfl (fun ls hl => ?_)
      refine lv_iload_n hx hb dX10_ball_48 rfl (lv_at hl 2 rfl) ?_
      refine lv_i2l (v := a1.toInt64) hx hb dX10_ball_49 rfl ?_
      refine lv_lconst (v := (0 : Int64)) hx hb dX10_ball_50 (by decide) ?_
      refine lv_ldc2 (v := (5 : Int64)) hx hb hown (hts (.constantLong RX10 122 (5 : Int64)) (by decide +kernel)) dX10_ball_51 ?_
      obtain ⟨q54, hc54, hrun⟩ := ob_e hrun
      refine wz_csz (va_runS (As := [.long a1.toInt64, .long (0 : Int64), .long (5 : Int64)]) (rest := []) ⟨hx, hb, hml, hown, hts⟩ (tX10_in l dC dI N a1.toInt64 ((0 : Int64)) ((5 : Int64)) q54 hc54) (va_cwS 3 hts gX10_ball_X10_in rfl rfl rfl (by decide +kernel) ⟨Nat.le_of_ble_eq_true rfl, Nat.le_of_ble_eq_true rfl⟩) (wz_pSr (hP.sub (ws' := []) [] rfl) (hK.sub (tys' := []) [] rfl)) rfl rfl hl.1 rfl (lv_room (Nat.le_of_ble_eq_true rfl)) dX10_ball_54 ⟨Nat.zero_le _, Nat.zero_le _⟩) (fun hz54 => ?_)
      refine lv_if_eq (tgt := 64) hx hb dX10_ball_57 (by decide) (fun cc => ?_) (fun cc => ?_)
      · have hrun := oi_t hrun cc
        refine lv_ldc (v := (-1000000 : Int32)) hx hb hown (hts (.constant RX10 139 (-1000000 : Int32)) (by decide +kernel)) dX10_ball_64 ?_
        cases hrun
        have hP9 : va_P (dC, dI) vwCl [(h0, .inr (10, [g0_length, g0_text, g0_itemMany, g0_items, .ref h1, g0_outs, g0_sightMany, g0_sights, g0_keptMany, g0_cameras, g0_callMany, g0_calls, g0_shares, g0_rights, g0_caseMany, g0_cases, g0_place, g0_numbers, g0_xs, g0_ys, g0_zs, g0_us, g0_vs, g0_ws, g0_touchTick, g0_touchHalf, g0_powers, g0_worths])), (h1, .inl (k1, 18, .inl c1))] H := hP
        have hD9 : va_D A [(h0, .inr (10, [g0_length, g0_text, g0_itemMany, g0_items, .ref h1, g0_outs, g0_sightMany, g0_sights, g0_keptMany, g0_cameras, g0_callMany, g0_calls, g0_shares, g0_rights, g0_caseMany, g0_cases, g0_place, g0_numbers, g0_xs, g0_ys, g0_zs, g0_us, g0_vs, g0_ws, g0_touchTick, g0_touchHalf, g0_powers, g0_worths])), (h1, .inl (k1, 18, .inl c1))] := hD
        exact W.iret hx hb hr (fun t ht hW => ⟨⟨_, (), rfl, rfl, by rw [ht]; exact hP9, va_K.moved hW.alike hK, hD9⟩, hS.F ht⟩) hS.2.2 dX10_ball_66
      · have hrun := oi_f hrun cc
        refine lv_iload_n hx hb dX10_ball_60 rfl (lv_at hl 0 rfl) ?_
        refine lv_if_ne (tgt := 67) hx hb dX10_ball_61 (by decide) (fun cc => ?_) (fun cc => ?_)
        · have hrun := oi_t hrun cc
          refine lv_aload_n hx hb dX10_ball_67 rfl (lv_at hl 1 rfl) ?_
          refine va_get (D := (dC, dI)) (ci := 10) (v := .ref h1) (C := RX10) (T := TX10) (N := 28) hx hb hts hinX10 hown hK hP 0 rfl rfl 4 (by decide) (hts (.fieldLink RX10 19 "WasItOutModel" "balls" "[I") (by decide +kernel)) (fun _ h9 => h9) rfl dX10_ball_68 ?_
          refine lv_iload_n hx hb dX10_ball_71 rfl (lv_at hl 2 rfl) ?_
          obtain ⟨hi, hrun⟩ := oi_x hrun
          refine va_iald hx hb hK hP 1 0 rfl rfl hi dX10_ball_72 ?_
          refine lv_istore (lv' := [(4, .int (c1 a1.toNatClampNeg)), (3, .int z0_47), (0, .ref h0), (1, .int a1), (2, .int a2)]) hx hb dX10_ball_73 hl (by decide) rfl (fun ls hl => ?_)
          refine lv_aload_n hx hb dX10_ball_75 rfl (lv_at hl 2 rfl) ?_
          refine va_get (D := (dC, dI)) (ci := 10) (v := .ref h1) (C := RX10) (T := TX10) (N := 28) hx hb hts hinX10 hown hK hP 0 rfl rfl 4 (by decide) (hts (.fieldLink RX10 19 "WasItOutModel" "balls" "[I") (by decide +kernel)) (fun _ h9 => h9) rfl dX10_ball_76 ?_
          refine lv_iload_n hx hb dX10_ball_79 rfl (lv_at hl 3 rfl) ?_
          refine lv_iload_n hx hb dX10_ball_80 rfl (lv_at hl 4 rfl) ?_
          obtain ⟨hi, hrun⟩ := oi_x hrun
          refine va_iast hx hb hK hP hD hS 1 0 rfl rfl hi dX10_ball_81 (fun H locs hP hD hS => ?_)
          have hP : va_P (dC, dI) vwCl [(h0, .inr (10, [g0_length, g0_text, g0_itemMany, g0_items, .ref h1, g0_outs, g0_sightMany, g0_sights, g0_keptMany, g0_cameras, g0_callMany, g0_calls, g0_shares, g0_rights, g0_caseMany, g0_cases, g0_place, g0_numbers, g0_xs, g0_ys, g0_zs, g0_us, g0_vs, g0_ws, g0_touchTick, g0_touchHalf, g0_powers, g0_worths])), (h1, .inl (k1, 18, .inl (upd c1 a1.toNatClampNeg a2)))] H := hP
          have hD : va_D A [(h0, .inr (10, [g0_length, g0_text, g0_itemMany, g0_items, .ref h1, g0_outs, g0_sightMany, g0_sights, g0_keptMany, g0_cameras, g0_callMany, g0_calls, g0_shares, g0_rights, g0_caseMany, g0_cases, g0_place, g0_numbers, g0_xs, g0_ys, g0_zs, g0_us, g0_vs, g0_ws, g0_touchTick, g0_touchHalf, g0_powers, g0_worths])), (h1, .inl (k1, 18, .inl (upd c1 a1.toNatClampNeg a2)))] := hD
          refine lv_iload hx hb dX10_ball_82 (lv_at hl 0 rfl) ?_
          cases hrun
          have hP9 : va_P (dC, dI) vwCl [(h0, .inr (10, [g0_length, g0_text, g0_itemMany, g0_items, .ref h1, g0_outs, g0_sightMany, g0_sights, g0_keptMany, g0_cameras, g0_callMany, g0_calls, g0_shares, g0_rights, g0_caseMany, g0_cases, g0_place, g0_numbers, g0_xs, g0_ys, g0_zs, g0_us, g0_vs, g0_ws, g0_touchTick, g0_touchHalf, g0_powers, g0_worths])), (h1, .inl (k1, 18, .inl (upd c1 a1.toNatClampNeg a2)))] H := hP
          have hD9 : va_D A [(h0, .inr (10, [g0_length, g0_text, g0_itemMany, g0_items, .ref h1, g0_outs, g0_sightMany, g0_sights, g0_keptMany, g0_cameras, g0_callMany, g0_calls, g0_shares, g0_rights, g0_caseMany, g0_cases, g0_place, g0_numbers, g0_xs, g0_ys, g0_zs, g0_us, g0_vs, g0_ws, g0_touchTick, g0_touchHalf, g0_powers, g0_worths])), (h1, .inl (k1, 18, .inl (upd c1 a1.toNatClampNeg a2)))] := hD
          exact W.iret hx hb hr (fun t ht hW => ⟨⟨_, (), rfl, rfl, by rw [ht]; exact hP9, va_K.moved hW.alike hK, hD9⟩, hS.F ht⟩) hS.2.2 dX10_ball_84
        · have hrun := oi_n hrun cc
          refine lv_ldc (v := (-1000000 : Int32)) hx hb hown (hts (.constant RX10 139 (-1000000 : Int32)) (by decide +kernel)) dX10_ball_64 ?_
          cases hrun
          have hP9 : va_P (dC, dI) vwCl [(h0, .inr (10, [g0_length, g0_text, g0_itemMany, g0_items, .ref h1, g0_outs, g0_sightMany, g0_sights, g0_keptMany, g0_cameras, g0_callMany, g0_calls, g0_shares, g0_rights, g0_caseMany, g0_cases, g0_place, g0_numbers, g0_xs, g0_ys, g0_zs, g0_us, g0_vs, g0_ws, g0_touchTick, g0_touchHalf, g0_powers, g0_worths])), (h1, .inl (k1, 18, .inl c1))] H := hP
          have hD9 : va_D A [(h0, .inr (10, [g0_length, g0_text, g0_itemMany, g0_items, .ref h1, g0_outs, g0_sightMany, g0_sights, g0_keptMany, g0_cameras, g0_callMany, g0_calls, g0_shares, g0_rights, g0_caseMany, g0_cases, g0_place, g0_numbers, g0_xs, g0_ys, g0_zs, g0_us, g0_vs, g0_ws, g0_touchTick, g0_touchHalf, g0_powers, g0_worths])), (h1, .inl (k1, 18, .inl c1))] := hD
          exact W.iret hx hb hr (fun t ht hW => ⟨⟨_, (), rfl, rfl, by rw [ht]; exact hP9, va_K.moved hW.alike hK, hD9⟩, hS.F ht⟩) hS.2.2 dX10_ball_66
    refine lv_icmp_ge (tgt := 19) hx hb dX10_ball_2 (by decide) (fun cc => ?_) (fun cc => ?_)
    · have hrun := oi_t hrun cc
      refine lv_iload_n hx hb dX10_ball_19 rfl (lv_at hl 1 rfl) ?_
      refine lv_iconst (v := (2 : Int32)) hx hb dX10_ball_20 (by decide) ?_
      refine lv_icmp_ne (tgt := 36) hx hb dX10_ball_21 (by decide) (fun cc => ?_) (fun cc => ?_)
      · have hrun := oi_t hrun cc
        refine lv_iload_n hx hb dX10_ball_36 rfl (lv_at hl 2 rfl) ?_
        refine lv_i2l (v := a2.toInt64) hx hb dX10_ball_37 rfl ?_
        refine lv_ldc2 (v := (-2000 : Int64)) hx hb hown (hts (.constantLong RX10 135 (-2000 : Int64)) (by decide +kernel)) dX10_ball_38 ?_
        refine lv_ldc2 (v := (2000 : Int64)) hx hb hown (hts (.constantLong RX10 137 (2000 : Int64)) (by decide +kernel)) dX10_ball_41 ?_
        obtain ⟨q44, hc44, hrun⟩ := ob_e hrun
        refine wz_csz (va_runS (As := [.long a2.toInt64, .long (-2000 : Int64), .long (2000 : Int64)]) (rest := []) ⟨hx, hb, hml, hown, hts⟩ (tX10_in l dC dI N a2.toInt64 ((-2000 : Int64)) ((2000 : Int64)) q44 hc44) (va_cwS 3 hts gX10_ball_X10_in rfl rfl rfl (by decide +kernel) ⟨Nat.le_of_ble_eq_true rfl, Nat.le_of_ble_eq_true rfl⟩) (wz_pSr (hP.sub (ws' := []) [] rfl) (hK.sub (tys' := []) [] rfl)) rfl rfl hl.1 rfl (lv_room (Nat.le_of_ble_eq_true rfl)) dX10_ball_44 ⟨Nat.zero_le _, Nat.zero_le _⟩) (fun hz44 => ?_)
        exact J47 q44 ls H locs hrun hP hD hS hl
      · have hrun := oi_n hrun cc
        refine lv_iload_n hx hb dX10_ball_24 rfl (lv_at hl 2 rfl) ?_
        refine lv_i2l (v := a2.toInt64) hx hb dX10_ball_25 rfl ?_
        refine lv_lconst (v := (0 : Int64)) hx hb dX10_ball_26 (by decide) ?_
        refine lv_ldc2 (v := (100000 : Int64)) hx hb hown (hts (.constantLong RX10 129 (100000 : Int64)) (by decide +kernel)) dX10_ball_27 ?_
        obtain ⟨q30, hc30, hrun⟩ := ob_e hrun
        refine wz_csz (va_runS (As := [.long a2.toInt64, .long (0 : Int64), .long (100000 : Int64)]) (rest := []) ⟨hx, hb, hml, hown, hts⟩ (tX10_in l dC dI N a2.toInt64 ((0 : Int64)) ((100000 : Int64)) q30 hc30) (va_cwS 3 hts gX10_ball_X10_in rfl rfl rfl (by decide +kernel) ⟨Nat.le_of_ble_eq_true rfl, Nat.le_of_ble_eq_true rfl⟩) (wz_pSr (hP.sub (ws' := []) [] rfl) (hK.sub (tys' := []) [] rfl)) rfl rfl hl.1 rfl (lv_room (Nat.le_of_ble_eq_true rfl)) dX10_ball_30 ⟨Nat.zero_le _, Nat.zero_le _⟩) (fun hz30 => ?_)
        refine lv_goto (tgt := 47) hx hb dX10_ball_33 (by decide) ?_
        exact J47 q30 ls H locs hrun hP hD hS hl
    · have hrun := oi_f hrun cc
      refine lv_iload_n hx hb dX10_ball_5 rfl (lv_at hl 2 rfl) ?_
      refine lv_i2l (v := a2.toInt64) hx hb dX10_ball_6 rfl ?_
      refine lv_ldc2 (v := (-100000 : Int64)) hx hb hown (hts (.constantLong RX10 127 (-100000 : Int64)) (by decide +kernel)) dX10_ball_7 ?_
      refine lv_ldc2 (v := (100000 : Int64)) hx hb hown (hts (.constantLong RX10 129 (100000 : Int64)) (by decide +kernel)) dX10_ball_10 ?_
      obtain ⟨q13, hc13, hrun⟩ := ob_e hrun
      refine wz_csz (va_runS (As := [.long a2.toInt64, .long (-100000 : Int64), .long (100000 : Int64)]) (rest := []) ⟨hx, hb, hml, hown, hts⟩ (tX10_in l dC dI N a2.toInt64 ((-100000 : Int64)) ((100000 : Int64)) q13 hc13) (va_cwS 3 hts gX10_ball_X10_in rfl rfl rfl (by decide +kernel) ⟨Nat.le_of_ble_eq_true rfl, Nat.le_of_ble_eq_true rfl⟩) (wz_pSr (hP.sub (ws' := []) [] rfl) (hK.sub (tys' := []) [] rfl)) rfl rfl hl.1 rfl (lv_room (Nat.le_of_ble_eq_true rfl)) dX10_ball_13 ⟨Nat.zero_le _, Nat.zero_le _⟩) (fun hz13 => ?_)
      refine lv_goto (tgt := 47) hx hb dX10_ball_16 (by decide) ?_
      exact J47 q13 ls H locs hrun hP hD hS hl
  rw [hHe, hLe] at key
  exact key
set_option maxHeartbeats 4000000 in
set_option maxRecDepth 100000 in
theorem tX10_byteAt (l : Launch) (dC : Nat → ClassId) (dI : Nat → Nat → Nat) (h0 h1 : Nat) (k1 : ClassId) (g0_itemMany g0_items g0_balls g0_outs g0_sightMany g0_sights g0_keptMany g0_cameras g0_callMany g0_calls g0_shares g0_rights g0_caseMany g0_cases g0_place g0_numbers g0_xs g0_ys g0_zs g0_us g0_vs g0_ws g0_touchTick g0_touchHalf g0_powers g0_worths : Value) (N : Nat) (a1 : Int32) (v0_length : Int32) (c1 : Nat → Int32) (ru : Int32) (hm : fX10_byteAt N a1 v0_length c1 = some ru) : Met l yX10_byteAt wsX10_byteAt ({ frames := 0, cells := 0, slots := 0, locals := 0 } : Room) (va_Pc [.ref h0, .int a1] (fun U => va_P (dC, dI) vwCl [(h0, .inr (10, [.int v0_length, .ref h1, g0_itemMany, g0_items, g0_balls, g0_outs, g0_sightMany, g0_sights, g0_keptMany, g0_cameras, g0_callMany, g0_calls, g0_shares, g0_rights, g0_caseMany, g0_cases, g0_place, g0_numbers, g0_xs, g0_ys, g0_zs, g0_us, g0_vs, g0_ws, g0_touchTick, g0_touchHalf, g0_powers, g0_worths])), (h1, .inl (k1, 200, .inl c1))] U.heap ∧ va_K (dC, dI) vwCl [(k1, .int)] U)) (vp_Si (fun r => r = ru)) 0 0 (fun _ => False) := by
  refine Met.ofW (cc := cX10_byteAt) (maxL := 2) (ret := (some .int)) (by decide) rfl ?_
  intro p e s m args below meth c s₁ B hml hv
  obtain ⟨rfl, hP, hK⟩ := hv
  have hx := B.exec
  have hb := B.bytes
  have hr := B.returns
  have hts := atoms_spec (ws := wsX10_byteAt) B.pre
  have hown : s.vm.findClass RX10 = some m.cls := findClass_of_methodNamed B.named
  have hlocks := B.notSynchronized
  have hinX10 : ∀ w ∈ wsX100, w ∈ wsX10_byteAt := by decide +kernel
  have hl := lv_entry ([.ref h0, .int a1]) (n := 2) (Nat.le_of_ble_eq_true rfl)
  rw [lg_entry_eq]
  generalize (lg_sl ([.ref h0, .int a1]) ++ List.replicate (2 - (lg_sl ([.ref h0, .int a1])).length) Slot.unset).toArray = ls at hl ⊢
  have hl : lv_has ls 2 [(0, .ref h0), (1, .int a1)] := hl
  have hrun := hm
  rw [fX10_byteAt] at hrun
  refine lv_iload_n hx hb dX10_byteAt_0 rfl (lv_at hl 1 rfl) ?_
  refine lv_aload_n hx hb dX10_byteAt_1 rfl (lv_at hl 0 rfl) ?_
  refine va_get (D := (dC, dI)) (ci := 10) (v := .int v0_length) (C := RX10) (T := TX10) (N := 28) hx hb hts hinX10 hown hK hP 0 rfl rfl 0 (by decide) (hts (.fieldLink RX10 80 "WasItOutModel" "length" "I") (by decide +kernel)) (fun _ h9 => h9) rfl dX10_byteAt_2 ?_
  refine lv_icmp_ge (tgt := 17) hx hb dX10_byteAt_5 (by decide) (fun cc => ?_) (fun cc => ?_)
  · have hrun := oi_t hrun cc
    refine lv_iconst (v := (0 : Int32)) hx hb dX10_byteAt_17 (by decide) ?_
    exact W.iret hx hb hr (fun t ht _ => ⟨_, rfl, Option.some.inj hrun, ht⟩) (fun _ h => by cases h) dX10_byteAt_18
  · have hrun := oi_f hrun cc
    refine lv_aload_n hx hb dX10_byteAt_8 rfl (lv_at hl 0 rfl) ?_
    refine va_get (D := (dC, dI)) (ci := 10) (v := .ref h1) (C := RX10) (T := TX10) (N := 28) hx hb hts hinX10 hown hK hP 0 rfl rfl 1 (by decide) (hts (.fieldLink RX10 7 "WasItOutModel" "text" "[I") (by decide +kernel)) (fun _ h9 => h9) rfl dX10_byteAt_9 ?_
    refine lv_iload_n hx hb dX10_byteAt_12 rfl (lv_at hl 1 rfl) ?_
    obtain ⟨hi, hrun⟩ := oi_x hrun
    refine va_iald hx hb hK hP 1 0 rfl rfl hi dX10_byteAt_13 ?_
    refine lv_goto (tgt := 18) hx hb dX10_byteAt_14 (by decide) ?_
    exact W.iret hx hb hr (fun t ht _ => ⟨_, rfl, Option.some.inj hrun, ht⟩) (fun _ h => by cases h) dX10_byteAt_18
set_option maxHeartbeats 4000000 in
set_option maxRecDepth 100000 in
theorem tX10_figures (l : Launch) (dC : Nat → ClassId) (dI : Nat → Nat → Nat) (sz : Nat) (h0 h1 h2 : Nat) (k1 k2 : ClassId) (g0_itemMany g0_items g0_balls g0_outs g0_sightMany g0_sights g0_keptMany g0_cameras g0_callMany g0_calls g0_shares g0_rights g0_caseMany g0_cases g0_xs g0_ys g0_zs g0_us g0_vs g0_ws g0_touchTick g0_touchHalf g0_powers g0_worths : Value) (N : Nat) (a1 : Int32) (v0_length : Int32) (v0_place : Int32) (c1 : Nat → Int32) (c2 : Nat → Int32) (ru : Int32 × (Int32) × (Nat → Int32)) (hm : fX10_figures N a1 v0_length v0_place c1 c2 = some ru) : Met l yX10_figures wsX10_figures ({ frames := 1, cells := 0, slots := 0, locals := 25 } : Room) (va_Pc [.ref h0, .int a1] (fun U => U.heap.size = sz ∧ va_P (dC, dI) vwCl [(h0, .inr (10, [.int v0_length, .ref h2, g0_itemMany, g0_items, g0_balls, g0_outs, g0_sightMany, g0_sights, g0_keptMany, g0_cameras, g0_callMany, g0_calls, g0_shares, g0_rights, g0_caseMany, g0_cases, .int v0_place, .ref h1, g0_xs, g0_ys, g0_zs, g0_us, g0_vs, g0_ws, g0_touchTick, g0_touchHalf, g0_powers, g0_worths])), (h1, .inl (k1, 3, .inl c1)), (h2, .inl (k2, 200, .inl c2))] U.heap ∧ va_K (dC, dI) vwCl [(k1, .int), (k2, .int)] U ∧ va_D (fun _ => True) [(h0, .inr (10, [.int v0_length, .ref h2, g0_itemMany, g0_items, g0_balls, g0_outs, g0_sightMany, g0_sights, g0_keptMany, g0_cameras, g0_callMany, g0_calls, g0_shares, g0_rights, g0_caseMany, g0_cases, .int v0_place, .ref h1, g0_xs, g0_ys, g0_zs, g0_us, g0_vs, g0_ws, g0_touchTick, g0_touchHalf, g0_powers, g0_worths])), (h1, .inl (k1, 3, .inl c1)), (h2, .inl (k2, 200, .inl c2))])) (va_Qi (fun r (_ : Unit) => r = ru.1 ∧ narrow .boolean (.int r) = .int r) (fun (_ : Unit) t => va_P (dC, dI) vwCl [(h0, .inr (10, [.int v0_length, .ref h2, g0_itemMany, g0_items, g0_balls, g0_outs, g0_sightMany, g0_sights, g0_keptMany, g0_cameras, g0_callMany, g0_calls, g0_shares, g0_rights, g0_caseMany, g0_cases, .int ru.2.1, .ref h1, g0_xs, g0_ys, g0_zs, g0_us, g0_vs, g0_ws, g0_touchTick, g0_touchHalf, g0_powers, g0_worths])), (h1, .inl (k1, 3, .inl ru.2.2)), (h2, .inl (k2, 200, .inl c2))] t.heap ∧ va_K (dC, dI) vwCl [(k1, .int), (k2, .int)] t ∧ va_D (va_A [(h0, .inr (10, [.int v0_length, .ref h2, g0_itemMany, g0_items, g0_balls, g0_outs, g0_sightMany, g0_sights, g0_keptMany, g0_cameras, g0_callMany, g0_calls, g0_shares, g0_rights, g0_caseMany, g0_cases, .int v0_place, .ref h1, g0_xs, g0_ys, g0_zs, g0_us, g0_vs, g0_ws, g0_touchTick, g0_touchHalf, g0_powers, g0_worths])), (h1, .inl (k1, 3, .inl c1)), (h2, .inl (k2, 200, .inl c2))] sz) [(h0, .inr (10, [.int v0_length, .ref h2, g0_itemMany, g0_items, g0_balls, g0_outs, g0_sightMany, g0_sights, g0_keptMany, g0_cameras, g0_callMany, g0_calls, g0_shares, g0_rights, g0_caseMany, g0_cases, .int ru.2.1, .ref h1, g0_xs, g0_ys, g0_zs, g0_us, g0_vs, g0_ws, g0_touchTick, g0_touchHalf, g0_powers, g0_worths])), (h1, .inl (k1, 3, .inl ru.2.2)), (h2, .inl (k2, 200, .inl c2))]) (va_A [(h0, .inr (10, [.int v0_length, .ref h2, g0_itemMany, g0_items, g0_balls, g0_outs, g0_sightMany, g0_sights, g0_keptMany, g0_cameras, g0_callMany, g0_calls, g0_shares, g0_rights, g0_caseMany, g0_cases, .int v0_place, .ref h1, g0_xs, g0_ys, g0_zs, g0_us, g0_vs, g0_ws, g0_touchTick, g0_touchHalf, g0_powers, g0_worths])), (h1, .inl (k1, 3, .inl c1)), (h2, .inl (k2, 200, .inl c2))] sz)) 0 0 (va_A [(h0, .inr (10, [.int v0_length, .ref h2, g0_itemMany, g0_items, g0_balls, g0_outs, g0_sightMany, g0_sights, g0_keptMany, g0_cameras, g0_callMany, g0_calls, g0_shares, g0_rights, g0_caseMany, g0_cases, .int v0_place, .ref h1, g0_xs, g0_ys, g0_zs, g0_us, g0_vs, g0_ws, g0_touchTick, g0_touchHalf, g0_powers, g0_worths])), (h1, .inl (k1, 3, .inl c1)), (h2, .inl (k2, 200, .inl c2))] sz) := by
  refine Met.ofW (cc := cX10_figures) (maxL := 6) (ret := (some .boolean)) (by decide) rfl ?_
  intro p e s m args below meth c s₁ B hml hv
  obtain ⟨rfl, hsz, hP, hK, hD0⟩ := hv
  have hx := B.exec
  have hb := B.bytes
  have hr := B.returns
  have hts := atoms_spec (ws := wsX10_figures) B.pre
  have hown : s.vm.findClass RX10 = some m.cls := findClass_of_methodNamed B.named
  have hlocks := B.notSynchronized
  subst hsz
  have hD := hD0.self (sz := s.heap.size)
  generalize hAe : va_A [(h0, .inr (10, [.int v0_length, .ref h2, g0_itemMany, g0_items, g0_balls, g0_outs, g0_sightMany, g0_sights, g0_keptMany, g0_cameras, g0_callMany, g0_calls, g0_shares, g0_rights, g0_caseMany, g0_cases, .int v0_place, .ref h1, g0_xs, g0_ys, g0_zs, g0_us, g0_vs, g0_ws, g0_touchTick, g0_touchHalf, g0_powers, g0_worths])), (h1, .inl (k1, 3, .inl c1)), (h2, .inl (k2, 200, .inl c2))] s.heap.size = A at hD ⊢
  have hA : ∀ q : Nat, s.heap.size ≤ q → A q := fun q h => by rw [← hAe]; exact Or.inr h
  have hS : va_S A s.heap s.heap [] := va_S.rf
  have hinX10 : ∀ w ∈ wsX100, w ∈ wsX10_figures := by decide +kernel
  have hl := lv_entry ([.ref h0, .int a1]) (n := 6) (Nat.le_of_ble_eq_true rfl)
  rw [lg_entry_eq]
  generalize (lg_sl ([.ref h0, .int a1]) ++ List.replicate (6 - (lg_sl ([.ref h0, .int a1])).length) Slot.unset).toArray = ls at hl ⊢
  have hl : lv_has ls 6 [(0, .ref h0), (1, .int a1)] := hl
  have hrun := hm
  rw [fX10_figures] at hrun
  obtain ⟨H, hHe⟩ : ∃ H, H = s.heap := ⟨_, rfl⟩
  obtain ⟨locs, hLe⟩ : ∃ locs : List Loc, locs = [] := ⟨_, rfl⟩
  rw [← hHe] at hP
  have hS : va_S A s.heap H locs := by rw [hHe, hLe]; exact hS
  have key : W p l e (headSpec wsX10_figures ({ frames := 1, cells := 0, slots := 0, locals := 25 } : Room)).room s m ([.ref h0, .int a1] : List Value).toArray below meth c H locs 0 0 (MQ below (va_Qi (fun r (_ : Unit) => r = ru.1 ∧ narrow .boolean (.int r) = .int r) (fun (_ : Unit) t => va_P (dC, dI) vwCl [(h0, .inr (10, [.int v0_length, .ref h2, g0_itemMany, g0_items, g0_balls, g0_outs, g0_sightMany, g0_sights, g0_keptMany, g0_cameras, g0_callMany, g0_calls, g0_shares, g0_rights, g0_caseMany, g0_cases, .int ru.2.1, .ref h1, g0_xs, g0_ys, g0_zs, g0_us, g0_vs, g0_ws, g0_touchTick, g0_touchHalf, g0_powers, g0_worths])), (h1, .inl (k1, 3, .inl ru.2.2)), (h2, .inl (k2, 200, .inl c2))] t.heap ∧ va_K (dC, dI) vwCl [(k1, .int), (k2, .int)] t ∧ va_D A [(h0, .inr (10, [.int v0_length, .ref h2, g0_itemMany, g0_items, g0_balls, g0_outs, g0_sightMany, g0_sights, g0_keptMany, g0_cameras, g0_callMany, g0_calls, g0_shares, g0_rights, g0_caseMany, g0_cases, .int ru.2.1, .ref h1, g0_xs, g0_ys, g0_zs, g0_us, g0_vs, g0_ws, g0_touchTick, g0_touchHalf, g0_powers, g0_worths])), (h1, .inl (k1, 3, .inl ru.2.2)), (h2, .inl (k2, 200, .inl c2))]) A) ([.ref h0, .int a1] : List Value).toArray s 0 0 A) (F0 m 0 ls []) := by
    clear hHe hLe
    refine lv_iconst (v := (0 : Int32)) hx hb dX10_figures_0 (by decide) ?_
    refine lv_istore_n (lv' := [(2, .int (0 : Int32)), (0, .ref h0), (1, .int a1)]) hx hb dX10_figures_1 rfl hl (by decide) rfl (fun ls hl => ?_)
    have L2 : ∀ (n : Nat) (x2_2 : Int32) (v0_place_2 : Int32) (c1_2 : Nat → Int32) (ls : Array Slot) (H : Heap) (locs : List Loc), fX10_figures_p2 N a1 v0_length c2 n x2_2 v0_place_2 c1_2 = some ru → va_P (dC, dI) vwCl [(h0, .inr (10, [.int v0_length, .ref h2, g0_itemMany, g0_items, g0_balls, g0_outs, g0_sightMany, g0_sights, g0_keptMany, g0_cameras, g0_callMany, g0_calls, g0_shares, g0_rights, g0_caseMany, g0_cases, .int v0_place_2, .ref h1, g0_xs, g0_ys, g0_zs, g0_us, g0_vs, g0_ws, g0_touchTick, g0_touchHalf, g0_powers, g0_worths])), (h1, .inl (k1, 3, .inl c1_2)), (h2, .inl (k2, 200, .inl c2))] H → va_D A [(h0, .inr (10, [.int v0_length, .ref h2, g0_itemMany, g0_items, g0_balls, g0_outs, g0_sightMany, g0_sights, g0_keptMany, g0_cameras, g0_callMany, g0_calls, g0_shares, g0_rights, g0_caseMany, g0_cases, .int v0_place_2, .ref h1, g0_xs, g0_ys, g0_zs, g0_us, g0_vs, g0_ws, g0_touchTick, g0_touchHalf, g0_powers, g0_worths])), (h1, .inl (k1, 3, .inl c1_2)), (h2, .inl (k2, 200, .inl c2))] → va_S A s.heap H locs → lv_has ls 6 [(0, .ref h0), (1, .int a1), (2, .int x2_2)] → W p l e (headSpec wsX10_figures ({ frames := 1, cells := 0, slots := 0, locals := 25 } : Room)).room s m ([.ref h0, .int a1] : List Value).toArray below meth c H locs 0 0 (MQ below (va_Qi (fun r (_ : Unit) => r = ru.1 ∧ narrow .boolean (.int r) = .int r) (fun (_ : Unit) t => va_P (dC, dI) vwCl [(h0, .inr (10, [.int v0_length, .ref h2, g0_itemMany, g0_items, g0_balls, g0_outs, g0_sightMany, g0_sights, g0_keptMany, g0_cameras, g0_callMany, g0_calls, g0_shares, g0_rights, g0_caseMany, g0_cases, .int ru.2.1, .ref h1, g0_xs, g0_ys, g0_zs, g0_us, g0_vs, g0_ws, g0_touchTick, g0_touchHalf, g0_powers, g0_worths])), (h1, .inl (k1, 3, .inl ru.2.2)), (h2, .inl (k2, 200, .inl c2))] t.heap ∧ va_K (dC, dI) vwCl [(k1, .int), (k2, .int)] t ∧ va_D A [(h0, .inr (10, [.int v0_length, .ref h2, g0_itemMany, g0_items, g0_balls, g0_outs, g0_sightMany, g0_sights, g0_keptMany, g0_cameras, g0_callMany, g0_calls, g0_shares, g0_rights, g0_caseMany, g0_cases, .int ru.2.1, .ref h1, g0_xs, g0_ys, g0_zs, g0_us, g0_vs, g0_ws, g0_touchTick, g0_touchHalf, g0_powers, g0_worths])), (h1, .inl (k1, 3, .inl ru.2.2)), (h2, .inl (k2, 200, .inl c2))]) A) ([.ref h0, .int a1] : List Value).toArray s 0 0 A) (F0 m 2 ls []) := by
      intro n
      induction n with
      | zero => intro x2_2 v0_place_2 c1_2 ls H locs hrun; rw [fX10_figures_p2] at hrun; exact on_e hrun
      | succ n ih =>
        intro x2_2 v0_place_2 c1_2 ls H locs hrun hP hD hS hl
        rw [fX10_figures_p2] at hrun
        refine lv_iload_n hx hb dX10_figures_2 rfl (lv_at hl 2 rfl) ?_
        refine lv_iload_n hx hb dX10_figures_3 rfl (lv_at hl 1 rfl) ?_
        refine lv_icmp_ge (tgt := 195) hx hb dX10_figures_4 (by decide) (fun cc => ?_) (fun cc => ?_)
        · have hrun := oi_t hrun cc
          refine lv_iconst (v := (1 : Int32)) hx hb dX10_figures_195 (by decide) ?_
          cases hrun
          have hP9 : va_P (dC, dI) vwCl [(h0, .inr (10, [.int v0_length, .ref h2, g0_itemMany, g0_items, g0_balls, g0_outs, g0_sightMany, g0_sights, g0_keptMany, g0_cameras, g0_callMany, g0_calls, g0_shares, g0_rights, g0_caseMany, g0_cases, .int v0_place_2, .ref h1, g0_xs, g0_ys, g0_zs, g0_us, g0_vs, g0_ws, g0_touchTick, g0_touchHalf, g0_powers, g0_worths])), (h1, .inl (k1, 3, .inl c1_2)), (h2, .inl (k2, 200, .inl c2))] H := hP
          have hD9 : va_D A [(h0, .inr (10, [.int v0_length, .ref h2, g0_itemMany, g0_items, g0_balls, g0_outs, g0_sightMany, g0_sights, g0_keptMany, g0_cameras, g0_callMany, g0_calls, g0_shares, g0_rights, g0_caseMany, g0_cases, .int v0_place_2, .ref h1, g0_xs, g0_ys, g0_zs, g0_us, g0_vs, g0_ws, g0_touchTick, g0_touchHalf, g0_powers, g0_worths])), (h1, .inl (k1, 3, .inl c1_2)), (h2, .inl (k2, 200, .inl c2))] := hD
          exact W.zret hx hb hr (by rfl) (fun t ht hW => ⟨⟨_, (), rfl, ⟨rfl, (by rfl)⟩, by rw [ht]; exact hP9, va_K.moved hW.alike hK, hD9⟩, hS.F ht⟩) hS.2.2 dX10_figures_196
        · have hrun := oi_f hrun cc
          refine lv_aload_n hx hb dX10_figures_7 rfl (lv_at hl 0 rfl) ?_
          refine lv_aload_n hx hb dX10_figures_8 rfl (lv_at hl 0 rfl) ?_
          refine va_get (D := (dC, dI)) (ci := 10) (v := .int v0_place_2) (C := RX10) (T := TX10) (N := 28) hx hb hts hinX10 hown hK hP 0 rfl rfl 16 (by decide) (hts (.fieldLink RX10 86 "WasItOutModel" "place" "I") (by decide +kernel)) (fun _ h9 => h9) rfl dX10_figures_9 ?_
          obtain ⟨q12, hc12, hrun⟩ := ob_e hrun
          refine wz_csi (va_runV (As := [.int v0_place_2]) (rest := []) ⟨hx, hb, hml, hown, hts⟩ (tX10_byteAt l dC dI h0 h2 k2 (g0_itemMany) (g0_items) (g0_balls) (g0_outs) (g0_sightMany) (g0_sights) (g0_keptMany) (g0_cameras) (g0_callMany) (g0_calls) (g0_shares) (g0_rights) (g0_caseMany) (g0_cases) (.int v0_place_2) (.ref h1) (g0_xs) (g0_ys) (g0_zs) (g0_us) (g0_vs) (g0_ws) (g0_touchTick) (g0_touchHalf) (g0_powers) (g0_worths) N v0_place_2 v0_length c2 q12 hc12) (cwV 1 hts gX10_figures_X10_byteAt rfl rfl rfl (by decide +kernel) ⟨Nat.le_of_ble_eq_true rfl, Nat.le_of_ble_eq_true rfl⟩) (wz_pVr (hP.sub (ws' := [(h0, .inr (10, [.int v0_length, .ref h2, g0_itemMany, g0_items, g0_balls, g0_outs, g0_sightMany, g0_sights, g0_keptMany, g0_cameras, g0_callMany, g0_calls, g0_shares, g0_rights, g0_caseMany, g0_cases, .int v0_place_2, .ref h1, g0_xs, g0_ys, g0_zs, g0_us, g0_vs, g0_ws, g0_touchTick, g0_touchHalf, g0_powers, g0_worths])), (h2, .inl (k2, 200, .inl c2))]) [0, 2] rfl) (hK.sub (tys' := [(k2, .int)]) [1] rfl) (va_recv hK hP (ci := 10) (q0 := 0) rfl rfl)) rfl rfl hl.1 rfl (lv_room (Nat.le_of_ble_eq_true rfl)) dX10_figures_12 ⟨Nat.zero_le _, Nat.zero_le _⟩) ?_
          refine lv_bipush (v := (45 : Int32)) hx hb dX10_figures_15 (by decide) ?_
          obtain ⟨k25, ek25, hrun⟩ := jn_e hrun
          have J25 : ∀ (z0_25 : Int32) (ls : Array Slot) (H : Heap) (locs : List Loc), k25 z0_25 = some ru → va_P (dC, dI) vwCl [(h0, .inr (10, [.int v0_length, .ref h2, g0_itemMany, g0_items, g0_balls, g0_outs, g0_sightMany, g0_sights, g0_keptMany, g0_cameras, g0_callMany, g0_calls, g0_shares, g0_rights, g0_caseMany, g0_cases, .int v0_place_2, .ref h1, g0_xs, g0_ys, g0_zs, g0_us, g0_vs, g0_ws, g0_touchTick, g0_touchHalf, g0_powers, g0_worths])), (h1, .inl (k1, 3, .inl c1_2)), (h2, .inl (k2, 200, .inl c2))] H → va_D A [(h0, .inr (10, [.int v0_length, .ref h2, g0_itemMany, g0_items, g0_balls, g0_outs, g0_sightMany, g0_sights, g0_keptMany, g0_cameras, g0_callMany, g0_calls, g0_shares, g0_rights, g0_caseMany, g0_cases, .int v0_place_2, .ref h1, g0_xs, g0_ys, g0_zs, g0_us, g0_vs, g0_ws, g0_touchTick, g0_touchHalf, g0_powers, g0_worths])), (h1, .inl (k1, 3, .inl c1_2)), (h2, .inl (k2, 200, .inl c2))] → va_S A s.heap H locs → lv_has ls 6 [(0, .ref h0), (1, .int a1), (2, .int x2_2)] → W p l e (headSpec wsX10_figures ({ frames := 1, cells := 0, slots := 0, locals := 25 } : Room)).room s m ([.ref h0, .int a1] : List Value).toArray below meth c H locs 0 0 (MQ below (va_Qi (fun r (_ : Unit) => r = ru.1 ∧ narrow .boolean (.int r) = .int r) (fun (_ : Unit) t => va_P (dC, dI) vwCl [(h0, .inr (10, [.int v0_length, .ref h2, g0_itemMany, g0_items, g0_balls, g0_outs, g0_sightMany, g0_sights, g0_keptMany, g0_cameras, g0_callMany, g0_calls, g0_shares, g0_rights, g0_caseMany, g0_cases, .int ru.2.1, .ref h1, g0_xs, g0_ys, g0_zs, g0_us, g0_vs, g0_ws, g0_touchTick, g0_touchHalf, g0_powers, g0_worths])), (h1, .inl (k1, 3, .inl ru.2.2)), (h2, .inl (k2, 200, .inl c2))] t.heap ∧ va_K (dC, dI) vwCl [(k1, .int), (k2, .int)] t ∧ va_D A [(h0, .inr (10, [.int v0_length, .ref h2, g0_itemMany, g0_items, g0_balls, g0_outs, g0_sightMany, g0_sights, g0_keptMany, g0_cameras, g0_callMany, g0_calls, g0_shares, g0_rights, g0_caseMany, g0_cases, .int ru.2.1, .ref h1, g0_xs, g0_ys, g0_zs, g0_us, g0_vs, g0_ws, g0_touchTick, g0_touchHalf, g0_powers, g0_worths])), (h1, .inl (k1, 3, .inl ru.2.2)), (h2, .inl (k2, 200, .inl c2))]) A) ([.ref h0, .int a1] : List Value).toArray s 0 0 A) (F0 m 25 ls [.int z0_25]) := by
            intro z0_25 ls H locs hrun hP hD hS hl
            rw [ek25] at hrun
            refine lv_istore_n (lv' := [(3, .int z0_25), (0, .ref h0), (1, .int a1), (2, .int x2_2)]) hx hb dX10_figures_25 rfl hl (by decide) rfl (fun ls hl => ?_)
            refine lv_aload_n hx hb dX10_figures_26 rfl (lv_at hl 1 rfl) ?_
            refine lv_dup hx hb dX10_figures_27 rfl ?_
            refine va_get (D := (dC, dI)) (ci := 10) (v := .int v0_place_2) (C := RX10) (T := TX10) (N := 28) hx hb hts hinX10 hown hK hP 0 rfl rfl 16 (by decide) (hts (.fieldLink RX10 86 "WasItOutModel" "place" "I") (by decide +kernel)) (fun _ h9 => h9) rfl dX10_figures_28 ?_
            refine lv_iload_n hx hb dX10_figures_31 rfl (lv_at hl 0 rfl) ?_
            obtain ⟨k40, ek40, hrun⟩ := jn_e hrun
            have J40 : ∀ (z0_40 : Int32) (ls : Array Slot) (H : Heap) (locs : List Loc), k40 z0_40 = some ru → va_P (dC, dI) vwCl [(h0, .inr (10, [.int v0_length, .ref h2, g0_itemMany, g0_items, g0_balls, g0_outs, g0_sightMany, g0_sights, g0_keptMany, g0_cameras, g0_callMany, g0_calls, g0_shares, g0_rights, g0_caseMany, g0_cases, .int v0_place_2, .ref h1, g0_xs, g0_ys, g0_zs, g0_us, g0_vs, g0_ws, g0_touchTick, g0_touchHalf, g0_powers, g0_worths])), (h1, .inl (k1, 3, .inl c1_2)), (h2, .inl (k2, 200, .inl c2))] H → va_D A [(h0, .inr (10, [.int v0_length, .ref h2, g0_itemMany, g0_items, g0_balls, g0_outs, g0_sightMany, g0_sights, g0_keptMany, g0_cameras, g0_callMany, g0_calls, g0_shares, g0_rights, g0_caseMany, g0_cases, .int v0_place_2, .ref h1, g0_xs, g0_ys, g0_zs, g0_us, g0_vs, g0_ws, g0_touchTick, g0_touchHalf, g0_powers, g0_worths])), (h1, .inl (k1, 3, .inl c1_2)), (h2, .inl (k2, 200, .inl c2))] → va_S A s.heap H locs → lv_has ls 6 [(0, .ref h0), (1, .int a1), (2, .int x2_2), (3, .int z0_25)] → W p l e (headSpec wsX10_figures ({ frames := 1, cells := 0, slots := 0, locals := 25 } : Room)).room s m ([.ref h0, .int a1] : List Value).toArray below meth c H locs 0 0 (MQ below (va_Qi (fun r (_ : Unit) => r = ru.1 ∧ narrow .boolean (.int r) = .int r) (fun (_ : Unit) t => va_P (dC, dI) vwCl [(h0, .inr (10, [.int v0_length, .ref h2, g0_itemMany, g0_items, g0_balls, g0_outs, g0_sightMany, g0_sights, g0_keptMany, g0_cameras, g0_callMany, g0_calls, g0_shares, g0_rights, g0_caseMany, g0_cases, .int ru.2.1, .ref h1, g0_xs, g0_ys, g0_zs, g0_us, g0_vs, g0_ws, g0_touchTick, g0_touchHalf, g0_powers, g0_worths])), (h1, .inl (k1, 3, .inl ru.2.2)), (h2, .inl (k2, 200, .inl c2))] t.heap ∧ va_K (dC, dI) vwCl [(k1, .int), (k2, .int)] t ∧ va_D A [(h0, .inr (10, [.int v0_length, .ref h2, g0_itemMany, g0_items, g0_balls, g0_outs, g0_sightMany, g0_sights, g0_keptMany, g0_cameras, g0_callMany, g0_calls, g0_shares, g0_rights, g0_caseMany, g0_cases, .int ru.2.1, .ref h1, g0_xs, g0_ys, g0_zs, g0_us, g0_vs, g0_ws, g0_touchTick, g0_touchHalf, g0_powers, g0_worths])), (h1, .inl (k1, 3, .inl ru.2.2)), (h2, .inl (k2, 200, .inl c2))]) A) ([.ref h0, .int a1] : List Value).toArray s 0 0 A) (F0 m 40 ls [.int z0_40, .int v0_place_2, .ref h0]) := by
              intro z0_40 ls H locs hrun hP hD hS hl
              rw [ek40] at hrun
              refine lv_iadd hx hb dX10_figures_40 ?_
              refine va_put (D := (dC, dI)) (ci := 10) (v := .int (v0_place_2 + z0_40)) (ty := .int) (C := RX10) (T := TX10) (N := 28) hx hb hts hinX10 tyX10 tyX10_ok nmX10 hown hK hP hD hS 0 rfl rfl 16 (by decide) (hts (.fieldLink RX10 86 "WasItOutModel" "place" "I") (by decide +kernel)) (fun _ h9 => h9) rfl (by decide +kernel) rfl rfl (Nat.le_of_ble_eq_true rfl) dX10_figures_41 (fun H locs hP hD hS => ?_)
              have hP : va_P (dC, dI) vwCl [(h0, .inr (10, [.int v0_length, .ref h2, g0_itemMany, g0_items, g0_balls, g0_outs, g0_sightMany, g0_sights, g0_keptMany, g0_cameras, g0_callMany, g0_calls, g0_shares, g0_rights, g0_caseMany, g0_cases, .int (v0_place_2 + z0_40), .ref h1, g0_xs, g0_ys, g0_zs, g0_us, g0_vs, g0_ws, g0_touchTick, g0_touchHalf, g0_powers, g0_worths])), (h1, .inl (k1, 3, .inl c1_2)), (h2, .inl (k2, 200, .inl c2))] H := hP
              have hD : va_D A [(h0, .inr (10, [.int v0_length, .ref h2, g0_itemMany, g0_items, g0_balls, g0_outs, g0_sightMany, g0_sights, g0_keptMany, g0_cameras, g0_callMany, g0_calls, g0_shares, g0_rights, g0_caseMany, g0_cases, .int (v0_place_2 + z0_40), .ref h1, g0_xs, g0_ys, g0_zs, g0_us, g0_vs, g0_ws, g0_touchTick, g0_touchHalf, g0_powers, g0_worths])), (h1, .inl (k1, 3, .inl c1_2)), (h2, .inl (k2, 200, .inl c2))] := hD
              refine lv_iconst (v := (0 : Int32)) hx hb dX10_figures_44 (by decide) ?_
              refine lv_istore (lv' := [(4, .int (0 : Int32)), (0, .ref h0), (1, .int a1), (2, .int x2_2), (3, .int z0_25)]) hx hb dX10_figures_45 hl (by decide) rfl (fun ls hl => ?_)
              refine lv_iconst (v := (0 : Int32)) hx hb dX10_figures_47 (by decide) ?_
              refine lv_istore (lv' := [(5, .int (0 : Int32)), (4, .int (0 : Int32)), (0, .ref h0), (1, .int a1), (2, .int x2_2), (3, .int z0_25)]) hx hb dX10_figures_48 hl (by decide) rfl (fun ls hl => ?_)
              obtain ⟨k112, ek112, hrun⟩ := jn_e hrun
              have J112 : ∀ (x4_112 : Int32) (x5_112 : Int32) (v0_place_112 : Int32) (ls : Array Slot) (H : Heap) (locs : List Loc), k112 x4_112 x5_112 v0_place_112 = some ru → va_P (dC, dI) vwCl [(h0, .inr (10, [.int v0_length, .ref h2, g0_itemMany, g0_items, g0_balls, g0_outs, g0_sightMany, g0_sights, g0_keptMany, g0_cameras, g0_callMany, g0_calls, g0_shares, g0_rights, g0_caseMany, g0_cases, .int v0_place_112, .ref h1, g0_xs, g0_ys, g0_zs, g0_us, g0_vs, g0_ws, g0_touchTick, g0_touchHalf, g0_powers, g0_worths])), (h1, .inl (k1, 3, .inl c1_2)), (h2, .inl (k2, 200, .inl c2))] H → va_D A [(h0, .inr (10, [.int v0_length, .ref h2, g0_itemMany, g0_items, g0_balls, g0_outs, g0_sightMany, g0_sights, g0_keptMany, g0_cameras, g0_callMany, g0_calls, g0_shares, g0_rights, g0_caseMany, g0_cases, .int v0_place_112, .ref h1, g0_xs, g0_ys, g0_zs, g0_us, g0_vs, g0_ws, g0_touchTick, g0_touchHalf, g0_powers, g0_worths])), (h1, .inl (k1, 3, .inl c1_2)), (h2, .inl (k2, 200, .inl c2))] → va_S A s.heap H locs → lv_has ls 6 [(0, .ref h0), (1, .int a1), (2, .int x2_2), (3, .int z0_25), (4, .int x4_112), (5, .int x5_112)] → W p l e (headSpec wsX10_figures ({ frames := 1, cells := 0, slots := 0, locals := 25 } : Room)).room s m ([.ref h0, .int a1] : List Value).toArray below meth c H locs 0 0 (MQ below (va_Qi (fun r (_ : Unit) => r = ru.1 ∧ narrow .boolean (.int r) = .int r) (fun (_ : Unit) t => va_P (dC, dI) vwCl [(h0, .inr (10, [.int v0_length, .ref h2, g0_itemMany, g0_items, g0_balls, g0_outs, g0_sightMany, g0_sights, g0_keptMany, g0_cameras, g0_callMany, g0_calls, g0_shares, g0_rights, g0_caseMany, g0_cases, .int ru.2.1, .ref h1, g0_xs, g0_ys, g0_zs, g0_us, g0_vs, g0_ws, g0_touchTick, g0_touchHalf, g0_powers, g0_worths])), (h1, .inl (k1, 3, .inl ru.2.2)), (h2, .inl (k2, 200, .inl c2))] t.heap ∧ va_K (dC, dI) vwCl [(k1, .int), (k2, .int)] t ∧ va_D A [(h0, .inr (10, [.int v0_length, .ref h2, g0_itemMany, g0_items, g0_balls, g0_outs, g0_sightMany, g0_sights, g0_keptMany, g0_cameras, g0_callMany, g0_calls, g0_shares, g0_rights, g0_caseMany, g0_cases, .int ru.2.1, .ref h1, g0_xs, g0_ys, g0_zs, g0_us, g0_vs, g0_ws, g0_touchTick, g0_touchHalf, g0_powers, g0_worths])), (h1, .inl (k1, 3, .inl ru.2.2)), (h2, .inl (k2, 200, .inl c2))]) A) ([.ref h0, .int a1] : List Value).toArray s 0 0 A) (F0 m 112 ls []) := by
                intro x4_112 x5_112 v0_place_112 ls H locs hrun hP hD hS hl
                rw [ek112] at hrun
                refine lv_iload hx hb dX10_figures_112 (lv_at hl 4 rfl) ?_
                refine lv_i2l (v := x4_112.toInt64) hx hb dX10_figures_114 rfl ?_
                refine lv_lconst (v := (1 : Int64)) hx hb dX10_figures_115 (by decide) ?_
                refine lv_ldc2 (v := (4 : Int64)) hx hb hown (hts (.constantLong RX10 97 (4 : Int64)) (by decide +kernel)) dX10_figures_116 ?_
                obtain ⟨q119, hc119, hrun⟩ := ob_e hrun
                refine wz_csz (va_runS (As := [.long x4_112.toInt64, .long (1 : Int64), .long (4 : Int64)]) (rest := []) ⟨hx, hb, hml, hown, hts⟩ (tX10_in l dC dI N x4_112.toInt64 ((1 : Int64)) ((4 : Int64)) q119 hc119) (va_cwS 3 hts gX10_figures_X10_in rfl rfl rfl (by decide +kernel) ⟨Nat.le_of_ble_eq_true rfl, Nat.le_of_ble_eq_true rfl⟩) (wz_pSr (hP.sub (ws' := []) [] rfl) (hK.sub (tys' := []) [] rfl)) rfl rfl hl.1 rfl (lv_room (Nat.le_of_ble_eq_true rfl)) dX10_figures_119 ⟨Nat.zero_le _, Nat.zero_le _⟩) (fun hz119 => ?_)
                refine lv_if_eq (tgt := 159) hx hb dX10_figures_122 (by decide) (fun cc => ?_) (fun cc => ?_)
                · have hrun := oi_t hrun cc
                  refine lv_iconst (v := (0 : Int32)) hx hb dX10_figures_159 (by decide) ?_
                  cases hrun
                  have hP9 : va_P (dC, dI) vwCl [(h0, .inr (10, [.int v0_length, .ref h2, g0_itemMany, g0_items, g0_balls, g0_outs, g0_sightMany, g0_sights, g0_keptMany, g0_cameras, g0_callMany, g0_calls, g0_shares, g0_rights, g0_caseMany, g0_cases, .int v0_place_112, .ref h1, g0_xs, g0_ys, g0_zs, g0_us, g0_vs, g0_ws, g0_touchTick, g0_touchHalf, g0_powers, g0_worths])), (h1, .inl (k1, 3, .inl c1_2)), (h2, .inl (k2, 200, .inl c2))] H := hP
                  have hD9 : va_D A [(h0, .inr (10, [.int v0_length, .ref h2, g0_itemMany, g0_items, g0_balls, g0_outs, g0_sightMany, g0_sights, g0_keptMany, g0_cameras, g0_callMany, g0_calls, g0_shares, g0_rights, g0_caseMany, g0_cases, .int v0_place_112, .ref h1, g0_xs, g0_ys, g0_zs, g0_us, g0_vs, g0_ws, g0_touchTick, g0_touchHalf, g0_powers, g0_worths])), (h1, .inl (k1, 3, .inl c1_2)), (h2, .inl (k2, 200, .inl c2))] := hD
                  exact W.zret hx hb hr (by rfl) (fun t ht hW => ⟨⟨_, (), rfl, ⟨rfl, (by rfl)⟩, by rw [ht]; exact hP9, va_K.moved hW.alike hK, hD9⟩, hS.F ht⟩) hS.2.2 dX10_figures_160
                · have hrun := oi_f hrun cc
                  refine lv_iload_n hx hb dX10_figures_125 rfl (lv_at hl 3 rfl) ?_
                  obtain ⟨k134, ek134, hrun⟩ := jn_e hrun
                  have J134 : ∀ (u_134 : Unit) (ls : Array Slot) (H : Heap) (locs : List Loc), k134 u_134 = some ru → va_P (dC, dI) vwCl [(h0, .inr (10, [.int v0_length, .ref h2, g0_itemMany, g0_items, g0_balls, g0_outs, g0_sightMany, g0_sights, g0_keptMany, g0_cameras, g0_callMany, g0_calls, g0_shares, g0_rights, g0_caseMany, g0_cases, .int v0_place_112, .ref h1, g0_xs, g0_ys, g0_zs, g0_us, g0_vs, g0_ws, g0_touchTick, g0_touchHalf, g0_powers, g0_worths])), (h1, .inl (k1, 3, .inl c1_2)), (h2, .inl (k2, 200, .inl c2))] H → va_D A [(h0, .inr (10, [.int v0_length, .ref h2, g0_itemMany, g0_items, g0_balls, g0_outs, g0_sightMany, g0_sights, g0_keptMany, g0_cameras, g0_callMany, g0_calls, g0_shares, g0_rights, g0_caseMany, g0_cases, .int v0_place_112, .ref h1, g0_xs, g0_ys, g0_zs, g0_us, g0_vs, g0_ws, g0_touchTick, g0_touchHalf, g0_powers, g0_worths])), (h1, .inl (k1, 3, .inl c1_2)), (h2, .inl (k2, 200, .inl c2))] → va_S A s.heap H locs → lv_has ls 6 [(0, .ref h0), (1, .int a1), (2, .int x2_2), (3, .int z0_25), (5, .int x5_112)] → W p l e (headSpec wsX10_figures ({ frames := 1, cells := 0, slots := 0, locals := 25 } : Room)).room s m ([.ref h0, .int a1] : List Value).toArray below meth c H locs 0 0 (MQ below (va_Qi (fun r (_ : Unit) => r = ru.1 ∧ narrow .boolean (.int r) = .int r) (fun (_ : Unit) t => va_P (dC, dI) vwCl [(h0, .inr (10, [.int v0_length, .ref h2, g0_itemMany, g0_items, g0_balls, g0_outs, g0_sightMany, g0_sights, g0_keptMany, g0_cameras, g0_callMany, g0_calls, g0_shares, g0_rights, g0_caseMany, g0_cases, .int ru.2.1, .ref h1, g0_xs, g0_ys, g0_zs, g0_us, g0_vs, g0_ws, g0_touchTick, g0_touchHalf, g0_powers, g0_worths])), (h1, .inl (k1, 3, .inl ru.2.2)), (h2, .inl (k2, 200, .inl c2))] t.heap ∧ va_K (dC, dI) vwCl [(k1, .int), (k2, .int)] t ∧ va_D A [(h0, .inr (10, [.int v0_length, .ref h2, g0_itemMany, g0_items, g0_balls, g0_outs, g0_sightMany, g0_sights, g0_keptMany, g0_cameras, g0_callMany, g0_calls, g0_shares, g0_rights, g0_caseMany, g0_cases, .int ru.2.1, .ref h1, g0_xs, g0_ys, g0_zs, g0_us, g0_vs, g0_ws, g0_touchTick, g0_touchHalf, g0_powers, g0_worths])), (h1, .inl (k1, 3, .inl ru.2.2)), (h2, .inl (k2, 200, .inl c2))]) A) ([.ref h0, .int a1] : List Value).toArray s 0 0 A) (F0 m 134 ls []) := by
                    intro u_134 ls H locs hrun hP hD hS hl
                    rw [ek134] at hrun
                    refine lv_aload_n hx hb dX10_figures_134 rfl (lv_at hl 0 rfl) ?_
                    refine lv_aload_n hx hb dX10_figures_135 rfl (lv_at hl 0 rfl) ?_
                    refine va_get (D := (dC, dI)) (ci := 10) (v := .int v0_place_112) (C := RX10) (T := TX10) (N := 28) hx hb hts hinX10 hown hK hP 0 rfl rfl 16 (by decide) (hts (.fieldLink RX10 86 "WasItOutModel" "place" "I") (by decide +kernel)) (fun _ h9 => h9) rfl dX10_figures_136 ?_
                    obtain ⟨q139, hc139, hrun⟩ := ob_e hrun
                    refine wz_csi (va_runV (As := [.int v0_place_112]) (rest := []) ⟨hx, hb, hml, hown, hts⟩ (tX10_byteAt l dC dI h0 h2 k2 (g0_itemMany) (g0_items) (g0_balls) (g0_outs) (g0_sightMany) (g0_sights) (g0_keptMany) (g0_cameras) (g0_callMany) (g0_calls) (g0_shares) (g0_rights) (g0_caseMany) (g0_cases) (.int v0_place_112) (.ref h1) (g0_xs) (g0_ys) (g0_zs) (g0_us) (g0_vs) (g0_ws) (g0_touchTick) (g0_touchHalf) (g0_powers) (g0_worths) N v0_place_112 v0_length c2 q139 hc139) (cwV 1 hts gX10_figures_X10_byteAt rfl rfl rfl (by decide +kernel) ⟨Nat.le_of_ble_eq_true rfl, Nat.le_of_ble_eq_true rfl⟩) (wz_pVr (hP.sub (ws' := [(h0, .inr (10, [.int v0_length, .ref h2, g0_itemMany, g0_items, g0_balls, g0_outs, g0_sightMany, g0_sights, g0_keptMany, g0_cameras, g0_callMany, g0_calls, g0_shares, g0_rights, g0_caseMany, g0_cases, .int v0_place_112, .ref h1, g0_xs, g0_ys, g0_zs, g0_us, g0_vs, g0_ws, g0_touchTick, g0_touchHalf, g0_powers, g0_worths])), (h2, .inl (k2, 200, .inl c2))]) [0, 2] rfl) (hK.sub (tys' := [(k2, .int)]) [1] rfl) (va_recv hK hP (ci := 10) (q0 := 0) rfl rfl)) rfl rfl hl.1 rfl (lv_room (Nat.le_of_ble_eq_true rfl)) dX10_figures_139 ⟨Nat.zero_le _, Nat.zero_le _⟩) ?_
                    refine lv_iload_n hx hb dX10_figures_142 rfl (lv_at hl 2 rfl) ?_
                    refine lv_iload_n hx hb dX10_figures_143 rfl (lv_at hl 1 rfl) ?_
                    refine lv_iconst (v := (1 : Int32)) hx hb dX10_figures_144 (by decide) ?_
                    refine lv_isub hx hb dX10_figures_145 ?_
                    obtain ⟨k156, ek156, hrun⟩ := jn_e hrun
                    have J156 : ∀ (z0_156 : Int32) (ls : Array Slot) (H : Heap) (locs : List Loc), k156 z0_156 = some ru → va_P (dC, dI) vwCl [(h0, .inr (10, [.int v0_length, .ref h2, g0_itemMany, g0_items, g0_balls, g0_outs, g0_sightMany, g0_sights, g0_keptMany, g0_cameras, g0_callMany, g0_calls, g0_shares, g0_rights, g0_caseMany, g0_cases, .int v0_place_112, .ref h1, g0_xs, g0_ys, g0_zs, g0_us, g0_vs, g0_ws, g0_touchTick, g0_touchHalf, g0_powers, g0_worths])), (h1, .inl (k1, 3, .inl c1_2)), (h2, .inl (k2, 200, .inl c2))] H → va_D A [(h0, .inr (10, [.int v0_length, .ref h2, g0_itemMany, g0_items, g0_balls, g0_outs, g0_sightMany, g0_sights, g0_keptMany, g0_cameras, g0_callMany, g0_calls, g0_shares, g0_rights, g0_caseMany, g0_cases, .int v0_place_112, .ref h1, g0_xs, g0_ys, g0_zs, g0_us, g0_vs, g0_ws, g0_touchTick, g0_touchHalf, g0_powers, g0_worths])), (h1, .inl (k1, 3, .inl c1_2)), (h2, .inl (k2, 200, .inl c2))] → va_S A s.heap H locs → lv_has ls 6 [(0, .ref h0), (1, .int a1), (2, .int x2_2), (3, .int z0_25), (5, .int x5_112)] → W p l e (headSpec wsX10_figures ({ frames := 1, cells := 0, slots := 0, locals := 25 } : Room)).room s m ([.ref h0, .int a1] : List Value).toArray below meth c H locs 0 0 (MQ below (va_Qi (fun r (_ : Unit) => r = ru.1 ∧ narrow .boolean (.int r) = .int r) (fun (_ : Unit) t => va_P (dC, dI) vwCl [(h0, .inr (10, [.int v0_length, .ref h2, g0_itemMany, g0_items, g0_balls, g0_outs, g0_sightMany, g0_sights, g0_keptMany, g0_cameras, g0_callMany, g0_calls, g0_shares, g0_rights, g0_caseMany, g0_cases, .int ru.2.1, .ref h1, g0_xs, g0_ys, g0_zs, g0_us, g0_vs, g0_ws, g0_touchTick, g0_touchHalf, g0_powers, g0_worths])), (h1, .inl (k1, 3, .inl ru.2.2)), (h2, .inl (k2, 200, .inl c2))] t.heap ∧ va_K (dC, dI) vwCl [(k1, .int), (k2, .int)] t ∧ va_D A [(h0, .inr (10, [.int v0_length, .ref h2, g0_itemMany, g0_items, g0_balls, g0_outs, g0_sightMany, g0_sights, g0_keptMany, g0_cameras, g0_callMany, g0_calls, g0_shares, g0_rights, g0_caseMany, g0_cases, .int ru.2.1, .ref h1, g0_xs, g0_ys, g0_zs, g0_us, g0_vs, g0_ws, g0_touchTick, g0_touchHalf, g0_powers, g0_worths])), (h1, .inl (k1, 3, .inl ru.2.2)), (h2, .inl (k2, 200, .inl c2))]) A) ([.ref h0, .int a1] : List Value).toArray s 0 0 A) (F0 m 156 ls [.int z0_156, .int q139]) := by
                      intro z0_156 ls H locs hrun hP hD hS hl
                      rw [ek156] at hrun
                      refine lv_icmp_eq (tgt := 161) hx hb dX10_figures_156 (by decide) (fun cc => ?_) (fun cc => ?_)
                      · have hrun := oi_t hrun cc
                        refine lv_aload_n hx hb dX10_figures_161 rfl (lv_at hl 0 rfl) ?_
                        refine va_get (D := (dC, dI)) (ci := 10) (v := .ref h1) (C := RX10) (T := TX10) (N := 28) hx hb hts hinX10 hown hK hP 0 rfl rfl 17 (by decide) (hts (.fieldLink RX10 46 "WasItOutModel" "numbers" "[I") (by decide +kernel)) (fun _ h9 => h9) rfl dX10_figures_162 ?_
                        refine lv_iload_n hx hb dX10_figures_165 rfl (lv_at hl 2 rfl) ?_
                        refine lv_iload_n hx hb dX10_figures_166 rfl (lv_at hl 3 rfl) ?_
                        obtain ⟨k178, ek178, hrun⟩ := jn_e hrun
                        have J178 : ∀ (z0_178 : Int32) (ls : Array Slot) (H : Heap) (locs : List Loc), k178 z0_178 = some ru → va_P (dC, dI) vwCl [(h0, .inr (10, [.int v0_length, .ref h2, g0_itemMany, g0_items, g0_balls, g0_outs, g0_sightMany, g0_sights, g0_keptMany, g0_cameras, g0_callMany, g0_calls, g0_shares, g0_rights, g0_caseMany, g0_cases, .int v0_place_112, .ref h1, g0_xs, g0_ys, g0_zs, g0_us, g0_vs, g0_ws, g0_touchTick, g0_touchHalf, g0_powers, g0_worths])), (h1, .inl (k1, 3, .inl c1_2)), (h2, .inl (k2, 200, .inl c2))] H → va_D A [(h0, .inr (10, [.int v0_length, .ref h2, g0_itemMany, g0_items, g0_balls, g0_outs, g0_sightMany, g0_sights, g0_keptMany, g0_cameras, g0_callMany, g0_calls, g0_shares, g0_rights, g0_caseMany, g0_cases, .int v0_place_112, .ref h1, g0_xs, g0_ys, g0_zs, g0_us, g0_vs, g0_ws, g0_touchTick, g0_touchHalf, g0_powers, g0_worths])), (h1, .inl (k1, 3, .inl c1_2)), (h2, .inl (k2, 200, .inl c2))] → va_S A s.heap H locs → lv_has ls 6 [(0, .ref h0), (1, .int a1), (2, .int x2_2)] → W p l e (headSpec wsX10_figures ({ frames := 1, cells := 0, slots := 0, locals := 25 } : Room)).room s m ([.ref h0, .int a1] : List Value).toArray below meth c H locs 0 0 (MQ below (va_Qi (fun r (_ : Unit) => r = ru.1 ∧ narrow .boolean (.int r) = .int r) (fun (_ : Unit) t => va_P (dC, dI) vwCl [(h0, .inr (10, [.int v0_length, .ref h2, g0_itemMany, g0_items, g0_balls, g0_outs, g0_sightMany, g0_sights, g0_keptMany, g0_cameras, g0_callMany, g0_calls, g0_shares, g0_rights, g0_caseMany, g0_cases, .int ru.2.1, .ref h1, g0_xs, g0_ys, g0_zs, g0_us, g0_vs, g0_ws, g0_touchTick, g0_touchHalf, g0_powers, g0_worths])), (h1, .inl (k1, 3, .inl ru.2.2)), (h2, .inl (k2, 200, .inl c2))] t.heap ∧ va_K (dC, dI) vwCl [(k1, .int), (k2, .int)] t ∧ va_D A [(h0, .inr (10, [.int v0_length, .ref h2, g0_itemMany, g0_items, g0_balls, g0_outs, g0_sightMany, g0_sights, g0_keptMany, g0_cameras, g0_callMany, g0_calls, g0_shares, g0_rights, g0_caseMany, g0_cases, .int ru.2.1, .ref h1, g0_xs, g0_ys, g0_zs, g0_us, g0_vs, g0_ws, g0_touchTick, g0_touchHalf, g0_powers, g0_worths])), (h1, .inl (k1, 3, .inl ru.2.2)), (h2, .inl (k2, 200, .inl c2))]) A) ([.ref h0, .int a1] : List Value).toArray s 0 0 A) (F0 m 178 ls [.int z0_178, .int x2_2, .ref h1]) := by
                          intro z0_178 ls H locs hrun hP hD hS hl
                          rw [ek178] at hrun
                          obtain ⟨hi, hrun⟩ := oi_x hrun
                          refine va_iast hx hb hK hP hD hS 1 0 rfl rfl hi dX10_figures_178 (fun H locs hP hD hS => ?_)
                          have hP : va_P (dC, dI) vwCl [(h0, .inr (10, [.int v0_length, .ref h2, g0_itemMany, g0_items, g0_balls, g0_outs, g0_sightMany, g0_sights, g0_keptMany, g0_cameras, g0_callMany, g0_calls, g0_shares, g0_rights, g0_caseMany, g0_cases, .int v0_place_112, .ref h1, g0_xs, g0_ys, g0_zs, g0_us, g0_vs, g0_ws, g0_touchTick, g0_touchHalf, g0_powers, g0_worths])), (h1, .inl (k1, 3, .inl (upd c1_2 x2_2.toNatClampNeg z0_178))), (h2, .inl (k2, 200, .inl c2))] H := hP
                          have hD : va_D A [(h0, .inr (10, [.int v0_length, .ref h2, g0_itemMany, g0_items, g0_balls, g0_outs, g0_sightMany, g0_sights, g0_keptMany, g0_cameras, g0_callMany, g0_calls, g0_shares, g0_rights, g0_caseMany, g0_cases, .int v0_place_112, .ref h1, g0_xs, g0_ys, g0_zs, g0_us, g0_vs, g0_ws, g0_touchTick, g0_touchHalf, g0_powers, g0_worths])), (h1, .inl (k1, 3, .inl (upd c1_2 x2_2.toNatClampNeg z0_178))), (h2, .inl (k2, 200, .inl c2))] := hD
                          refine lv_aload_n hx hb dX10_figures_179 rfl (lv_at hl 0 rfl) ?_
                          refine lv_dup hx hb dX10_figures_180 rfl ?_
                          refine va_get (D := (dC, dI)) (ci := 10) (v := .int v0_place_112) (C := RX10) (T := TX10) (N := 28) hx hb hts hinX10 hown hK hP 0 rfl rfl 16 (by decide) (hts (.fieldLink RX10 86 "WasItOutModel" "place" "I") (by decide +kernel)) (fun _ h9 => h9) rfl dX10_figures_181 ?_
                          refine lv_iconst (v := (1 : Int32)) hx hb dX10_figures_184 (by decide) ?_
                          refine lv_iadd hx hb dX10_figures_185 ?_
                          refine va_put (D := (dC, dI)) (ci := 10) (v := .int (v0_place_112 + (1 : Int32))) (ty := .int) (C := RX10) (T := TX10) (N := 28) hx hb hts hinX10 tyX10 tyX10_ok nmX10 hown hK hP hD hS 0 rfl rfl 16 (by decide) (hts (.fieldLink RX10 86 "WasItOutModel" "place" "I") (by decide +kernel)) (fun _ h9 => h9) rfl (by decide +kernel) rfl rfl (Nat.le_of_ble_eq_true rfl) dX10_figures_186 (fun H locs hP hD hS => ?_)
                          have hP : va_P (dC, dI) vwCl [(h0, .inr (10, [.int v0_length, .ref h2, g0_itemMany, g0_items, g0_balls, g0_outs, g0_sightMany, g0_sights, g0_keptMany, g0_cameras, g0_callMany, g0_calls, g0_shares, g0_rights, g0_caseMany, g0_cases, .int (v0_place_112 + (1 : Int32)), .ref h1, g0_xs, g0_ys, g0_zs, g0_us, g0_vs, g0_ws, g0_touchTick, g0_touchHalf, g0_powers, g0_worths])), (h1, .inl (k1, 3, .inl (upd c1_2 x2_2.toNatClampNeg z0_178))), (h2, .inl (k2, 200, .inl c2))] H := hP
                          have hD : va_D A [(h0, .inr (10, [.int v0_length, .ref h2, g0_itemMany, g0_items, g0_balls, g0_outs, g0_sightMany, g0_sights, g0_keptMany, g0_cameras, g0_callMany, g0_calls, g0_shares, g0_rights, g0_caseMany, g0_cases, .int (v0_place_112 + (1 : Int32)), .ref h1, g0_xs, g0_ys, g0_zs, g0_us, g0_vs, g0_ws, g0_touchTick, g0_touchHalf, g0_powers, g0_worths])), (h1, .inl (k1, 3, .inl (upd c1_2 x2_2.toNatClampNeg z0_178))), (h2, .inl (k2, 200, .inl c2))] := hD
                          refine lv_iinc (v := (x2_2 + (1 : Int32))) (lv' := [(2, .int (x2_2 + (1 : Int32))), (0, .ref h0), (1, .int a1)]) hx hb dX10_figures_189 hl (k := 2) rfl rfl (by decide) rfl (fun ls hl => ?_)
                          refine lv_goto (tgt := 2) hx hb dX10_figures_192 (by decide) ?_
                          exact ih ((x2_2 + (1 : Int32))) ((v0_place_112 + (1 : Int32))) ((upd c1_2 x2_2.toNatClampNeg z0_178)) ls H locs hrun hP hD hS (lv_sub hl [1, 2, 0] rfl)
                        refine lv_if_eq (tgt := 176) hx hb dX10_figures_167 (by decide) (fun cc => ?_) (fun cc => ?_)
                        · have hrun := oi_t hrun cc
                          refine lv_iload hx hb dX10_figures_176 (lv_at hl 4 rfl) ?_
                          exact J178 x5_112 ls H locs hrun hP hD hS (lv_sub hl [0, 1, 2] rfl)
                        · have hrun := oi_f hrun cc
                          refine lv_iload hx hb dX10_figures_170 (lv_at hl 4 rfl) ?_
                          refine lv_ineg hx hb dX10_figures_172 ?_
                          refine lv_goto (tgt := 178) hx hb dX10_figures_173 (by decide) ?_
                          exact J178 ((-x5_112)) ls H locs hrun hP hD hS (lv_sub hl [0, 1, 2] rfl)
                      · have hrun := oi_f hrun cc
                        refine lv_iconst (v := (0 : Int32)) hx hb dX10_figures_159 (by decide) ?_
                        cases hrun
                        have hP9 : va_P (dC, dI) vwCl [(h0, .inr (10, [.int v0_length, .ref h2, g0_itemMany, g0_items, g0_balls, g0_outs, g0_sightMany, g0_sights, g0_keptMany, g0_cameras, g0_callMany, g0_calls, g0_shares, g0_rights, g0_caseMany, g0_cases, .int v0_place_112, .ref h1, g0_xs, g0_ys, g0_zs, g0_us, g0_vs, g0_ws, g0_touchTick, g0_touchHalf, g0_powers, g0_worths])), (h1, .inl (k1, 3, .inl c1_2)), (h2, .inl (k2, 200, .inl c2))] H := hP
                        have hD9 : va_D A [(h0, .inr (10, [.int v0_length, .ref h2, g0_itemMany, g0_items, g0_balls, g0_outs, g0_sightMany, g0_sights, g0_keptMany, g0_cameras, g0_callMany, g0_calls, g0_shares, g0_rights, g0_caseMany, g0_cases, .int v0_place_112, .ref h1, g0_xs, g0_ys, g0_zs, g0_us, g0_vs, g0_ws, g0_touchTick, g0_touchHalf, g0_powers, g0_worths])), (h1, .inl (k1, 3, .inl c1_2)), (h2, .inl (k2, 200, .inl c2))] := hD
                        exact W.zret hx hb hr (by rfl) (fun t ht hW => ⟨⟨_, (), rfl, ⟨rfl, (by rfl)⟩, by rw [ht]; exact hP9, va_K.moved hW.alike hK, hD9⟩, hS.F ht⟩) hS.2.2 dX10_figures_160
                    refine lv_icmp_ge (tgt := 154) hx hb dX10_figures_146 (by decide) (fun cc => ?_) (fun cc => ?_)
                    · have hrun := oi_t hrun cc
                      refine lv_bipush (v := (59 : Int32)) hx hb dX10_figures_154 (by decide) ?_
                      exact J156 ((59 : Int32)) ls H locs hrun hP hD hS hl
                    · have hrun := oi_f hrun cc
                      refine lv_bipush (v := (44 : Int32)) hx hb dX10_figures_149 (by decide) ?_
                      refine lv_goto (tgt := 156) hx hb dX10_figures_151 (by decide) ?_
                      exact J156 ((44 : Int32)) ls H locs hrun hP hD hS hl
                  refine lv_if_eq (tgt := 134) hx hb dX10_figures_126 (by decide) (fun cc => ?_) (fun cc => ?_)
                  · have hrun := oi_t hrun cc
                    exact J134 (()) ls H locs hrun hP hD hS (lv_sub hl [0, 1, 2, 3, 5] rfl)
                  · have hrun := oi_f hrun cc
                    refine lv_iload hx hb dX10_figures_129 (lv_at hl 5 rfl) ?_
                    refine lv_if_eq (tgt := 159) hx hb dX10_figures_131 (by decide) (fun cc => ?_) (fun cc => ?_)
                    · have hrun := oi_t hrun cc
                      refine lv_iconst (v := (0 : Int32)) hx hb dX10_figures_159 (by decide) ?_
                      cases hrun
                      have hP9 : va_P (dC, dI) vwCl [(h0, .inr (10, [.int v0_length, .ref h2, g0_itemMany, g0_items, g0_balls, g0_outs, g0_sightMany, g0_sights, g0_keptMany, g0_cameras, g0_callMany, g0_calls, g0_shares, g0_rights, g0_caseMany, g0_cases, .int v0_place_112, .ref h1, g0_xs, g0_ys, g0_zs, g0_us, g0_vs, g0_ws, g0_touchTick, g0_touchHalf, g0_powers, g0_worths])), (h1, .inl (k1, 3, .inl c1_2)), (h2, .inl (k2, 200, .inl c2))] H := hP
                      have hD9 : va_D A [(h0, .inr (10, [.int v0_length, .ref h2, g0_itemMany, g0_items, g0_balls, g0_outs, g0_sightMany, g0_sights, g0_keptMany, g0_cameras, g0_callMany, g0_calls, g0_shares, g0_rights, g0_caseMany, g0_cases, .int v0_place_112, .ref h1, g0_xs, g0_ys, g0_zs, g0_us, g0_vs, g0_ws, g0_touchTick, g0_touchHalf, g0_powers, g0_worths])), (h1, .inl (k1, 3, .inl c1_2)), (h2, .inl (k2, 200, .inl c2))] := hD
                      exact W.zret hx hb hr (by rfl) (fun t ht hW => ⟨⟨_, (), rfl, ⟨rfl, (by rfl)⟩, by rw [ht]; exact hP9, va_K.moved hW.alike hK, hD9⟩, hS.F ht⟩) hS.2.2 dX10_figures_160
                    · have hrun := oi_f hrun cc
                      exact J134 (()) ls H locs hrun hP hD hS (lv_sub hl [0, 1, 2, 3, 5] rfl)
              have L50 : ∀ (n : Nat) (x4_50 : Int32) (x5_50 : Int32) (v0_place_50 : Int32) (ls : Array Slot) (H : Heap) (locs : List Loc), fX10_figures_p50 N a1 x2_2 z0_25 v0_length c2 k112 n x4_50 x5_50 v0_place_50 = some ru → va_P (dC, dI) vwCl [(h0, .inr (10, [.int v0_length, .ref h2, g0_itemMany, g0_items, g0_balls, g0_outs, g0_sightMany, g0_sights, g0_keptMany, g0_cameras, g0_callMany, g0_calls, g0_shares, g0_rights, g0_caseMany, g0_cases, .int v0_place_50, .ref h1, g0_xs, g0_ys, g0_zs, g0_us, g0_vs, g0_ws, g0_touchTick, g0_touchHalf, g0_powers, g0_worths])), (h1, .inl (k1, 3, .inl c1_2)), (h2, .inl (k2, 200, .inl c2))] H → va_D A [(h0, .inr (10, [.int v0_length, .ref h2, g0_itemMany, g0_items, g0_balls, g0_outs, g0_sightMany, g0_sights, g0_keptMany, g0_cameras, g0_callMany, g0_calls, g0_shares, g0_rights, g0_caseMany, g0_cases, .int v0_place_50, .ref h1, g0_xs, g0_ys, g0_zs, g0_us, g0_vs, g0_ws, g0_touchTick, g0_touchHalf, g0_powers, g0_worths])), (h1, .inl (k1, 3, .inl c1_2)), (h2, .inl (k2, 200, .inl c2))] → va_S A s.heap H locs → lv_has ls 6 [(0, .ref h0), (1, .int a1), (2, .int x2_2), (3, .int z0_25), (4, .int x4_50), (5, .int x5_50)] → W p l e (headSpec wsX10_figures ({ frames := 1, cells := 0, slots := 0, locals := 25 } : Room)).room s m ([.ref h0, .int a1] : List Value).toArray below meth c H locs 0 0 (MQ below (va_Qi (fun r (_ : Unit) => r = ru.1 ∧ narrow .boolean (.int r) = .int r) (fun (_ : Unit) t => va_P (dC, dI) vwCl [(h0, .inr (10, [.int v0_length, .ref h2, g0_itemMany, g0_items, g0_balls, g0_outs, g0_sightMany, g0_sights, g0_keptMany, g0_cameras, g0_callMany, g0_calls, g0_shares, g0_rights, g0_caseMany, g0_cases, .int ru.2.1, .ref h1, g0_xs, g0_ys, g0_zs, g0_us, g0_vs, g0_ws, g0_touchTick, g0_touchHalf, g0_powers, g0_worths])), (h1, .inl (k1, 3, .inl ru.2.2)), (h2, .inl (k2, 200, .inl c2))] t.heap ∧ va_K (dC, dI) vwCl [(k1, .int), (k2, .int)] t ∧ va_D A [(h0, .inr (10, [.int v0_length, .ref h2, g0_itemMany, g0_items, g0_balls, g0_outs, g0_sightMany, g0_sights, g0_keptMany, g0_cameras, g0_callMany, g0_calls, g0_shares, g0_rights, g0_caseMany, g0_cases, .int ru.2.1, .ref h1, g0_xs, g0_ys, g0_zs, g0_us, g0_vs, g0_ws, g0_touchTick, g0_touchHalf, g0_powers, g0_worths])), (h1, .inl (k1, 3, .inl ru.2.2)), (h2, .inl (k2, 200, .inl c2))]) A) ([.ref h0, .int a1] : List Value).toArray s 0 0 A) (F0 m 50 ls []) := by
                intro n
                induction n with
                | zero => intro x4_50 x5_50 v0_place_50 ls H locs hrun; rw [fX10_figures_p50] at hrun; exact on_e hrun
                | succ n ih =>
                  intro x4_50 x5_50 v0_place_50 ls H locs hrun hP hD hS hl
                  rw [fX10_figures_p50] at hrun
                  refine lv_aload_n hx hb dX10_figures_50 rfl (lv_at hl 0 rfl) ?_
                  refine lv_aload_n hx hb dX10_figures_51 rfl (lv_at hl 0 rfl) ?_
                  refine va_get (D := (dC, dI)) (ci := 10) (v := .int v0_place_50) (C := RX10) (T := TX10) (N := 28) hx hb hts hinX10 hown hK hP 0 rfl rfl 16 (by decide) (hts (.fieldLink RX10 86 "WasItOutModel" "place" "I") (by decide +kernel)) (fun _ h9 => h9) rfl dX10_figures_52 ?_
                  obtain ⟨q55, hc55, hrun⟩ := ob_e hrun
                  refine wz_csi (va_runV (As := [.int v0_place_50]) (rest := []) ⟨hx, hb, hml, hown, hts⟩ (tX10_byteAt l dC dI h0 h2 k2 (g0_itemMany) (g0_items) (g0_balls) (g0_outs) (g0_sightMany) (g0_sights) (g0_keptMany) (g0_cameras) (g0_callMany) (g0_calls) (g0_shares) (g0_rights) (g0_caseMany) (g0_cases) (.int v0_place_50) (.ref h1) (g0_xs) (g0_ys) (g0_zs) (g0_us) (g0_vs) (g0_ws) (g0_touchTick) (g0_touchHalf) (g0_powers) (g0_worths) N v0_place_50 v0_length c2 q55 hc55) (cwV 1 hts gX10_figures_X10_byteAt rfl rfl rfl (by decide +kernel) ⟨Nat.le_of_ble_eq_true rfl, Nat.le_of_ble_eq_true rfl⟩) (wz_pVr (hP.sub (ws' := [(h0, .inr (10, [.int v0_length, .ref h2, g0_itemMany, g0_items, g0_balls, g0_outs, g0_sightMany, g0_sights, g0_keptMany, g0_cameras, g0_callMany, g0_calls, g0_shares, g0_rights, g0_caseMany, g0_cases, .int v0_place_50, .ref h1, g0_xs, g0_ys, g0_zs, g0_us, g0_vs, g0_ws, g0_touchTick, g0_touchHalf, g0_powers, g0_worths])), (h2, .inl (k2, 200, .inl c2))]) [0, 2] rfl) (hK.sub (tys' := [(k2, .int)]) [1] rfl) (va_recv hK hP (ci := 10) (q0 := 0) rfl rfl)) rfl rfl hl.1 rfl (lv_room (Nat.le_of_ble_eq_true rfl)) dX10_figures_55 ⟨Nat.zero_le _, Nat.zero_le _⟩) ?_
                  refine lv_i2l (v := q55.toInt64) hx hb dX10_figures_58 rfl ?_
                  refine lv_ldc2 (v := (48 : Int64)) hx hb hown (hts (.constantLong RX10 93 (48 : Int64)) (by decide +kernel)) dX10_figures_59 ?_
                  refine lv_ldc2 (v := (57 : Int64)) hx hb hown (hts (.constantLong RX10 95 (57 : Int64)) (by decide +kernel)) dX10_figures_62 ?_
                  obtain ⟨q65, hc65, hrun⟩ := ob_e hrun
                  refine wz_csz (va_runS (As := [.long q55.toInt64, .long (48 : Int64), .long (57 : Int64)]) (rest := []) ⟨hx, hb, hml, hown, hts⟩ (tX10_in l dC dI N q55.toInt64 ((48 : Int64)) ((57 : Int64)) q65 hc65) (va_cwS 3 hts gX10_figures_X10_in rfl rfl rfl (by decide +kernel) ⟨Nat.le_of_ble_eq_true rfl, Nat.le_of_ble_eq_true rfl⟩) (wz_pSr (hP.sub (ws' := []) [] rfl) (hK.sub (tys' := []) [] rfl)) rfl rfl hl.1 rfl (lv_room (Nat.le_of_ble_eq_true rfl)) dX10_figures_65 ⟨Nat.zero_le _, Nat.zero_le _⟩) (fun hz65 => ?_)
                  refine lv_if_eq (tgt := 112) hx hb dX10_figures_68 (by decide) (fun cc => ?_) (fun cc => ?_)
                  · have hrun := oi_t hrun cc
                    exact J112 x4_50 x5_50 v0_place_50 ls H locs hrun hP hD hS hl
                  · have hrun := oi_f hrun cc
                    refine lv_iload hx hb dX10_figures_71 (lv_at hl 4 rfl) ?_
                    refine lv_iconst (v := (5 : Int32)) hx hb dX10_figures_73 (by decide) ?_
                    refine lv_icmp_ge (tgt := 112) hx hb dX10_figures_74 (by decide) (fun cc => ?_) (fun cc => ?_)
                    · have hrun := oi_t hrun cc
                      exact J112 x4_50 x5_50 v0_place_50 ls H locs hrun hP hD hS hl
                    · have hrun := oi_f hrun cc
                      refine lv_bipush (v := (10 : Int32)) hx hb dX10_figures_77 (by decide) ?_
                      refine lv_iload hx hb dX10_figures_79 (lv_at hl 5 rfl) ?_
                      refine lv_imul hx hb dX10_figures_81 ?_
                      refine lv_aload_n hx hb dX10_figures_82 rfl (lv_at hl 0 rfl) ?_
                      refine lv_aload_n hx hb dX10_figures_83 rfl (lv_at hl 0 rfl) ?_
                      refine va_get (D := (dC, dI)) (ci := 10) (v := .int v0_place_50) (C := RX10) (T := TX10) (N := 28) hx hb hts hinX10 hown hK hP 0 rfl rfl 16 (by decide) (hts (.fieldLink RX10 86 "WasItOutModel" "place" "I") (by decide +kernel)) (fun _ h9 => h9) rfl dX10_figures_84 ?_
                      obtain ⟨q87, hc87, hrun⟩ := ob_e hrun
                      refine wz_csi (va_runV (As := [.int v0_place_50]) (rest := [.int ((10 : Int32) * x5_50)]) ⟨hx, hb, hml, hown, hts⟩ (tX10_byteAt l dC dI h0 h2 k2 (g0_itemMany) (g0_items) (g0_balls) (g0_outs) (g0_sightMany) (g0_sights) (g0_keptMany) (g0_cameras) (g0_callMany) (g0_calls) (g0_shares) (g0_rights) (g0_caseMany) (g0_cases) (.int v0_place_50) (.ref h1) (g0_xs) (g0_ys) (g0_zs) (g0_us) (g0_vs) (g0_ws) (g0_touchTick) (g0_touchHalf) (g0_powers) (g0_worths) N v0_place_50 v0_length c2 q87 hc87) (cwV 1 hts gX10_figures_X10_byteAt rfl rfl rfl (by decide +kernel) ⟨Nat.le_of_ble_eq_true rfl, Nat.le_of_ble_eq_true rfl⟩) (wz_pVr (hP.sub (ws' := [(h0, .inr (10, [.int v0_length, .ref h2, g0_itemMany, g0_items, g0_balls, g0_outs, g0_sightMany, g0_sights, g0_keptMany, g0_cameras, g0_callMany, g0_calls, g0_shares, g0_rights, g0_caseMany, g0_cases, .int v0_place_50, .ref h1, g0_xs, g0_ys, g0_zs, g0_us, g0_vs, g0_ws, g0_touchTick, g0_touchHalf, g0_powers, g0_worths])), (h2, .inl (k2, 200, .inl c2))]) [0, 2] rfl) (hK.sub (tys' := [(k2, .int)]) [1] rfl) (va_recv hK hP (ci := 10) (q0 := 0) rfl rfl)) rfl rfl hl.1 rfl (lv_room (Nat.le_of_ble_eq_true rfl)) dX10_figures_87 ⟨Nat.zero_le _, Nat.zero_le _⟩) ?_
                      refine lv_iadd hx hb dX10_figures_90 ?_
                      refine lv_bipush (v := (48 : Int32)) hx hb dX10_figures_91 (by decide) ?_
                      refine lv_isub hx hb dX10_figures_93 ?_
                      refine lv_istore (lv' := [(5, .int ((((10 : Int32) * x5_50) + q87) - (48 : Int32))), (0, .ref h0), (1, .int a1), (2, .int x2_2), (3, .int z0_25), (4, .int x4_50)]) hx hb dX10_figures_94 hl (by decide) rfl (fun ls hl => ?_)
                      refine lv_iinc (v := (x4_50 + (1 : Int32))) (lv' := [(4, .int (x4_50 + (1 : Int32))), (5, .int ((((10 : Int32) * x5_50) + q87) - (48 : Int32))), (0, .ref h0), (1, .int a1), (2, .int x2_2), (3, .int z0_25)]) hx hb dX10_figures_96 hl (k := 5) rfl rfl (by decide) rfl (fun ls hl => ?_)
                      refine lv_aload_n hx hb dX10_figures_99 rfl (lv_at hl 2 rfl) ?_
                      refine lv_dup hx hb dX10_figures_100 rfl ?_
                      refine va_get (D := (dC, dI)) (ci := 10) (v := .int v0_place_50) (C := RX10) (T := TX10) (N := 28) hx hb hts hinX10 hown hK hP 0 rfl rfl 16 (by decide) (hts (.fieldLink RX10 86 "WasItOutModel" "place" "I") (by decide +kernel)) (fun _ h9 => h9) rfl dX10_figures_101 ?_
                      refine lv_iconst (v := (1 : Int32)) hx hb dX10_figures_104 (by decide) ?_
                      refine lv_iadd hx hb dX10_figures_105 ?_
                      refine va_put (D := (dC, dI)) (ci := 10) (v := .int (v0_place_50 + (1 : Int32))) (ty := .int) (C := RX10) (T := TX10) (N := 28) hx hb hts hinX10 tyX10 tyX10_ok nmX10 hown hK hP hD hS 0 rfl rfl 16 (by decide) (hts (.fieldLink RX10 86 "WasItOutModel" "place" "I") (by decide +kernel)) (fun _ h9 => h9) rfl (by decide +kernel) rfl rfl (Nat.le_of_ble_eq_true rfl) dX10_figures_106 (fun H locs hP hD hS => ?_)
                      have hP : va_P (dC, dI) vwCl [(h0, .inr (10, [.int v0_length, .ref h2, g0_itemMany, g0_items, g0_balls, g0_outs, g0_sightMany, g0_sights, g0_keptMany, g0_cameras, g0_callMany, g0_calls, g0_shares, g0_rights, g0_caseMany, g0_cases, .int (v0_place_50 + (1 : Int32)), .ref h1, g0_xs, g0_ys, g0_zs, g0_us, g0_vs, g0_ws, g0_touchTick, g0_touchHalf, g0_powers, g0_worths])), (h1, .inl (k1, 3, .inl c1_2)), (h2, .inl (k2, 200, .inl c2))] H := hP
                      have hD : va_D A [(h0, .inr (10, [.int v0_length, .ref h2, g0_itemMany, g0_items, g0_balls, g0_outs, g0_sightMany, g0_sights, g0_keptMany, g0_cameras, g0_callMany, g0_calls, g0_shares, g0_rights, g0_caseMany, g0_cases, .int (v0_place_50 + (1 : Int32)), .ref h1, g0_xs, g0_ys, g0_zs, g0_us, g0_vs, g0_ws, g0_touchTick, g0_touchHalf, g0_powers, g0_worths])), (h1, .inl (k1, 3, .inl c1_2)), (h2, .inl (k2, 200, .inl c2))] := hD
                      refine lv_goto (tgt := 50) hx hb dX10_figures_109 (by decide) ?_
                      exact ih ((x4_50 + (1 : Int32))) (((((10 : Int32) * x5_50) + q87) - (48 : Int32))) ((v0_place_50 + (1 : Int32))) ls H locs hrun hP hD hS (lv_sub hl [2, 3, 4, 5, 0, 1] rfl)
              exact L50 N ((0 : Int32)) ((0 : Int32)) ((v0_place_2 + z0_40)) ls H locs hrun hP hD hS (lv_sub hl [2, 3, 4, 5, 1, 0] rfl)
            refine lv_if_eq (tgt := 39) hx hb dX10_figures_32 (by decide) (fun cc => ?_) (fun cc => ?_)
            · have hrun := oi_t hrun cc
              refine lv_iconst (v := (0 : Int32)) hx hb dX10_figures_39 (by decide) ?_
              exact J40 ((0 : Int32)) ls H locs hrun hP hD hS (lv_sub hl [1, 2, 3, 0] rfl)
            · have hrun := oi_f hrun cc
              refine lv_iconst (v := (1 : Int32)) hx hb dX10_figures_35 (by decide) ?_
              refine lv_goto (tgt := 40) hx hb dX10_figures_36 (by decide) ?_
              exact J40 ((1 : Int32)) ls H locs hrun hP hD hS (lv_sub hl [1, 2, 3, 0] rfl)
          refine lv_icmp_ne (tgt := 24) hx hb dX10_figures_17 (by decide) (fun cc => ?_) (fun cc => ?_)
          · have hrun := oi_t hrun cc
            refine lv_iconst (v := (0 : Int32)) hx hb dX10_figures_24 (by decide) ?_
            exact J25 ((0 : Int32)) ls H locs hrun hP hD hS hl
          · have hrun := oi_n hrun cc
            refine lv_iconst (v := (1 : Int32)) hx hb dX10_figures_20 (by decide) ?_
            refine lv_goto (tgt := 25) hx hb dX10_figures_21 (by decide) ?_
            exact J25 ((1 : Int32)) ls H locs hrun hP hD hS hl
    exact L2 N ((0 : Int32)) v0_place c1 ls H locs hrun hP hD hS (lv_sub hl [1, 2, 0] rfl)
  rw [hHe, hLe] at key
  exact key
set_option maxHeartbeats 4000000 in
set_option maxRecDepth 100000 in
theorem tX10_item (l : Launch) (dC : Nat → ClassId) (dI : Nat → Nat → Nat) (sz : Nat) (h0 h1 h2 : Nat) (k1 k2 : ClassId) (g0_itemMany g0_items g0_balls g0_outs g0_sightMany g0_sights g0_keptMany g0_cameras g0_callMany g0_calls g0_shares g0_rights g0_caseMany g0_cases g0_xs g0_ys g0_zs g0_us g0_vs g0_ws g0_touchTick g0_touchHalf g0_powers g0_worths : Value) (N : Nat)  (v0_length : Int32) (v0_place : Int32) (c1 : Nat → Int32) (c2 : Nat → Int32) (ru : Int32 × (Int32) × (Nat → Int32)) (hm : fX10_item N v0_length v0_place c1 c2 = some ru) : Met l yX10_item wsX10_item ({ frames := 2, cells := 0, slots := 0, locals := 50 } : Room) (va_Pc [.ref h0] (fun U => U.heap.size = sz ∧ va_P (dC, dI) vwCl [(h0, .inr (10, [.int v0_length, .ref h2, g0_itemMany, g0_items, g0_balls, g0_outs, g0_sightMany, g0_sights, g0_keptMany, g0_cameras, g0_callMany, g0_calls, g0_shares, g0_rights, g0_caseMany, g0_cases, .int v0_place, .ref h1, g0_xs, g0_ys, g0_zs, g0_us, g0_vs, g0_ws, g0_touchTick, g0_touchHalf, g0_powers, g0_worths])), (h1, .inl (k1, 3, .inl c1)), (h2, .inl (k2, 200, .inl c2))] U.heap ∧ va_K (dC, dI) vwCl [(k1, .int), (k2, .int)] U ∧ va_D (fun _ => True) [(h0, .inr (10, [.int v0_length, .ref h2, g0_itemMany, g0_items, g0_balls, g0_outs, g0_sightMany, g0_sights, g0_keptMany, g0_cameras, g0_callMany, g0_calls, g0_shares, g0_rights, g0_caseMany, g0_cases, .int v0_place, .ref h1, g0_xs, g0_ys, g0_zs, g0_us, g0_vs, g0_ws, g0_touchTick, g0_touchHalf, g0_powers, g0_worths])), (h1, .inl (k1, 3, .inl c1)), (h2, .inl (k2, 200, .inl c2))])) (va_Qi (fun r (_ : Unit) => r = ru.1 ∧ narrow .boolean (.int r) = .int r) (fun (_ : Unit) t => va_P (dC, dI) vwCl [(h0, .inr (10, [.int v0_length, .ref h2, g0_itemMany, g0_items, g0_balls, g0_outs, g0_sightMany, g0_sights, g0_keptMany, g0_cameras, g0_callMany, g0_calls, g0_shares, g0_rights, g0_caseMany, g0_cases, .int ru.2.1, .ref h1, g0_xs, g0_ys, g0_zs, g0_us, g0_vs, g0_ws, g0_touchTick, g0_touchHalf, g0_powers, g0_worths])), (h1, .inl (k1, 3, .inl ru.2.2)), (h2, .inl (k2, 200, .inl c2))] t.heap ∧ va_K (dC, dI) vwCl [(k1, .int), (k2, .int)] t ∧ va_D (va_A [(h0, .inr (10, [.int v0_length, .ref h2, g0_itemMany, g0_items, g0_balls, g0_outs, g0_sightMany, g0_sights, g0_keptMany, g0_cameras, g0_callMany, g0_calls, g0_shares, g0_rights, g0_caseMany, g0_cases, .int v0_place, .ref h1, g0_xs, g0_ys, g0_zs, g0_us, g0_vs, g0_ws, g0_touchTick, g0_touchHalf, g0_powers, g0_worths])), (h1, .inl (k1, 3, .inl c1)), (h2, .inl (k2, 200, .inl c2))] sz) [(h0, .inr (10, [.int v0_length, .ref h2, g0_itemMany, g0_items, g0_balls, g0_outs, g0_sightMany, g0_sights, g0_keptMany, g0_cameras, g0_callMany, g0_calls, g0_shares, g0_rights, g0_caseMany, g0_cases, .int ru.2.1, .ref h1, g0_xs, g0_ys, g0_zs, g0_us, g0_vs, g0_ws, g0_touchTick, g0_touchHalf, g0_powers, g0_worths])), (h1, .inl (k1, 3, .inl ru.2.2)), (h2, .inl (k2, 200, .inl c2))]) (va_A [(h0, .inr (10, [.int v0_length, .ref h2, g0_itemMany, g0_items, g0_balls, g0_outs, g0_sightMany, g0_sights, g0_keptMany, g0_cameras, g0_callMany, g0_calls, g0_shares, g0_rights, g0_caseMany, g0_cases, .int v0_place, .ref h1, g0_xs, g0_ys, g0_zs, g0_us, g0_vs, g0_ws, g0_touchTick, g0_touchHalf, g0_powers, g0_worths])), (h1, .inl (k1, 3, .inl c1)), (h2, .inl (k2, 200, .inl c2))] sz)) 0 0 (va_A [(h0, .inr (10, [.int v0_length, .ref h2, g0_itemMany, g0_items, g0_balls, g0_outs, g0_sightMany, g0_sights, g0_keptMany, g0_cameras, g0_callMany, g0_calls, g0_shares, g0_rights, g0_caseMany, g0_cases, .int v0_place, .ref h1, g0_xs, g0_ys, g0_zs, g0_us, g0_vs, g0_ws, g0_touchTick, g0_touchHalf, g0_powers, g0_worths])), (h1, .inl (k1, 3, .inl c1)), (h2, .inl (k2, 200, .inl c2))] sz) := by
  refine Met.ofW (cc := cX10_item) (maxL := 2) (ret := (some .boolean)) (by decide) rfl ?_
  intro p e s m args below meth c s₁ B hml hv
  obtain ⟨rfl, hsz, hP, hK, hD0⟩ := hv
  have hx := B.exec
  have hb := B.bytes
  have hr := B.returns
  have hts := atoms_spec (ws := wsX10_item) B.pre
  have hown : s.vm.findClass RX10 = some m.cls := findClass_of_methodNamed B.named
  have hlocks := B.notSynchronized
  subst hsz
  have hD := hD0.self (sz := s.heap.size)
  generalize hAe : va_A [(h0, .inr (10, [.int v0_length, .ref h2, g0_itemMany, g0_items, g0_balls, g0_outs, g0_sightMany, g0_sights, g0_keptMany, g0_cameras, g0_callMany, g0_calls, g0_shares, g0_rights, g0_caseMany, g0_cases, .int v0_place, .ref h1, g0_xs, g0_ys, g0_zs, g0_us, g0_vs, g0_ws, g0_touchTick, g0_touchHalf, g0_powers, g0_worths])), (h1, .inl (k1, 3, .inl c1)), (h2, .inl (k2, 200, .inl c2))] s.heap.size = A at hD ⊢
  have hA : ∀ q : Nat, s.heap.size ≤ q → A q := fun q h => by rw [← hAe]; exact Or.inr h
  have hS : va_S A s.heap s.heap [] := va_S.rf
  have hinX10 : ∀ w ∈ wsX100, w ∈ wsX10_item := by decide +kernel
  have hl := lv_entry ([.ref h0]) (n := 2) (Nat.le_of_ble_eq_true rfl)
  rw [lg_entry_eq]
  generalize (lg_sl ([.ref h0]) ++ List.replicate (2 - (lg_sl ([.ref h0])).length) Slot.unset).toArray = ls at hl ⊢
  have hl : lv_has ls 2 [(0, .ref h0)] := hl
  have hrun := hm
  rw [fX10_item] at hrun
  obtain ⟨H, hHe⟩ : ∃ H, H = s.heap := ⟨_, rfl⟩
  obtain ⟨locs, hLe⟩ : ∃ locs : List Loc, locs = [] := ⟨_, rfl⟩
  rw [← hHe] at hP
  have hS : va_S A s.heap H locs := by rw [hHe, hLe]; exact hS
  have key : W p l e (headSpec wsX10_item ({ frames := 2, cells := 0, slots := 0, locals := 50 } : Room)).room s m ([.ref h0] : List Value).toArray below meth c H locs 0 0 (MQ below (va_Qi (fun r (_ : Unit) => r = ru.1 ∧ narrow .boolean (.int r) = .int r) (fun (_ : Unit) t => va_P (dC, dI) vwCl [(h0, .inr (10, [.int v0_length, .ref h2, g0_itemMany, g0_items, g0_balls, g0_outs, g0_sightMany, g0_sights, g0_keptMany, g0_cameras, g0_callMany, g0_calls, g0_shares, g0_rights, g0_caseMany, g0_cases, .int ru.2.1, .ref h1, g0_xs, g0_ys, g0_zs, g0_us, g0_vs, g0_ws, g0_touchTick, g0_touchHalf, g0_powers, g0_worths])), (h1, .inl (k1, 3, .inl ru.2.2)), (h2, .inl (k2, 200, .inl c2))] t.heap ∧ va_K (dC, dI) vwCl [(k1, .int), (k2, .int)] t ∧ va_D A [(h0, .inr (10, [.int v0_length, .ref h2, g0_itemMany, g0_items, g0_balls, g0_outs, g0_sightMany, g0_sights, g0_keptMany, g0_cameras, g0_callMany, g0_calls, g0_shares, g0_rights, g0_caseMany, g0_cases, .int ru.2.1, .ref h1, g0_xs, g0_ys, g0_zs, g0_us, g0_vs, g0_ws, g0_touchTick, g0_touchHalf, g0_powers, g0_worths])), (h1, .inl (k1, 3, .inl ru.2.2)), (h2, .inl (k2, 200, .inl c2))]) A) ([.ref h0] : List Value).toArray s 0 0 A) (F0 m 0 ls []) := by
    clear hHe hLe
    refine lv_aload_n hx hb dX10_item_0 rfl (lv_at hl 0 rfl) ?_
    refine lv_aload_n hx hb dX10_item_1 rfl (lv_at hl 0 rfl) ?_
    refine va_get (D := (dC, dI)) (ci := 10) (v := .int v0_place) (C := RX10) (T := TX10) (N := 28) hx hb hts hinX10 hown hK hP 0 rfl rfl 16 (by decide) (hts (.fieldLink RX10 86 "WasItOutModel" "place" "I") (by decide +kernel)) (fun _ h9 => h9) rfl dX10_item_2 ?_
    obtain ⟨q5, hc5, hrun⟩ := ob_e hrun
    refine wz_csi (va_runV (As := [.int v0_place]) (rest := []) ⟨hx, hb, hml, hown, hts⟩ (tX10_byteAt l dC dI h0 h2 k2 (g0_itemMany) (g0_items) (g0_balls) (g0_outs) (g0_sightMany) (g0_sights) (g0_keptMany) (g0_cameras) (g0_callMany) (g0_calls) (g0_shares) (g0_rights) (g0_caseMany) (g0_cases) (.int v0_place) (.ref h1) (g0_xs) (g0_ys) (g0_zs) (g0_us) (g0_vs) (g0_ws) (g0_touchTick) (g0_touchHalf) (g0_powers) (g0_worths) N v0_place v0_length c2 q5 hc5) (cwV 1 hts gX10_item_X10_byteAt rfl rfl rfl (by decide +kernel) ⟨Nat.le_of_ble_eq_true rfl, Nat.le_of_ble_eq_true rfl⟩) (wz_pVr (hP.sub (ws' := [(h0, .inr (10, [.int v0_length, .ref h2, g0_itemMany, g0_items, g0_balls, g0_outs, g0_sightMany, g0_sights, g0_keptMany, g0_cameras, g0_callMany, g0_calls, g0_shares, g0_rights, g0_caseMany, g0_cases, .int v0_place, .ref h1, g0_xs, g0_ys, g0_zs, g0_us, g0_vs, g0_ws, g0_touchTick, g0_touchHalf, g0_powers, g0_worths])), (h2, .inl (k2, 200, .inl c2))]) [0, 2] rfl) (hK.sub (tys' := [(k2, .int)]) [1] rfl) (va_recv hK hP (ci := 10) (q0 := 0) rfl rfl)) rfl rfl hl.1 rfl (lv_room (Nat.le_of_ble_eq_true rfl)) dX10_item_5 ⟨Nat.zero_le _, Nat.zero_le _⟩) ?_
    refine lv_istore_n (lv' := [(1, .int q5), (0, .ref h0)]) hx hb dX10_item_8 rfl hl (by decide) rfl (fun ls hl => ?_)
    refine lv_aload_n hx hb dX10_item_9 rfl (lv_at hl 1 rfl) ?_
    refine lv_dup hx hb dX10_item_10 rfl ?_
    refine va_get (D := (dC, dI)) (ci := 10) (v := .int v0_place) (C := RX10) (T := TX10) (N := 28) hx hb hts hinX10 hown hK hP 0 rfl rfl 16 (by decide) (hts (.fieldLink RX10 86 "WasItOutModel" "place" "I") (by decide +kernel)) (fun _ h9 => h9) rfl dX10_item_11 ?_
    refine lv_iconst (v := (1 : Int32)) hx hb dX10_item_14 (by decide) ?_
    refine lv_iadd hx hb dX10_item_15 ?_
    refine va_put (D := (dC, dI)) (ci := 10) (v := .int (v0_place + (1 : Int32))) (ty := .int) (C := RX10) (T := TX10) (N := 28) hx hb hts hinX10 tyX10 tyX10_ok nmX10 hown hK hP hD hS 0 rfl rfl 16 (by decide) (hts (.fieldLink RX10 86 "WasItOutModel" "place" "I") (by decide +kernel)) (fun _ h9 => h9) rfl (by decide +kernel) rfl rfl (Nat.le_of_ble_eq_true rfl) dX10_item_16 (fun H locs hP hD hS => ?_)
    have hP : va_P (dC, dI) vwCl [(h0, .inr (10, [.int v0_length, .ref h2, g0_itemMany, g0_items, g0_balls, g0_outs, g0_sightMany, g0_sights, g0_keptMany, g0_cameras, g0_callMany, g0_calls, g0_shares, g0_rights, g0_caseMany, g0_cases, .int (v0_place + (1 : Int32)), .ref h1, g0_xs, g0_ys, g0_zs, g0_us, g0_vs, g0_ws, g0_touchTick, g0_touchHalf, g0_powers, g0_worths])), (h1, .inl (k1, 3, .inl c1)), (h2, .inl (k2, 200, .inl c2))] H := hP
    have hD : va_D A [(h0, .inr (10, [.int v0_length, .ref h2, g0_itemMany, g0_items, g0_balls, g0_outs, g0_sightMany, g0_sights, g0_keptMany, g0_cameras, g0_callMany, g0_calls, g0_shares, g0_rights, g0_caseMany, g0_cases, .int (v0_place + (1 : Int32)), .ref h1, g0_xs, g0_ys, g0_zs, g0_us, g0_vs, g0_ws, g0_touchTick, g0_touchHalf, g0_powers, g0_worths])), (h1, .inl (k1, 3, .inl c1)), (h2, .inl (k2, 200, .inl c2))] := hD
    refine lv_aload_n hx hb dX10_item_19 rfl (lv_at hl 1 rfl) ?_
    refine va_get (D := (dC, dI)) (ci := 10) (v := .ref h1) (C := RX10) (T := TX10) (N := 28) hx hb hts hinX10 hown hK hP 0 rfl rfl 17 (by decide) (hts (.fieldLink RX10 46 "WasItOutModel" "numbers" "[I") (by decide +kernel)) (fun _ h9 => h9) rfl dX10_item_20 ?_
    refine lv_iconst (v := (1 : Int32)) hx hb dX10_item_23 (by decide) ?_
    refine lv_iconst (v := (0 : Int32)) hx hb dX10_item_24 (by decide) ?_
    have hi : vp_in (1 : Int32) 3 := ixk (by decide)
    refine va_iast hx hb hK hP hD hS 1 0 rfl rfl hi dX10_item_25 (fun H locs hP hD hS => ?_)
    have hP : va_P (dC, dI) vwCl [(h0, .inr (10, [.int v0_length, .ref h2, g0_itemMany, g0_items, g0_balls, g0_outs, g0_sightMany, g0_sights, g0_keptMany, g0_cameras, g0_callMany, g0_calls, g0_shares, g0_rights, g0_caseMany, g0_cases, .int (v0_place + (1 : Int32)), .ref h1, g0_xs, g0_ys, g0_zs, g0_us, g0_vs, g0_ws, g0_touchTick, g0_touchHalf, g0_powers, g0_worths])), (h1, .inl (k1, 3, .inl (upd c1 (1 : Int32).toNatClampNeg (0 : Int32)))), (h2, .inl (k2, 200, .inl c2))] H := hP
    have hD : va_D A [(h0, .inr (10, [.int v0_length, .ref h2, g0_itemMany, g0_items, g0_balls, g0_outs, g0_sightMany, g0_sights, g0_keptMany, g0_cameras, g0_callMany, g0_calls, g0_shares, g0_rights, g0_caseMany, g0_cases, .int (v0_place + (1 : Int32)), .ref h1, g0_xs, g0_ys, g0_zs, g0_us, g0_vs, g0_ws, g0_touchTick, g0_touchHalf, g0_powers, g0_worths])), (h1, .inl (k1, 3, .inl (upd c1 (1 : Int32).toNatClampNeg (0 : Int32)))), (h2, .inl (k2, 200, .inl c2))] := hD
    refine lv_aload_n hx hb dX10_item_26 rfl (lv_at hl 1 rfl) ?_
    refine va_get (D := (dC, dI)) (ci := 10) (v := .ref h1) (C := RX10) (T := TX10) (N := 28) hx hb hts hinX10 hown hK hP 0 rfl rfl 17 (by decide) (hts (.fieldLink RX10 46 "WasItOutModel" "numbers" "[I") (by decide +kernel)) (fun _ h9 => h9) rfl dX10_item_27 ?_
    refine lv_iconst (v := (2 : Int32)) hx hb dX10_item_30 (by decide) ?_
    refine lv_iconst (v := (0 : Int32)) hx hb dX10_item_31 (by decide) ?_
    have hi : vp_in (2 : Int32) 3 := ixk (by decide)
    refine va_iast hx hb hK hP hD hS 1 0 rfl rfl hi dX10_item_32 (fun H locs hP hD hS => ?_)
    have hP : va_P (dC, dI) vwCl [(h0, .inr (10, [.int v0_length, .ref h2, g0_itemMany, g0_items, g0_balls, g0_outs, g0_sightMany, g0_sights, g0_keptMany, g0_cameras, g0_callMany, g0_calls, g0_shares, g0_rights, g0_caseMany, g0_cases, .int (v0_place + (1 : Int32)), .ref h1, g0_xs, g0_ys, g0_zs, g0_us, g0_vs, g0_ws, g0_touchTick, g0_touchHalf, g0_powers, g0_worths])), (h1, .inl (k1, 3, .inl (upd (upd c1 (1 : Int32).toNatClampNeg (0 : Int32)) (2 : Int32).toNatClampNeg (0 : Int32)))), (h2, .inl (k2, 200, .inl c2))] H := hP
    have hD : va_D A [(h0, .inr (10, [.int v0_length, .ref h2, g0_itemMany, g0_items, g0_balls, g0_outs, g0_sightMany, g0_sights, g0_keptMany, g0_cameras, g0_callMany, g0_calls, g0_shares, g0_rights, g0_caseMany, g0_cases, .int (v0_place + (1 : Int32)), .ref h1, g0_xs, g0_ys, g0_zs, g0_us, g0_vs, g0_ws, g0_touchTick, g0_touchHalf, g0_powers, g0_worths])), (h1, .inl (k1, 3, .inl (upd (upd c1 (1 : Int32).toNatClampNeg (0 : Int32)) (2 : Int32).toNatClampNeg (0 : Int32)))), (h2, .inl (k2, 200, .inl c2))] := hD
    refine lv_iload_n hx hb dX10_item_33 rfl (lv_at hl 0 rfl) ?_
    by_cases cs97 : q5 = (97 : Int32)
    · have hrun := oi_t hrun cs97
      refine lv_tableIn (tgt := 128) hx hb dX10_item_34 (by rw [cs97]; decide) (by rw [cs97]; decide) (by rw [cs97]; rfl) (by decide) ?_
      refine lv_aload_n hx hb dX10_item_128 rfl (lv_at hl 1 rfl) ?_
      refine lv_iconst (v := (1 : Int32)) hx hb dX10_item_129 (by decide) ?_
      obtain ⟨q130, hc130, hrun⟩ := ob_e hrun
      refine wz_cqz (WC := [(h0, .inr (10, [.int v0_length, .ref h2, g0_itemMany, g0_items, g0_balls, g0_outs, g0_sightMany, g0_sights, g0_keptMany, g0_cameras, g0_callMany, g0_calls, g0_shares, g0_rights, g0_caseMany, g0_cases, .int (v0_place + (1 : Int32)), .ref h1, g0_xs, g0_ys, g0_zs, g0_us, g0_vs, g0_ws, g0_touchTick, g0_touchHalf, g0_powers, g0_worths])), (h1, .inl (k1, 3, .inl (upd (upd c1 (1 : Int32).toNatClampNeg (0 : Int32)) (2 : Int32).toNatClampNeg (0 : Int32)))), (h2, .inl (k2, 200, .inl c2))]) (WR := []) (W1 := [(h0, .inr (10, [.int v0_length, .ref h2, g0_itemMany, g0_items, g0_balls, g0_outs, g0_sightMany, g0_sights, g0_keptMany, g0_cameras, g0_callMany, g0_calls, g0_shares, g0_rights, g0_caseMany, g0_cases, .int q130.2.1, .ref h1, g0_xs, g0_ys, g0_zs, g0_us, g0_vs, g0_ws, g0_touchTick, g0_touchHalf, g0_powers, g0_worths])), (h1, .inl (k1, 3, .inl q130.2.2)), (h2, .inl (k2, 200, .inl c2))]) (va_runV (As := [.int (1 : Int32)]) (rest := []) ⟨hx, hb, hml, hown, hts⟩ (tX10_figures l dC dI H.size h0 h1 h2 k1 k2 (g0_itemMany) (g0_items) (g0_balls) (g0_outs) (g0_sightMany) (g0_sights) (g0_keptMany) (g0_cameras) (g0_callMany) (g0_calls) (g0_shares) (g0_rights) (g0_caseMany) (g0_cases) (g0_xs) (g0_ys) (g0_zs) (g0_us) (g0_vs) (g0_ws) (g0_touchTick) (g0_touchHalf) (g0_powers) (g0_worths) N ((1 : Int32)) v0_length ((v0_place + (1 : Int32))) ((upd (upd c1 (1 : Int32).toNatClampNeg (0 : Int32)) (2 : Int32).toNatClampNeg (0 : Int32))) c2 q130 hc130) (cwV 1 hts gX10_item_X10_figures rfl rfl rfl (by decide +kernel) ⟨Nat.le_of_ble_eq_true rfl, Nat.le_of_ble_eq_true rfl⟩) (wz_pVw (hP.sub (ws' := [(h0, .inr (10, [.int v0_length, .ref h2, g0_itemMany, g0_items, g0_balls, g0_outs, g0_sightMany, g0_sights, g0_keptMany, g0_cameras, g0_callMany, g0_calls, g0_shares, g0_rights, g0_caseMany, g0_cases, .int (v0_place + (1 : Int32)), .ref h1, g0_xs, g0_ys, g0_zs, g0_us, g0_vs, g0_ws, g0_touchTick, g0_touchHalf, g0_powers, g0_worths])), (h1, .inl (k1, 3, .inl (upd (upd c1 (1 : Int32).toNatClampNeg (0 : Int32)) (2 : Int32).toNatClampNeg (0 : Int32)))), (h2, .inl (k2, 200, .inl c2))]) [0, 1, 2] rfl) (hK.sub (tys' := [(k1, .int), (k2, .int)]) [0, 1] rfl) (hD.sub (ws' := [(h0, .inr (10, [.int v0_length, .ref h2, g0_itemMany, g0_items, g0_balls, g0_outs, g0_sightMany, g0_sights, g0_keptMany, g0_cameras, g0_callMany, g0_calls, g0_shares, g0_rights, g0_caseMany, g0_cases, .int (v0_place + (1 : Int32)), .ref h1, g0_xs, g0_ys, g0_zs, g0_us, g0_vs, g0_ws, g0_touchTick, g0_touchHalf, g0_powers, g0_worths])), (h1, .inl (k1, 3, .inl (upd (upd c1 (1 : Int32).toNatClampNeg (0 : Int32)) (2 : Int32).toNatClampNeg (0 : Int32)))), (h2, .inl (k2, 200, .inl c2))]) [0, 1, 2] (by decide) rfl) (va_recv hK hP (ci := 10) (q0 := 0) rfl rfl)) rfl rfl hl.1 rfl (lv_room (Nat.le_of_ble_eq_true rfl)) dX10_item_130 ⟨Nat.zero_le _, Nat.zero_le _⟩) hP hD hS hA [0, 1, 2] [] rfl rfl (by decide) (by decide) (fun H locs hP hD hS hz130 => ?_)
      have hP : va_P (dC, dI) vwCl [(h0, .inr (10, [.int v0_length, .ref h2, g0_itemMany, g0_items, g0_balls, g0_outs, g0_sightMany, g0_sights, g0_keptMany, g0_cameras, g0_callMany, g0_calls, g0_shares, g0_rights, g0_caseMany, g0_cases, .int q130.2.1, .ref h1, g0_xs, g0_ys, g0_zs, g0_us, g0_vs, g0_ws, g0_touchTick, g0_touchHalf, g0_powers, g0_worths])), (h1, .inl (k1, 3, .inl q130.2.2)), (h2, .inl (k2, 200, .inl c2))] H := hP
      have hD : va_D A [(h0, .inr (10, [.int v0_length, .ref h2, g0_itemMany, g0_items, g0_balls, g0_outs, g0_sightMany, g0_sights, g0_keptMany, g0_cameras, g0_callMany, g0_calls, g0_shares, g0_rights, g0_caseMany, g0_cases, .int q130.2.1, .ref h1, g0_xs, g0_ys, g0_zs, g0_us, g0_vs, g0_ws, g0_touchTick, g0_touchHalf, g0_powers, g0_worths])), (h1, .inl (k1, 3, .inl q130.2.2)), (h2, .inl (k2, 200, .inl c2))] := hD
      refine lv_if_eq (tgt := 157) hx hb dX10_item_133 (by decide) (fun cc => ?_) (fun cc => ?_)
      · have hrun := oi_t hrun cc
        refine lv_iconst (v := (0 : Int32)) hx hb dX10_item_157 (by decide) ?_
        cases hrun
        have hP9 : va_P (dC, dI) vwCl [(h0, .inr (10, [.int v0_length, .ref h2, g0_itemMany, g0_items, g0_balls, g0_outs, g0_sightMany, g0_sights, g0_keptMany, g0_cameras, g0_callMany, g0_calls, g0_shares, g0_rights, g0_caseMany, g0_cases, .int q130.2.1, .ref h1, g0_xs, g0_ys, g0_zs, g0_us, g0_vs, g0_ws, g0_touchTick, g0_touchHalf, g0_powers, g0_worths])), (h1, .inl (k1, 3, .inl q130.2.2)), (h2, .inl (k2, 200, .inl c2))] H := hP
        have hD9 : va_D A [(h0, .inr (10, [.int v0_length, .ref h2, g0_itemMany, g0_items, g0_balls, g0_outs, g0_sightMany, g0_sights, g0_keptMany, g0_cameras, g0_callMany, g0_calls, g0_shares, g0_rights, g0_caseMany, g0_cases, .int q130.2.1, .ref h1, g0_xs, g0_ys, g0_zs, g0_us, g0_vs, g0_ws, g0_touchTick, g0_touchHalf, g0_powers, g0_worths])), (h1, .inl (k1, 3, .inl q130.2.2)), (h2, .inl (k2, 200, .inl c2))] := hD
        exact W.zret hx hb hr (by rfl) (fun t ht hW => ⟨⟨_, (), rfl, ⟨rfl, (by rfl)⟩, by rw [ht]; exact hP9, va_K.moved hW.alike hK, hD9⟩, hS.F ht⟩) hS.2.2 dX10_item_158
      · have hrun := oi_f hrun cc
        refine lv_aload_n hx hb dX10_item_136 rfl (lv_at hl 1 rfl) ?_
        refine va_get (D := (dC, dI)) (ci := 10) (v := .ref h1) (C := RX10) (T := TX10) (N := 28) hx hb hts hinX10 hown hK hP 0 rfl rfl 17 (by decide) (hts (.fieldLink RX10 46 "WasItOutModel" "numbers" "[I") (by decide +kernel)) (fun _ h9 => h9) rfl dX10_item_137 ?_
        refine lv_iconst (v := (0 : Int32)) hx hb dX10_item_140 (by decide) ?_
        have hi : vp_in (0 : Int32) 3 := ixk (by decide)
        refine va_iald hx hb hK hP 1 0 rfl rfl hi dX10_item_141 ?_
        refine lv_i2l (v := (q130.2.2 (0 : Int32).toNatClampNeg).toInt64) hx hb dX10_item_142 rfl ?_
        refine lv_lconst (v := (0 : Int64)) hx hb dX10_item_143 (by decide) ?_
        refine lv_ldc2 (v := (500 : Int64)) hx hb hown (hts (.constantLong RX10 103 (500 : Int64)) (by decide +kernel)) dX10_item_144 ?_
        obtain ⟨q147, hc147, hrun⟩ := ob_e hrun
        refine wz_csz (va_runS (As := [.long (q130.2.2 (0 : Int32).toNatClampNeg).toInt64, .long (0 : Int64), .long (500 : Int64)]) (rest := []) ⟨hx, hb, hml, hown, hts⟩ (tX10_in l dC dI N ((q130.2.2 (0 : Int32).toNatClampNeg).toInt64) ((0 : Int64)) ((500 : Int64)) q147 hc147) (va_cwS 3 hts gX10_item_X10_in rfl rfl rfl (by decide +kernel) ⟨Nat.le_of_ble_eq_true rfl, Nat.le_of_ble_eq_true rfl⟩) (wz_pSr (hP.sub (ws' := []) [] rfl) (hK.sub (tys' := []) [] rfl)) rfl rfl hl.1 rfl (lv_room (Nat.le_of_ble_eq_true rfl)) dX10_item_147 ⟨Nat.zero_le _, Nat.zero_le _⟩) (fun hz147 => ?_)
        refine lv_if_eq (tgt := 157) hx hb dX10_item_150 (by decide) (fun cc => ?_) (fun cc => ?_)
        · have hrun := oi_t hrun cc
          refine lv_iconst (v := (0 : Int32)) hx hb dX10_item_157 (by decide) ?_
          cases hrun
          have hP9 : va_P (dC, dI) vwCl [(h0, .inr (10, [.int v0_length, .ref h2, g0_itemMany, g0_items, g0_balls, g0_outs, g0_sightMany, g0_sights, g0_keptMany, g0_cameras, g0_callMany, g0_calls, g0_shares, g0_rights, g0_caseMany, g0_cases, .int q130.2.1, .ref h1, g0_xs, g0_ys, g0_zs, g0_us, g0_vs, g0_ws, g0_touchTick, g0_touchHalf, g0_powers, g0_worths])), (h1, .inl (k1, 3, .inl q130.2.2)), (h2, .inl (k2, 200, .inl c2))] H := hP
          have hD9 : va_D A [(h0, .inr (10, [.int v0_length, .ref h2, g0_itemMany, g0_items, g0_balls, g0_outs, g0_sightMany, g0_sights, g0_keptMany, g0_cameras, g0_callMany, g0_calls, g0_shares, g0_rights, g0_caseMany, g0_cases, .int q130.2.1, .ref h1, g0_xs, g0_ys, g0_zs, g0_us, g0_vs, g0_ws, g0_touchTick, g0_touchHalf, g0_powers, g0_worths])), (h1, .inl (k1, 3, .inl q130.2.2)), (h2, .inl (k2, 200, .inl c2))] := hD
          exact W.zret hx hb hr (by rfl) (fun t ht hW => ⟨⟨_, (), rfl, ⟨rfl, (by rfl)⟩, by rw [ht]; exact hP9, va_K.moved hW.alike hK, hD9⟩, hS.F ht⟩) hS.2.2 dX10_item_158
        · have hrun := oi_f hrun cc
          refine lv_iconst (v := (1 : Int32)) hx hb dX10_item_153 (by decide) ?_
          refine lv_goto (tgt := 158) hx hb dX10_item_154 (by decide) ?_
          cases hrun
          have hP9 : va_P (dC, dI) vwCl [(h0, .inr (10, [.int v0_length, .ref h2, g0_itemMany, g0_items, g0_balls, g0_outs, g0_sightMany, g0_sights, g0_keptMany, g0_cameras, g0_callMany, g0_calls, g0_shares, g0_rights, g0_caseMany, g0_cases, .int q130.2.1, .ref h1, g0_xs, g0_ys, g0_zs, g0_us, g0_vs, g0_ws, g0_touchTick, g0_touchHalf, g0_powers, g0_worths])), (h1, .inl (k1, 3, .inl q130.2.2)), (h2, .inl (k2, 200, .inl c2))] H := hP
          have hD9 : va_D A [(h0, .inr (10, [.int v0_length, .ref h2, g0_itemMany, g0_items, g0_balls, g0_outs, g0_sightMany, g0_sights, g0_keptMany, g0_cameras, g0_callMany, g0_calls, g0_shares, g0_rights, g0_caseMany, g0_cases, .int q130.2.1, .ref h1, g0_xs, g0_ys, g0_zs, g0_us, g0_vs, g0_ws, g0_touchTick, g0_touchHalf, g0_powers, g0_worths])), (h1, .inl (k1, 3, .inl q130.2.2)), (h2, .inl (k2, 200, .inl c2))] := hD
          exact W.zret hx hb hr (by rfl) (fun t ht hW => ⟨⟨_, (), rfl, ⟨rfl, (by rfl)⟩, by rw [ht]; exact hP9, va_K.moved hW.alike hK, hD9⟩, hS.F ht⟩) hS.2.2 dX10_item_158
    · have hrun := oi_f hrun cs97
      by_cases cs98 : q5 = (98 : Int32)
      · have hrun := oi_t hrun cs98
        refine lv_tableIn (tgt := 190) hx hb dX10_item_34 (by rw [cs98]; decide) (by rw [cs98]; decide) (by rw [cs98]; rfl) (by decide) ?_
        refine lv_aload_n hx hb dX10_item_190 rfl (lv_at hl 1 rfl) ?_
        refine lv_iconst (v := (1 : Int32)) hx hb dX10_item_191 (by decide) ?_
        obtain ⟨q192, hc192, hrun⟩ := ob_e hrun
        refine wz_cqz (WC := [(h0, .inr (10, [.int v0_length, .ref h2, g0_itemMany, g0_items, g0_balls, g0_outs, g0_sightMany, g0_sights, g0_keptMany, g0_cameras, g0_callMany, g0_calls, g0_shares, g0_rights, g0_caseMany, g0_cases, .int (v0_place + (1 : Int32)), .ref h1, g0_xs, g0_ys, g0_zs, g0_us, g0_vs, g0_ws, g0_touchTick, g0_touchHalf, g0_powers, g0_worths])), (h1, .inl (k1, 3, .inl (upd (upd c1 (1 : Int32).toNatClampNeg (0 : Int32)) (2 : Int32).toNatClampNeg (0 : Int32)))), (h2, .inl (k2, 200, .inl c2))]) (WR := []) (W1 := [(h0, .inr (10, [.int v0_length, .ref h2, g0_itemMany, g0_items, g0_balls, g0_outs, g0_sightMany, g0_sights, g0_keptMany, g0_cameras, g0_callMany, g0_calls, g0_shares, g0_rights, g0_caseMany, g0_cases, .int q192.2.1, .ref h1, g0_xs, g0_ys, g0_zs, g0_us, g0_vs, g0_ws, g0_touchTick, g0_touchHalf, g0_powers, g0_worths])), (h1, .inl (k1, 3, .inl q192.2.2)), (h2, .inl (k2, 200, .inl c2))]) (va_runV (As := [.int (1 : Int32)]) (rest := []) ⟨hx, hb, hml, hown, hts⟩ (tX10_figures l dC dI H.size h0 h1 h2 k1 k2 (g0_itemMany) (g0_items) (g0_balls) (g0_outs) (g0_sightMany) (g0_sights) (g0_keptMany) (g0_cameras) (g0_callMany) (g0_calls) (g0_shares) (g0_rights) (g0_caseMany) (g0_cases) (g0_xs) (g0_ys) (g0_zs) (g0_us) (g0_vs) (g0_ws) (g0_touchTick) (g0_touchHalf) (g0_powers) (g0_worths) N ((1 : Int32)) v0_length ((v0_place + (1 : Int32))) ((upd (upd c1 (1 : Int32).toNatClampNeg (0 : Int32)) (2 : Int32).toNatClampNeg (0 : Int32))) c2 q192 hc192) (cwV 1 hts gX10_item_X10_figures rfl rfl rfl (by decide +kernel) ⟨Nat.le_of_ble_eq_true rfl, Nat.le_of_ble_eq_true rfl⟩) (wz_pVw (hP.sub (ws' := [(h0, .inr (10, [.int v0_length, .ref h2, g0_itemMany, g0_items, g0_balls, g0_outs, g0_sightMany, g0_sights, g0_keptMany, g0_cameras, g0_callMany, g0_calls, g0_shares, g0_rights, g0_caseMany, g0_cases, .int (v0_place + (1 : Int32)), .ref h1, g0_xs, g0_ys, g0_zs, g0_us, g0_vs, g0_ws, g0_touchTick, g0_touchHalf, g0_powers, g0_worths])), (h1, .inl (k1, 3, .inl (upd (upd c1 (1 : Int32).toNatClampNeg (0 : Int32)) (2 : Int32).toNatClampNeg (0 : Int32)))), (h2, .inl (k2, 200, .inl c2))]) [0, 1, 2] rfl) (hK.sub (tys' := [(k1, .int), (k2, .int)]) [0, 1] rfl) (hD.sub (ws' := [(h0, .inr (10, [.int v0_length, .ref h2, g0_itemMany, g0_items, g0_balls, g0_outs, g0_sightMany, g0_sights, g0_keptMany, g0_cameras, g0_callMany, g0_calls, g0_shares, g0_rights, g0_caseMany, g0_cases, .int (v0_place + (1 : Int32)), .ref h1, g0_xs, g0_ys, g0_zs, g0_us, g0_vs, g0_ws, g0_touchTick, g0_touchHalf, g0_powers, g0_worths])), (h1, .inl (k1, 3, .inl (upd (upd c1 (1 : Int32).toNatClampNeg (0 : Int32)) (2 : Int32).toNatClampNeg (0 : Int32)))), (h2, .inl (k2, 200, .inl c2))]) [0, 1, 2] (by decide) rfl) (va_recv hK hP (ci := 10) (q0 := 0) rfl rfl)) rfl rfl hl.1 rfl (lv_room (Nat.le_of_ble_eq_true rfl)) dX10_item_192 ⟨Nat.zero_le _, Nat.zero_le _⟩) hP hD hS hA [0, 1, 2] [] rfl rfl (by decide) (by decide) (fun H locs hP hD hS hz192 => ?_)
        have hP : va_P (dC, dI) vwCl [(h0, .inr (10, [.int v0_length, .ref h2, g0_itemMany, g0_items, g0_balls, g0_outs, g0_sightMany, g0_sights, g0_keptMany, g0_cameras, g0_callMany, g0_calls, g0_shares, g0_rights, g0_caseMany, g0_cases, .int q192.2.1, .ref h1, g0_xs, g0_ys, g0_zs, g0_us, g0_vs, g0_ws, g0_touchTick, g0_touchHalf, g0_powers, g0_worths])), (h1, .inl (k1, 3, .inl q192.2.2)), (h2, .inl (k2, 200, .inl c2))] H := hP
        have hD : va_D A [(h0, .inr (10, [.int v0_length, .ref h2, g0_itemMany, g0_items, g0_balls, g0_outs, g0_sightMany, g0_sights, g0_keptMany, g0_cameras, g0_callMany, g0_calls, g0_shares, g0_rights, g0_caseMany, g0_cases, .int q192.2.1, .ref h1, g0_xs, g0_ys, g0_zs, g0_us, g0_vs, g0_ws, g0_touchTick, g0_touchHalf, g0_powers, g0_worths])), (h1, .inl (k1, 3, .inl q192.2.2)), (h2, .inl (k2, 200, .inl c2))] := hD
        refine lv_if_eq (tgt := 219) hx hb dX10_item_195 (by decide) (fun cc => ?_) (fun cc => ?_)
        · have hrun := oi_t hrun cc
          refine lv_iconst (v := (0 : Int32)) hx hb dX10_item_219 (by decide) ?_
          cases hrun
          have hP9 : va_P (dC, dI) vwCl [(h0, .inr (10, [.int v0_length, .ref h2, g0_itemMany, g0_items, g0_balls, g0_outs, g0_sightMany, g0_sights, g0_keptMany, g0_cameras, g0_callMany, g0_calls, g0_shares, g0_rights, g0_caseMany, g0_cases, .int q192.2.1, .ref h1, g0_xs, g0_ys, g0_zs, g0_us, g0_vs, g0_ws, g0_touchTick, g0_touchHalf, g0_powers, g0_worths])), (h1, .inl (k1, 3, .inl q192.2.2)), (h2, .inl (k2, 200, .inl c2))] H := hP
          have hD9 : va_D A [(h0, .inr (10, [.int v0_length, .ref h2, g0_itemMany, g0_items, g0_balls, g0_outs, g0_sightMany, g0_sights, g0_keptMany, g0_cameras, g0_callMany, g0_calls, g0_shares, g0_rights, g0_caseMany, g0_cases, .int q192.2.1, .ref h1, g0_xs, g0_ys, g0_zs, g0_us, g0_vs, g0_ws, g0_touchTick, g0_touchHalf, g0_powers, g0_worths])), (h1, .inl (k1, 3, .inl q192.2.2)), (h2, .inl (k2, 200, .inl c2))] := hD
          exact W.zret hx hb hr (by rfl) (fun t ht hW => ⟨⟨_, (), rfl, ⟨rfl, (by rfl)⟩, by rw [ht]; exact hP9, va_K.moved hW.alike hK, hD9⟩, hS.F ht⟩) hS.2.2 dX10_item_220
        · have hrun := oi_f hrun cc
          refine lv_aload_n hx hb dX10_item_198 rfl (lv_at hl 1 rfl) ?_
          refine va_get (D := (dC, dI)) (ci := 10) (v := .ref h1) (C := RX10) (T := TX10) (N := 28) hx hb hts hinX10 hown hK hP 0 rfl rfl 17 (by decide) (hts (.fieldLink RX10 46 "WasItOutModel" "numbers" "[I") (by decide +kernel)) (fun _ h9 => h9) rfl dX10_item_199 ?_
          refine lv_iconst (v := (0 : Int32)) hx hb dX10_item_202 (by decide) ?_
          have hi : vp_in (0 : Int32) 3 := ixk (by decide)
          refine va_iald hx hb hK hP 1 0 rfl rfl hi dX10_item_203 ?_
          refine lv_i2l (v := (q192.2.2 (0 : Int32).toNatClampNeg).toInt64) hx hb dX10_item_204 rfl ?_
          refine lv_lconst (v := (0 : Int64)) hx hb dX10_item_205 (by decide) ?_
          refine lv_ldc2 (v := (1000 : Int64)) hx hb hown (hts (.constantLong RX10 107 (1000 : Int64)) (by decide +kernel)) dX10_item_206 ?_
          obtain ⟨q209, hc209, hrun⟩ := ob_e hrun
          refine wz_csz (va_runS (As := [.long (q192.2.2 (0 : Int32).toNatClampNeg).toInt64, .long (0 : Int64), .long (1000 : Int64)]) (rest := []) ⟨hx, hb, hml, hown, hts⟩ (tX10_in l dC dI N ((q192.2.2 (0 : Int32).toNatClampNeg).toInt64) ((0 : Int64)) ((1000 : Int64)) q209 hc209) (va_cwS 3 hts gX10_item_X10_in rfl rfl rfl (by decide +kernel) ⟨Nat.le_of_ble_eq_true rfl, Nat.le_of_ble_eq_true rfl⟩) (wz_pSr (hP.sub (ws' := []) [] rfl) (hK.sub (tys' := []) [] rfl)) rfl rfl hl.1 rfl (lv_room (Nat.le_of_ble_eq_true rfl)) dX10_item_209 ⟨Nat.zero_le _, Nat.zero_le _⟩) (fun hz209 => ?_)
          refine lv_if_eq (tgt := 219) hx hb dX10_item_212 (by decide) (fun cc => ?_) (fun cc => ?_)
          · have hrun := oi_t hrun cc
            refine lv_iconst (v := (0 : Int32)) hx hb dX10_item_219 (by decide) ?_
            cases hrun
            have hP9 : va_P (dC, dI) vwCl [(h0, .inr (10, [.int v0_length, .ref h2, g0_itemMany, g0_items, g0_balls, g0_outs, g0_sightMany, g0_sights, g0_keptMany, g0_cameras, g0_callMany, g0_calls, g0_shares, g0_rights, g0_caseMany, g0_cases, .int q192.2.1, .ref h1, g0_xs, g0_ys, g0_zs, g0_us, g0_vs, g0_ws, g0_touchTick, g0_touchHalf, g0_powers, g0_worths])), (h1, .inl (k1, 3, .inl q192.2.2)), (h2, .inl (k2, 200, .inl c2))] H := hP
            have hD9 : va_D A [(h0, .inr (10, [.int v0_length, .ref h2, g0_itemMany, g0_items, g0_balls, g0_outs, g0_sightMany, g0_sights, g0_keptMany, g0_cameras, g0_callMany, g0_calls, g0_shares, g0_rights, g0_caseMany, g0_cases, .int q192.2.1, .ref h1, g0_xs, g0_ys, g0_zs, g0_us, g0_vs, g0_ws, g0_touchTick, g0_touchHalf, g0_powers, g0_worths])), (h1, .inl (k1, 3, .inl q192.2.2)), (h2, .inl (k2, 200, .inl c2))] := hD
            exact W.zret hx hb hr (by rfl) (fun t ht hW => ⟨⟨_, (), rfl, ⟨rfl, (by rfl)⟩, by rw [ht]; exact hP9, va_K.moved hW.alike hK, hD9⟩, hS.F ht⟩) hS.2.2 dX10_item_220
          · have hrun := oi_f hrun cc
            refine lv_iconst (v := (1 : Int32)) hx hb dX10_item_215 (by decide) ?_
            refine lv_goto (tgt := 220) hx hb dX10_item_216 (by decide) ?_
            cases hrun
            have hP9 : va_P (dC, dI) vwCl [(h0, .inr (10, [.int v0_length, .ref h2, g0_itemMany, g0_items, g0_balls, g0_outs, g0_sightMany, g0_sights, g0_keptMany, g0_cameras, g0_callMany, g0_calls, g0_shares, g0_rights, g0_caseMany, g0_cases, .int q192.2.1, .ref h1, g0_xs, g0_ys, g0_zs, g0_us, g0_vs, g0_ws, g0_touchTick, g0_touchHalf, g0_powers, g0_worths])), (h1, .inl (k1, 3, .inl q192.2.2)), (h2, .inl (k2, 200, .inl c2))] H := hP
            have hD9 : va_D A [(h0, .inr (10, [.int v0_length, .ref h2, g0_itemMany, g0_items, g0_balls, g0_outs, g0_sightMany, g0_sights, g0_keptMany, g0_cameras, g0_callMany, g0_calls, g0_shares, g0_rights, g0_caseMany, g0_cases, .int q192.2.1, .ref h1, g0_xs, g0_ys, g0_zs, g0_us, g0_vs, g0_ws, g0_touchTick, g0_touchHalf, g0_powers, g0_worths])), (h1, .inl (k1, 3, .inl q192.2.2)), (h2, .inl (k2, 200, .inl c2))] := hD
            exact W.zret hx hb hr (by rfl) (fun t ht hW => ⟨⟨_, (), rfl, ⟨rfl, (by rfl)⟩, by rw [ht]; exact hP9, va_K.moved hW.alike hK, hD9⟩, hS.F ht⟩) hS.2.2 dX10_item_220
      · have hrun := oi_f hrun cs98
        by_cases cs99 : q5 = (99 : Int32)
        · have hrun := oi_t hrun cs99
          refine lv_tableIn (tgt := 292) hx hb dX10_item_34 (by rw [cs99]; decide) (by rw [cs99]; decide) (by rw [cs99]; rfl) (by decide) ?_
          refine lv_iconst (v := (0 : Int32)) hx hb dX10_item_292 (by decide) ?_
          cases hrun
          have hP9 : va_P (dC, dI) vwCl [(h0, .inr (10, [.int v0_length, .ref h2, g0_itemMany, g0_items, g0_balls, g0_outs, g0_sightMany, g0_sights, g0_keptMany, g0_cameras, g0_callMany, g0_calls, g0_shares, g0_rights, g0_caseMany, g0_cases, .int (v0_place + (1 : Int32)), .ref h1, g0_xs, g0_ys, g0_zs, g0_us, g0_vs, g0_ws, g0_touchTick, g0_touchHalf, g0_powers, g0_worths])), (h1, .inl (k1, 3, .inl (upd (upd c1 (1 : Int32).toNatClampNeg (0 : Int32)) (2 : Int32).toNatClampNeg (0 : Int32)))), (h2, .inl (k2, 200, .inl c2))] H := hP
          have hD9 : va_D A [(h0, .inr (10, [.int v0_length, .ref h2, g0_itemMany, g0_items, g0_balls, g0_outs, g0_sightMany, g0_sights, g0_keptMany, g0_cameras, g0_callMany, g0_calls, g0_shares, g0_rights, g0_caseMany, g0_cases, .int (v0_place + (1 : Int32)), .ref h1, g0_xs, g0_ys, g0_zs, g0_us, g0_vs, g0_ws, g0_touchTick, g0_touchHalf, g0_powers, g0_worths])), (h1, .inl (k1, 3, .inl (upd (upd c1 (1 : Int32).toNatClampNeg (0 : Int32)) (2 : Int32).toNatClampNeg (0 : Int32)))), (h2, .inl (k2, 200, .inl c2))] := hD
          exact W.zret hx hb hr (by rfl) (fun t ht hW => ⟨⟨_, (), rfl, ⟨rfl, (by rfl)⟩, by rw [ht]; exact hP9, va_K.moved hW.alike hK, hD9⟩, hS.F ht⟩) hS.2.2 dX10_item_293
        · have hrun := oi_f hrun cs99
          by_cases cs100 : q5 = (100 : Int32)
          · have hrun := oi_t hrun cs100
            refine lv_tableIn (tgt := 292) hx hb dX10_item_34 (by rw [cs100]; decide) (by rw [cs100]; decide) (by rw [cs100]; rfl) (by decide) ?_
            refine lv_iconst (v := (0 : Int32)) hx hb dX10_item_292 (by decide) ?_
            cases hrun
            have hP9 : va_P (dC, dI) vwCl [(h0, .inr (10, [.int v0_length, .ref h2, g0_itemMany, g0_items, g0_balls, g0_outs, g0_sightMany, g0_sights, g0_keptMany, g0_cameras, g0_callMany, g0_calls, g0_shares, g0_rights, g0_caseMany, g0_cases, .int (v0_place + (1 : Int32)), .ref h1, g0_xs, g0_ys, g0_zs, g0_us, g0_vs, g0_ws, g0_touchTick, g0_touchHalf, g0_powers, g0_worths])), (h1, .inl (k1, 3, .inl (upd (upd c1 (1 : Int32).toNatClampNeg (0 : Int32)) (2 : Int32).toNatClampNeg (0 : Int32)))), (h2, .inl (k2, 200, .inl c2))] H := hP
            have hD9 : va_D A [(h0, .inr (10, [.int v0_length, .ref h2, g0_itemMany, g0_items, g0_balls, g0_outs, g0_sightMany, g0_sights, g0_keptMany, g0_cameras, g0_callMany, g0_calls, g0_shares, g0_rights, g0_caseMany, g0_cases, .int (v0_place + (1 : Int32)), .ref h1, g0_xs, g0_ys, g0_zs, g0_us, g0_vs, g0_ws, g0_touchTick, g0_touchHalf, g0_powers, g0_worths])), (h1, .inl (k1, 3, .inl (upd (upd c1 (1 : Int32).toNatClampNeg (0 : Int32)) (2 : Int32).toNatClampNeg (0 : Int32)))), (h2, .inl (k2, 200, .inl c2))] := hD
            exact W.zret hx hb hr (by rfl) (fun t ht hW => ⟨⟨_, (), rfl, ⟨rfl, (by rfl)⟩, by rw [ht]; exact hP9, va_K.moved hW.alike hK, hD9⟩, hS.F ht⟩) hS.2.2 dX10_item_293
          · have hrun := oi_f hrun cs100
            by_cases cs101 : q5 = (101 : Int32)
            · have hrun := oi_t hrun cs101
              refine lv_tableIn (tgt := 292) hx hb dX10_item_34 (by rw [cs101]; decide) (by rw [cs101]; decide) (by rw [cs101]; rfl) (by decide) ?_
              refine lv_iconst (v := (0 : Int32)) hx hb dX10_item_292 (by decide) ?_
              cases hrun
              have hP9 : va_P (dC, dI) vwCl [(h0, .inr (10, [.int v0_length, .ref h2, g0_itemMany, g0_items, g0_balls, g0_outs, g0_sightMany, g0_sights, g0_keptMany, g0_cameras, g0_callMany, g0_calls, g0_shares, g0_rights, g0_caseMany, g0_cases, .int (v0_place + (1 : Int32)), .ref h1, g0_xs, g0_ys, g0_zs, g0_us, g0_vs, g0_ws, g0_touchTick, g0_touchHalf, g0_powers, g0_worths])), (h1, .inl (k1, 3, .inl (upd (upd c1 (1 : Int32).toNatClampNeg (0 : Int32)) (2 : Int32).toNatClampNeg (0 : Int32)))), (h2, .inl (k2, 200, .inl c2))] H := hP
              have hD9 : va_D A [(h0, .inr (10, [.int v0_length, .ref h2, g0_itemMany, g0_items, g0_balls, g0_outs, g0_sightMany, g0_sights, g0_keptMany, g0_cameras, g0_callMany, g0_calls, g0_shares, g0_rights, g0_caseMany, g0_cases, .int (v0_place + (1 : Int32)), .ref h1, g0_xs, g0_ys, g0_zs, g0_us, g0_vs, g0_ws, g0_touchTick, g0_touchHalf, g0_powers, g0_worths])), (h1, .inl (k1, 3, .inl (upd (upd c1 (1 : Int32).toNatClampNeg (0 : Int32)) (2 : Int32).toNatClampNeg (0 : Int32)))), (h2, .inl (k2, 200, .inl c2))] := hD
              exact W.zret hx hb hr (by rfl) (fun t ht hW => ⟨⟨_, (), rfl, ⟨rfl, (by rfl)⟩, by rw [ht]; exact hP9, va_K.moved hW.alike hK, hD9⟩, hS.F ht⟩) hS.2.2 dX10_item_293
            · have hrun := oi_f hrun cs101
              by_cases cs102 : q5 = (102 : Int32)
              · have hrun := oi_t hrun cs102
                refine lv_tableIn (tgt := 292) hx hb dX10_item_34 (by rw [cs102]; decide) (by rw [cs102]; decide) (by rw [cs102]; rfl) (by decide) ?_
                refine lv_iconst (v := (0 : Int32)) hx hb dX10_item_292 (by decide) ?_
                cases hrun
                have hP9 : va_P (dC, dI) vwCl [(h0, .inr (10, [.int v0_length, .ref h2, g0_itemMany, g0_items, g0_balls, g0_outs, g0_sightMany, g0_sights, g0_keptMany, g0_cameras, g0_callMany, g0_calls, g0_shares, g0_rights, g0_caseMany, g0_cases, .int (v0_place + (1 : Int32)), .ref h1, g0_xs, g0_ys, g0_zs, g0_us, g0_vs, g0_ws, g0_touchTick, g0_touchHalf, g0_powers, g0_worths])), (h1, .inl (k1, 3, .inl (upd (upd c1 (1 : Int32).toNatClampNeg (0 : Int32)) (2 : Int32).toNatClampNeg (0 : Int32)))), (h2, .inl (k2, 200, .inl c2))] H := hP
                have hD9 : va_D A [(h0, .inr (10, [.int v0_length, .ref h2, g0_itemMany, g0_items, g0_balls, g0_outs, g0_sightMany, g0_sights, g0_keptMany, g0_cameras, g0_callMany, g0_calls, g0_shares, g0_rights, g0_caseMany, g0_cases, .int (v0_place + (1 : Int32)), .ref h1, g0_xs, g0_ys, g0_zs, g0_us, g0_vs, g0_ws, g0_touchTick, g0_touchHalf, g0_powers, g0_worths])), (h1, .inl (k1, 3, .inl (upd (upd c1 (1 : Int32).toNatClampNeg (0 : Int32)) (2 : Int32).toNatClampNeg (0 : Int32)))), (h2, .inl (k2, 200, .inl c2))] := hD
                exact W.zret hx hb hr (by rfl) (fun t ht hW => ⟨⟨_, (), rfl, ⟨rfl, (by rfl)⟩, by rw [ht]; exact hP9, va_K.moved hW.alike hK, hD9⟩, hS.F ht⟩) hS.2.2 dX10_item_293
              · have hrun := oi_f hrun cs102
                by_cases cs103 : q5 = (103 : Int32)
                · have hrun := oi_t hrun cs103
                  refine lv_tableIn (tgt := 159) hx hb dX10_item_34 (by rw [cs103]; decide) (by rw [cs103]; decide) (by rw [cs103]; rfl) (by decide) ?_
                  refine lv_aload_n hx hb dX10_item_159 rfl (lv_at hl 1 rfl) ?_
                  refine lv_iconst (v := (1 : Int32)) hx hb dX10_item_160 (by decide) ?_
                  obtain ⟨q161, hc161, hrun⟩ := ob_e hrun
                  refine wz_cqz (WC := [(h0, .inr (10, [.int v0_length, .ref h2, g0_itemMany, g0_items, g0_balls, g0_outs, g0_sightMany, g0_sights, g0_keptMany, g0_cameras, g0_callMany, g0_calls, g0_shares, g0_rights, g0_caseMany, g0_cases, .int (v0_place + (1 : Int32)), .ref h1, g0_xs, g0_ys, g0_zs, g0_us, g0_vs, g0_ws, g0_touchTick, g0_touchHalf, g0_powers, g0_worths])), (h1, .inl (k1, 3, .inl (upd (upd c1 (1 : Int32).toNatClampNeg (0 : Int32)) (2 : Int32).toNatClampNeg (0 : Int32)))), (h2, .inl (k2, 200, .inl c2))]) (WR := []) (W1 := [(h0, .inr (10, [.int v0_length, .ref h2, g0_itemMany, g0_items, g0_balls, g0_outs, g0_sightMany, g0_sights, g0_keptMany, g0_cameras, g0_callMany, g0_calls, g0_shares, g0_rights, g0_caseMany, g0_cases, .int q161.2.1, .ref h1, g0_xs, g0_ys, g0_zs, g0_us, g0_vs, g0_ws, g0_touchTick, g0_touchHalf, g0_powers, g0_worths])), (h1, .inl (k1, 3, .inl q161.2.2)), (h2, .inl (k2, 200, .inl c2))]) (va_runV (As := [.int (1 : Int32)]) (rest := []) ⟨hx, hb, hml, hown, hts⟩ (tX10_figures l dC dI H.size h0 h1 h2 k1 k2 (g0_itemMany) (g0_items) (g0_balls) (g0_outs) (g0_sightMany) (g0_sights) (g0_keptMany) (g0_cameras) (g0_callMany) (g0_calls) (g0_shares) (g0_rights) (g0_caseMany) (g0_cases) (g0_xs) (g0_ys) (g0_zs) (g0_us) (g0_vs) (g0_ws) (g0_touchTick) (g0_touchHalf) (g0_powers) (g0_worths) N ((1 : Int32)) v0_length ((v0_place + (1 : Int32))) ((upd (upd c1 (1 : Int32).toNatClampNeg (0 : Int32)) (2 : Int32).toNatClampNeg (0 : Int32))) c2 q161 hc161) (cwV 1 hts gX10_item_X10_figures rfl rfl rfl (by decide +kernel) ⟨Nat.le_of_ble_eq_true rfl, Nat.le_of_ble_eq_true rfl⟩) (wz_pVw (hP.sub (ws' := [(h0, .inr (10, [.int v0_length, .ref h2, g0_itemMany, g0_items, g0_balls, g0_outs, g0_sightMany, g0_sights, g0_keptMany, g0_cameras, g0_callMany, g0_calls, g0_shares, g0_rights, g0_caseMany, g0_cases, .int (v0_place + (1 : Int32)), .ref h1, g0_xs, g0_ys, g0_zs, g0_us, g0_vs, g0_ws, g0_touchTick, g0_touchHalf, g0_powers, g0_worths])), (h1, .inl (k1, 3, .inl (upd (upd c1 (1 : Int32).toNatClampNeg (0 : Int32)) (2 : Int32).toNatClampNeg (0 : Int32)))), (h2, .inl (k2, 200, .inl c2))]) [0, 1, 2] rfl) (hK.sub (tys' := [(k1, .int), (k2, .int)]) [0, 1] rfl) (hD.sub (ws' := [(h0, .inr (10, [.int v0_length, .ref h2, g0_itemMany, g0_items, g0_balls, g0_outs, g0_sightMany, g0_sights, g0_keptMany, g0_cameras, g0_callMany, g0_calls, g0_shares, g0_rights, g0_caseMany, g0_cases, .int (v0_place + (1 : Int32)), .ref h1, g0_xs, g0_ys, g0_zs, g0_us, g0_vs, g0_ws, g0_touchTick, g0_touchHalf, g0_powers, g0_worths])), (h1, .inl (k1, 3, .inl (upd (upd c1 (1 : Int32).toNatClampNeg (0 : Int32)) (2 : Int32).toNatClampNeg (0 : Int32)))), (h2, .inl (k2, 200, .inl c2))]) [0, 1, 2] (by decide) rfl) (va_recv hK hP (ci := 10) (q0 := 0) rfl rfl)) rfl rfl hl.1 rfl (lv_room (Nat.le_of_ble_eq_true rfl)) dX10_item_161 ⟨Nat.zero_le _, Nat.zero_le _⟩) hP hD hS hA [0, 1, 2] [] rfl rfl (by decide) (by decide) (fun H locs hP hD hS hz161 => ?_)
                  have hP : va_P (dC, dI) vwCl [(h0, .inr (10, [.int v0_length, .ref h2, g0_itemMany, g0_items, g0_balls, g0_outs, g0_sightMany, g0_sights, g0_keptMany, g0_cameras, g0_callMany, g0_calls, g0_shares, g0_rights, g0_caseMany, g0_cases, .int q161.2.1, .ref h1, g0_xs, g0_ys, g0_zs, g0_us, g0_vs, g0_ws, g0_touchTick, g0_touchHalf, g0_powers, g0_worths])), (h1, .inl (k1, 3, .inl q161.2.2)), (h2, .inl (k2, 200, .inl c2))] H := hP
                  have hD : va_D A [(h0, .inr (10, [.int v0_length, .ref h2, g0_itemMany, g0_items, g0_balls, g0_outs, g0_sightMany, g0_sights, g0_keptMany, g0_cameras, g0_callMany, g0_calls, g0_shares, g0_rights, g0_caseMany, g0_cases, .int q161.2.1, .ref h1, g0_xs, g0_ys, g0_zs, g0_us, g0_vs, g0_ws, g0_touchTick, g0_touchHalf, g0_powers, g0_worths])), (h1, .inl (k1, 3, .inl q161.2.2)), (h2, .inl (k2, 200, .inl c2))] := hD
                  refine lv_if_eq (tgt := 188) hx hb dX10_item_164 (by decide) (fun cc => ?_) (fun cc => ?_)
                  · have hrun := oi_t hrun cc
                    refine lv_iconst (v := (0 : Int32)) hx hb dX10_item_188 (by decide) ?_
                    cases hrun
                    have hP9 : va_P (dC, dI) vwCl [(h0, .inr (10, [.int v0_length, .ref h2, g0_itemMany, g0_items, g0_balls, g0_outs, g0_sightMany, g0_sights, g0_keptMany, g0_cameras, g0_callMany, g0_calls, g0_shares, g0_rights, g0_caseMany, g0_cases, .int q161.2.1, .ref h1, g0_xs, g0_ys, g0_zs, g0_us, g0_vs, g0_ws, g0_touchTick, g0_touchHalf, g0_powers, g0_worths])), (h1, .inl (k1, 3, .inl q161.2.2)), (h2, .inl (k2, 200, .inl c2))] H := hP
                    have hD9 : va_D A [(h0, .inr (10, [.int v0_length, .ref h2, g0_itemMany, g0_items, g0_balls, g0_outs, g0_sightMany, g0_sights, g0_keptMany, g0_cameras, g0_callMany, g0_calls, g0_shares, g0_rights, g0_caseMany, g0_cases, .int q161.2.1, .ref h1, g0_xs, g0_ys, g0_zs, g0_us, g0_vs, g0_ws, g0_touchTick, g0_touchHalf, g0_powers, g0_worths])), (h1, .inl (k1, 3, .inl q161.2.2)), (h2, .inl (k2, 200, .inl c2))] := hD
                    exact W.zret hx hb hr (by rfl) (fun t ht hW => ⟨⟨_, (), rfl, ⟨rfl, (by rfl)⟩, by rw [ht]; exact hP9, va_K.moved hW.alike hK, hD9⟩, hS.F ht⟩) hS.2.2 dX10_item_189
                  · have hrun := oi_f hrun cc
                    refine lv_aload_n hx hb dX10_item_167 rfl (lv_at hl 1 rfl) ?_
                    refine va_get (D := (dC, dI)) (ci := 10) (v := .ref h1) (C := RX10) (T := TX10) (N := 28) hx hb hts hinX10 hown hK hP 0 rfl rfl 17 (by decide) (hts (.fieldLink RX10 46 "WasItOutModel" "numbers" "[I") (by decide +kernel)) (fun _ h9 => h9) rfl dX10_item_168 ?_
                    refine lv_iconst (v := (0 : Int32)) hx hb dX10_item_171 (by decide) ?_
                    have hi : vp_in (0 : Int32) 3 := ixk (by decide)
                    refine va_iald hx hb hK hP 1 0 rfl rfl hi dX10_item_172 ?_
                    refine lv_i2l (v := (q161.2.2 (0 : Int32).toNatClampNeg).toInt64) hx hb dX10_item_173 rfl ?_
                    refine lv_lconst (v := (0 : Int64)) hx hb dX10_item_174 (by decide) ?_
                    refine lv_ldc2 (v := (100 : Int64)) hx hb hown (hts (.constantLong RX10 105 (100 : Int64)) (by decide +kernel)) dX10_item_175 ?_
                    obtain ⟨q178, hc178, hrun⟩ := ob_e hrun
                    refine wz_csz (va_runS (As := [.long (q161.2.2 (0 : Int32).toNatClampNeg).toInt64, .long (0 : Int64), .long (100 : Int64)]) (rest := []) ⟨hx, hb, hml, hown, hts⟩ (tX10_in l dC dI N ((q161.2.2 (0 : Int32).toNatClampNeg).toInt64) ((0 : Int64)) ((100 : Int64)) q178 hc178) (va_cwS 3 hts gX10_item_X10_in rfl rfl rfl (by decide +kernel) ⟨Nat.le_of_ble_eq_true rfl, Nat.le_of_ble_eq_true rfl⟩) (wz_pSr (hP.sub (ws' := []) [] rfl) (hK.sub (tys' := []) [] rfl)) rfl rfl hl.1 rfl (lv_room (Nat.le_of_ble_eq_true rfl)) dX10_item_178 ⟨Nat.zero_le _, Nat.zero_le _⟩) (fun hz178 => ?_)
                    refine lv_if_eq (tgt := 188) hx hb dX10_item_181 (by decide) (fun cc => ?_) (fun cc => ?_)
                    · have hrun := oi_t hrun cc
                      refine lv_iconst (v := (0 : Int32)) hx hb dX10_item_188 (by decide) ?_
                      cases hrun
                      have hP9 : va_P (dC, dI) vwCl [(h0, .inr (10, [.int v0_length, .ref h2, g0_itemMany, g0_items, g0_balls, g0_outs, g0_sightMany, g0_sights, g0_keptMany, g0_cameras, g0_callMany, g0_calls, g0_shares, g0_rights, g0_caseMany, g0_cases, .int q161.2.1, .ref h1, g0_xs, g0_ys, g0_zs, g0_us, g0_vs, g0_ws, g0_touchTick, g0_touchHalf, g0_powers, g0_worths])), (h1, .inl (k1, 3, .inl q161.2.2)), (h2, .inl (k2, 200, .inl c2))] H := hP
                      have hD9 : va_D A [(h0, .inr (10, [.int v0_length, .ref h2, g0_itemMany, g0_items, g0_balls, g0_outs, g0_sightMany, g0_sights, g0_keptMany, g0_cameras, g0_callMany, g0_calls, g0_shares, g0_rights, g0_caseMany, g0_cases, .int q161.2.1, .ref h1, g0_xs, g0_ys, g0_zs, g0_us, g0_vs, g0_ws, g0_touchTick, g0_touchHalf, g0_powers, g0_worths])), (h1, .inl (k1, 3, .inl q161.2.2)), (h2, .inl (k2, 200, .inl c2))] := hD
                      exact W.zret hx hb hr (by rfl) (fun t ht hW => ⟨⟨_, (), rfl, ⟨rfl, (by rfl)⟩, by rw [ht]; exact hP9, va_K.moved hW.alike hK, hD9⟩, hS.F ht⟩) hS.2.2 dX10_item_189
                    · have hrun := oi_f hrun cc
                      refine lv_iconst (v := (1 : Int32)) hx hb dX10_item_184 (by decide) ?_
                      refine lv_goto (tgt := 189) hx hb dX10_item_185 (by decide) ?_
                      cases hrun
                      have hP9 : va_P (dC, dI) vwCl [(h0, .inr (10, [.int v0_length, .ref h2, g0_itemMany, g0_items, g0_balls, g0_outs, g0_sightMany, g0_sights, g0_keptMany, g0_cameras, g0_callMany, g0_calls, g0_shares, g0_rights, g0_caseMany, g0_cases, .int q161.2.1, .ref h1, g0_xs, g0_ys, g0_zs, g0_us, g0_vs, g0_ws, g0_touchTick, g0_touchHalf, g0_powers, g0_worths])), (h1, .inl (k1, 3, .inl q161.2.2)), (h2, .inl (k2, 200, .inl c2))] H := hP
                      have hD9 : va_D A [(h0, .inr (10, [.int v0_length, .ref h2, g0_itemMany, g0_items, g0_balls, g0_outs, g0_sightMany, g0_sights, g0_keptMany, g0_cameras, g0_callMany, g0_calls, g0_shares, g0_rights, g0_caseMany, g0_cases, .int q161.2.1, .ref h1, g0_xs, g0_ys, g0_zs, g0_us, g0_vs, g0_ws, g0_touchTick, g0_touchHalf, g0_powers, g0_worths])), (h1, .inl (k1, 3, .inl q161.2.2)), (h2, .inl (k2, 200, .inl c2))] := hD
                      exact W.zret hx hb hr (by rfl) (fun t ht hW => ⟨⟨_, (), rfl, ⟨rfl, (by rfl)⟩, by rw [ht]; exact hP9, va_K.moved hW.alike hK, hD9⟩, hS.F ht⟩) hS.2.2 dX10_item_189
                · have hrun := oi_f hrun cs103
                  by_cases cs104 : q5 = (104 : Int32)
                  · have hrun := oi_t hrun cs104
                    refine lv_tableIn (tgt := 292) hx hb dX10_item_34 (by rw [cs104]; decide) (by rw [cs104]; decide) (by rw [cs104]; rfl) (by decide) ?_
                    refine lv_iconst (v := (0 : Int32)) hx hb dX10_item_292 (by decide) ?_
                    cases hrun
                    have hP9 : va_P (dC, dI) vwCl [(h0, .inr (10, [.int v0_length, .ref h2, g0_itemMany, g0_items, g0_balls, g0_outs, g0_sightMany, g0_sights, g0_keptMany, g0_cameras, g0_callMany, g0_calls, g0_shares, g0_rights, g0_caseMany, g0_cases, .int (v0_place + (1 : Int32)), .ref h1, g0_xs, g0_ys, g0_zs, g0_us, g0_vs, g0_ws, g0_touchTick, g0_touchHalf, g0_powers, g0_worths])), (h1, .inl (k1, 3, .inl (upd (upd c1 (1 : Int32).toNatClampNeg (0 : Int32)) (2 : Int32).toNatClampNeg (0 : Int32)))), (h2, .inl (k2, 200, .inl c2))] H := hP
                    have hD9 : va_D A [(h0, .inr (10, [.int v0_length, .ref h2, g0_itemMany, g0_items, g0_balls, g0_outs, g0_sightMany, g0_sights, g0_keptMany, g0_cameras, g0_callMany, g0_calls, g0_shares, g0_rights, g0_caseMany, g0_cases, .int (v0_place + (1 : Int32)), .ref h1, g0_xs, g0_ys, g0_zs, g0_us, g0_vs, g0_ws, g0_touchTick, g0_touchHalf, g0_powers, g0_worths])), (h1, .inl (k1, 3, .inl (upd (upd c1 (1 : Int32).toNatClampNeg (0 : Int32)) (2 : Int32).toNatClampNeg (0 : Int32)))), (h2, .inl (k2, 200, .inl c2))] := hD
                    exact W.zret hx hb hr (by rfl) (fun t ht hW => ⟨⟨_, (), rfl, ⟨rfl, (by rfl)⟩, by rw [ht]; exact hP9, va_K.moved hW.alike hK, hD9⟩, hS.F ht⟩) hS.2.2 dX10_item_293
                  · have hrun := oi_f hrun cs104
                    by_cases cs105 : q5 = (105 : Int32)
                    · have hrun := oi_t hrun cs105
                      refine lv_tableIn (tgt := 292) hx hb dX10_item_34 (by rw [cs105]; decide) (by rw [cs105]; decide) (by rw [cs105]; rfl) (by decide) ?_
                      refine lv_iconst (v := (0 : Int32)) hx hb dX10_item_292 (by decide) ?_
                      cases hrun
                      have hP9 : va_P (dC, dI) vwCl [(h0, .inr (10, [.int v0_length, .ref h2, g0_itemMany, g0_items, g0_balls, g0_outs, g0_sightMany, g0_sights, g0_keptMany, g0_cameras, g0_callMany, g0_calls, g0_shares, g0_rights, g0_caseMany, g0_cases, .int (v0_place + (1 : Int32)), .ref h1, g0_xs, g0_ys, g0_zs, g0_us, g0_vs, g0_ws, g0_touchTick, g0_touchHalf, g0_powers, g0_worths])), (h1, .inl (k1, 3, .inl (upd (upd c1 (1 : Int32).toNatClampNeg (0 : Int32)) (2 : Int32).toNatClampNeg (0 : Int32)))), (h2, .inl (k2, 200, .inl c2))] H := hP
                      have hD9 : va_D A [(h0, .inr (10, [.int v0_length, .ref h2, g0_itemMany, g0_items, g0_balls, g0_outs, g0_sightMany, g0_sights, g0_keptMany, g0_cameras, g0_callMany, g0_calls, g0_shares, g0_rights, g0_caseMany, g0_cases, .int (v0_place + (1 : Int32)), .ref h1, g0_xs, g0_ys, g0_zs, g0_us, g0_vs, g0_ws, g0_touchTick, g0_touchHalf, g0_powers, g0_worths])), (h1, .inl (k1, 3, .inl (upd (upd c1 (1 : Int32).toNatClampNeg (0 : Int32)) (2 : Int32).toNatClampNeg (0 : Int32)))), (h2, .inl (k2, 200, .inl c2))] := hD
                      exact W.zret hx hb hr (by rfl) (fun t ht hW => ⟨⟨_, (), rfl, ⟨rfl, (by rfl)⟩, by rw [ht]; exact hP9, va_K.moved hW.alike hK, hD9⟩, hS.F ht⟩) hS.2.2 dX10_item_293
                    · have hrun := oi_f hrun cs105
                      by_cases cs106 : q5 = (106 : Int32)
                      · have hrun := oi_t hrun cs106
                        refine lv_tableIn (tgt := 292) hx hb dX10_item_34 (by rw [cs106]; decide) (by rw [cs106]; decide) (by rw [cs106]; rfl) (by decide) ?_
                        refine lv_iconst (v := (0 : Int32)) hx hb dX10_item_292 (by decide) ?_
                        cases hrun
                        have hP9 : va_P (dC, dI) vwCl [(h0, .inr (10, [.int v0_length, .ref h2, g0_itemMany, g0_items, g0_balls, g0_outs, g0_sightMany, g0_sights, g0_keptMany, g0_cameras, g0_callMany, g0_calls, g0_shares, g0_rights, g0_caseMany, g0_cases, .int (v0_place + (1 : Int32)), .ref h1, g0_xs, g0_ys, g0_zs, g0_us, g0_vs, g0_ws, g0_touchTick, g0_touchHalf, g0_powers, g0_worths])), (h1, .inl (k1, 3, .inl (upd (upd c1 (1 : Int32).toNatClampNeg (0 : Int32)) (2 : Int32).toNatClampNeg (0 : Int32)))), (h2, .inl (k2, 200, .inl c2))] H := hP
                        have hD9 : va_D A [(h0, .inr (10, [.int v0_length, .ref h2, g0_itemMany, g0_items, g0_balls, g0_outs, g0_sightMany, g0_sights, g0_keptMany, g0_cameras, g0_callMany, g0_calls, g0_shares, g0_rights, g0_caseMany, g0_cases, .int (v0_place + (1 : Int32)), .ref h1, g0_xs, g0_ys, g0_zs, g0_us, g0_vs, g0_ws, g0_touchTick, g0_touchHalf, g0_powers, g0_worths])), (h1, .inl (k1, 3, .inl (upd (upd c1 (1 : Int32).toNatClampNeg (0 : Int32)) (2 : Int32).toNatClampNeg (0 : Int32)))), (h2, .inl (k2, 200, .inl c2))] := hD
                        exact W.zret hx hb hr (by rfl) (fun t ht hW => ⟨⟨_, (), rfl, ⟨rfl, (by rfl)⟩, by rw [ht]; exact hP9, va_K.moved hW.alike hK, hD9⟩, hS.F ht⟩) hS.2.2 dX10_item_293
                      · have hrun := oi_f hrun cs106
                        by_cases cs107 : q5 = (107 : Int32)
                        · have hrun := oi_t hrun cs107
                          refine lv_tableIn (tgt := 260) hx hb dX10_item_34 (by rw [cs107]; decide) (by rw [cs107]; decide) (by rw [cs107]; rfl) (by decide) ?_
                          refine lv_aload_n hx hb dX10_item_260 rfl (lv_at hl 1 rfl) ?_
                          refine lv_iconst (v := (3 : Int32)) hx hb dX10_item_261 (by decide) ?_
                          obtain ⟨q262, hc262, hrun⟩ := ob_e hrun
                          refine wz_cqz (WC := [(h0, .inr (10, [.int v0_length, .ref h2, g0_itemMany, g0_items, g0_balls, g0_outs, g0_sightMany, g0_sights, g0_keptMany, g0_cameras, g0_callMany, g0_calls, g0_shares, g0_rights, g0_caseMany, g0_cases, .int (v0_place + (1 : Int32)), .ref h1, g0_xs, g0_ys, g0_zs, g0_us, g0_vs, g0_ws, g0_touchTick, g0_touchHalf, g0_powers, g0_worths])), (h1, .inl (k1, 3, .inl (upd (upd c1 (1 : Int32).toNatClampNeg (0 : Int32)) (2 : Int32).toNatClampNeg (0 : Int32)))), (h2, .inl (k2, 200, .inl c2))]) (WR := []) (W1 := [(h0, .inr (10, [.int v0_length, .ref h2, g0_itemMany, g0_items, g0_balls, g0_outs, g0_sightMany, g0_sights, g0_keptMany, g0_cameras, g0_callMany, g0_calls, g0_shares, g0_rights, g0_caseMany, g0_cases, .int q262.2.1, .ref h1, g0_xs, g0_ys, g0_zs, g0_us, g0_vs, g0_ws, g0_touchTick, g0_touchHalf, g0_powers, g0_worths])), (h1, .inl (k1, 3, .inl q262.2.2)), (h2, .inl (k2, 200, .inl c2))]) (va_runV (As := [.int (3 : Int32)]) (rest := []) ⟨hx, hb, hml, hown, hts⟩ (tX10_figures l dC dI H.size h0 h1 h2 k1 k2 (g0_itemMany) (g0_items) (g0_balls) (g0_outs) (g0_sightMany) (g0_sights) (g0_keptMany) (g0_cameras) (g0_callMany) (g0_calls) (g0_shares) (g0_rights) (g0_caseMany) (g0_cases) (g0_xs) (g0_ys) (g0_zs) (g0_us) (g0_vs) (g0_ws) (g0_touchTick) (g0_touchHalf) (g0_powers) (g0_worths) N ((3 : Int32)) v0_length ((v0_place + (1 : Int32))) ((upd (upd c1 (1 : Int32).toNatClampNeg (0 : Int32)) (2 : Int32).toNatClampNeg (0 : Int32))) c2 q262 hc262) (cwV 1 hts gX10_item_X10_figures rfl rfl rfl (by decide +kernel) ⟨Nat.le_of_ble_eq_true rfl, Nat.le_of_ble_eq_true rfl⟩) (wz_pVw (hP.sub (ws' := [(h0, .inr (10, [.int v0_length, .ref h2, g0_itemMany, g0_items, g0_balls, g0_outs, g0_sightMany, g0_sights, g0_keptMany, g0_cameras, g0_callMany, g0_calls, g0_shares, g0_rights, g0_caseMany, g0_cases, .int (v0_place + (1 : Int32)), .ref h1, g0_xs, g0_ys, g0_zs, g0_us, g0_vs, g0_ws, g0_touchTick, g0_touchHalf, g0_powers, g0_worths])), (h1, .inl (k1, 3, .inl (upd (upd c1 (1 : Int32).toNatClampNeg (0 : Int32)) (2 : Int32).toNatClampNeg (0 : Int32)))), (h2, .inl (k2, 200, .inl c2))]) [0, 1, 2] rfl) (hK.sub (tys' := [(k1, .int), (k2, .int)]) [0, 1] rfl) (hD.sub (ws' := [(h0, .inr (10, [.int v0_length, .ref h2, g0_itemMany, g0_items, g0_balls, g0_outs, g0_sightMany, g0_sights, g0_keptMany, g0_cameras, g0_callMany, g0_calls, g0_shares, g0_rights, g0_caseMany, g0_cases, .int (v0_place + (1 : Int32)), .ref h1, g0_xs, g0_ys, g0_zs, g0_us, g0_vs, g0_ws, g0_touchTick, g0_touchHalf, g0_powers, g0_worths])), (h1, .inl (k1, 3, .inl (upd (upd c1 (1 : Int32).toNatClampNeg (0 : Int32)) (2 : Int32).toNatClampNeg (0 : Int32)))), (h2, .inl (k2, 200, .inl c2))]) [0, 1, 2] (by decide) rfl) (va_recv hK hP (ci := 10) (q0 := 0) rfl rfl)) rfl rfl hl.1 rfl (lv_room (Nat.le_of_ble_eq_true rfl)) dX10_item_262 ⟨Nat.zero_le _, Nat.zero_le _⟩) hP hD hS hA [0, 1, 2] [] rfl rfl (by decide) (by decide) (fun H locs hP hD hS hz262 => ?_)
                          have hP : va_P (dC, dI) vwCl [(h0, .inr (10, [.int v0_length, .ref h2, g0_itemMany, g0_items, g0_balls, g0_outs, g0_sightMany, g0_sights, g0_keptMany, g0_cameras, g0_callMany, g0_calls, g0_shares, g0_rights, g0_caseMany, g0_cases, .int q262.2.1, .ref h1, g0_xs, g0_ys, g0_zs, g0_us, g0_vs, g0_ws, g0_touchTick, g0_touchHalf, g0_powers, g0_worths])), (h1, .inl (k1, 3, .inl q262.2.2)), (h2, .inl (k2, 200, .inl c2))] H := hP
                          have hD : va_D A [(h0, .inr (10, [.int v0_length, .ref h2, g0_itemMany, g0_items, g0_balls, g0_outs, g0_sightMany, g0_sights, g0_keptMany, g0_cameras, g0_callMany, g0_calls, g0_shares, g0_rights, g0_caseMany, g0_cases, .int q262.2.1, .ref h1, g0_xs, g0_ys, g0_zs, g0_us, g0_vs, g0_ws, g0_touchTick, g0_touchHalf, g0_powers, g0_worths])), (h1, .inl (k1, 3, .inl q262.2.2)), (h2, .inl (k2, 200, .inl c2))] := hD
                          refine lv_if_eq (tgt := 290) hx hb dX10_item_265 (by decide) (fun cc => ?_) (fun cc => ?_)
                          · have hrun := oi_t hrun cc
                            refine lv_iconst (v := (0 : Int32)) hx hb dX10_item_290 (by decide) ?_
                            cases hrun
                            have hP9 : va_P (dC, dI) vwCl [(h0, .inr (10, [.int v0_length, .ref h2, g0_itemMany, g0_items, g0_balls, g0_outs, g0_sightMany, g0_sights, g0_keptMany, g0_cameras, g0_callMany, g0_calls, g0_shares, g0_rights, g0_caseMany, g0_cases, .int q262.2.1, .ref h1, g0_xs, g0_ys, g0_zs, g0_us, g0_vs, g0_ws, g0_touchTick, g0_touchHalf, g0_powers, g0_worths])), (h1, .inl (k1, 3, .inl q262.2.2)), (h2, .inl (k2, 200, .inl c2))] H := hP
                            have hD9 : va_D A [(h0, .inr (10, [.int v0_length, .ref h2, g0_itemMany, g0_items, g0_balls, g0_outs, g0_sightMany, g0_sights, g0_keptMany, g0_cameras, g0_callMany, g0_calls, g0_shares, g0_rights, g0_caseMany, g0_cases, .int q262.2.1, .ref h1, g0_xs, g0_ys, g0_zs, g0_us, g0_vs, g0_ws, g0_touchTick, g0_touchHalf, g0_powers, g0_worths])), (h1, .inl (k1, 3, .inl q262.2.2)), (h2, .inl (k2, 200, .inl c2))] := hD
                            exact W.zret hx hb hr (by rfl) (fun t ht hW => ⟨⟨_, (), rfl, ⟨rfl, (by rfl)⟩, by rw [ht]; exact hP9, va_K.moved hW.alike hK, hD9⟩, hS.F ht⟩) hS.2.2 dX10_item_291
                          · have hrun := oi_f hrun cc
                            refine lv_aload_n hx hb dX10_item_268 rfl (lv_at hl 1 rfl) ?_
                            refine va_get (D := (dC, dI)) (ci := 10) (v := .ref h1) (C := RX10) (T := TX10) (N := 28) hx hb hts hinX10 hown hK hP 0 rfl rfl 17 (by decide) (hts (.fieldLink RX10 46 "WasItOutModel" "numbers" "[I") (by decide +kernel)) (fun _ h9 => h9) rfl dX10_item_269 ?_
                            refine lv_iconst (v := (1 : Int32)) hx hb dX10_item_272 (by decide) ?_
                            have hi : vp_in (1 : Int32) 3 := ixk (by decide)
                            refine va_iald hx hb hK hP 1 0 rfl rfl hi dX10_item_273 ?_
                            refine lv_if_lt (tgt := 290) hx hb dX10_item_274 (by decide) (fun cc => ?_) (fun cc => ?_)
                            · have hrun := oi_t hrun cc
                              refine lv_iconst (v := (0 : Int32)) hx hb dX10_item_290 (by decide) ?_
                              cases hrun
                              have hP9 : va_P (dC, dI) vwCl [(h0, .inr (10, [.int v0_length, .ref h2, g0_itemMany, g0_items, g0_balls, g0_outs, g0_sightMany, g0_sights, g0_keptMany, g0_cameras, g0_callMany, g0_calls, g0_shares, g0_rights, g0_caseMany, g0_cases, .int q262.2.1, .ref h1, g0_xs, g0_ys, g0_zs, g0_us, g0_vs, g0_ws, g0_touchTick, g0_touchHalf, g0_powers, g0_worths])), (h1, .inl (k1, 3, .inl q262.2.2)), (h2, .inl (k2, 200, .inl c2))] H := hP
                              have hD9 : va_D A [(h0, .inr (10, [.int v0_length, .ref h2, g0_itemMany, g0_items, g0_balls, g0_outs, g0_sightMany, g0_sights, g0_keptMany, g0_cameras, g0_callMany, g0_calls, g0_shares, g0_rights, g0_caseMany, g0_cases, .int q262.2.1, .ref h1, g0_xs, g0_ys, g0_zs, g0_us, g0_vs, g0_ws, g0_touchTick, g0_touchHalf, g0_powers, g0_worths])), (h1, .inl (k1, 3, .inl q262.2.2)), (h2, .inl (k2, 200, .inl c2))] := hD
                              exact W.zret hx hb hr (by rfl) (fun t ht hW => ⟨⟨_, (), rfl, ⟨rfl, (by rfl)⟩, by rw [ht]; exact hP9, va_K.moved hW.alike hK, hD9⟩, hS.F ht⟩) hS.2.2 dX10_item_291
                            · have hrun := oi_f hrun cc
                              refine lv_aload_n hx hb dX10_item_277 rfl (lv_at hl 1 rfl) ?_
                              refine va_get (D := (dC, dI)) (ci := 10) (v := .ref h1) (C := RX10) (T := TX10) (N := 28) hx hb hts hinX10 hown hK hP 0 rfl rfl 17 (by decide) (hts (.fieldLink RX10 46 "WasItOutModel" "numbers" "[I") (by decide +kernel)) (fun _ h9 => h9) rfl dX10_item_278 ?_
                              refine lv_iconst (v := (2 : Int32)) hx hb dX10_item_281 (by decide) ?_
                              have hi : vp_in (2 : Int32) 3 := ixk (by decide)
                              refine va_iald hx hb hK hP 1 0 rfl rfl hi dX10_item_282 ?_
                              refine lv_if_lt (tgt := 290) hx hb dX10_item_283 (by decide) (fun cc => ?_) (fun cc => ?_)
                              · have hrun := oi_t hrun cc
                                refine lv_iconst (v := (0 : Int32)) hx hb dX10_item_290 (by decide) ?_
                                cases hrun
                                have hP9 : va_P (dC, dI) vwCl [(h0, .inr (10, [.int v0_length, .ref h2, g0_itemMany, g0_items, g0_balls, g0_outs, g0_sightMany, g0_sights, g0_keptMany, g0_cameras, g0_callMany, g0_calls, g0_shares, g0_rights, g0_caseMany, g0_cases, .int q262.2.1, .ref h1, g0_xs, g0_ys, g0_zs, g0_us, g0_vs, g0_ws, g0_touchTick, g0_touchHalf, g0_powers, g0_worths])), (h1, .inl (k1, 3, .inl q262.2.2)), (h2, .inl (k2, 200, .inl c2))] H := hP
                                have hD9 : va_D A [(h0, .inr (10, [.int v0_length, .ref h2, g0_itemMany, g0_items, g0_balls, g0_outs, g0_sightMany, g0_sights, g0_keptMany, g0_cameras, g0_callMany, g0_calls, g0_shares, g0_rights, g0_caseMany, g0_cases, .int q262.2.1, .ref h1, g0_xs, g0_ys, g0_zs, g0_us, g0_vs, g0_ws, g0_touchTick, g0_touchHalf, g0_powers, g0_worths])), (h1, .inl (k1, 3, .inl q262.2.2)), (h2, .inl (k2, 200, .inl c2))] := hD
                                exact W.zret hx hb hr (by rfl) (fun t ht hW => ⟨⟨_, (), rfl, ⟨rfl, (by rfl)⟩, by rw [ht]; exact hP9, va_K.moved hW.alike hK, hD9⟩, hS.F ht⟩) hS.2.2 dX10_item_291
                              · have hrun := oi_f hrun cc
                                refine lv_iconst (v := (1 : Int32)) hx hb dX10_item_286 (by decide) ?_
                                refine lv_goto (tgt := 291) hx hb dX10_item_287 (by decide) ?_
                                cases hrun
                                have hP9 : va_P (dC, dI) vwCl [(h0, .inr (10, [.int v0_length, .ref h2, g0_itemMany, g0_items, g0_balls, g0_outs, g0_sightMany, g0_sights, g0_keptMany, g0_cameras, g0_callMany, g0_calls, g0_shares, g0_rights, g0_caseMany, g0_cases, .int q262.2.1, .ref h1, g0_xs, g0_ys, g0_zs, g0_us, g0_vs, g0_ws, g0_touchTick, g0_touchHalf, g0_powers, g0_worths])), (h1, .inl (k1, 3, .inl q262.2.2)), (h2, .inl (k2, 200, .inl c2))] H := hP
                                have hD9 : va_D A [(h0, .inr (10, [.int v0_length, .ref h2, g0_itemMany, g0_items, g0_balls, g0_outs, g0_sightMany, g0_sights, g0_keptMany, g0_cameras, g0_callMany, g0_calls, g0_shares, g0_rights, g0_caseMany, g0_cases, .int q262.2.1, .ref h1, g0_xs, g0_ys, g0_zs, g0_us, g0_vs, g0_ws, g0_touchTick, g0_touchHalf, g0_powers, g0_worths])), (h1, .inl (k1, 3, .inl q262.2.2)), (h2, .inl (k2, 200, .inl c2))] := hD
                                exact W.zret hx hb hr (by rfl) (fun t ht hW => ⟨⟨_, (), rfl, ⟨rfl, (by rfl)⟩, by rw [ht]; exact hP9, va_K.moved hW.alike hK, hD9⟩, hS.F ht⟩) hS.2.2 dX10_item_291
                        · have hrun := oi_f hrun cs107
                          by_cases cs108 : q5 = (108 : Int32)
                          · have hrun := oi_t hrun cs108
                            refine lv_tableIn (tgt := 254) hx hb dX10_item_34 (by rw [cs108]; decide) (by rw [cs108]; decide) (by rw [cs108]; rfl) (by decide) ?_
                            refine lv_aload_n hx hb dX10_item_254 rfl (lv_at hl 1 rfl) ?_
                            refine lv_iconst (v := (2 : Int32)) hx hb dX10_item_255 (by decide) ?_
                            obtain ⟨q256, hc256, hrun⟩ := ob_e hrun
                            refine wz_cqz (WC := [(h0, .inr (10, [.int v0_length, .ref h2, g0_itemMany, g0_items, g0_balls, g0_outs, g0_sightMany, g0_sights, g0_keptMany, g0_cameras, g0_callMany, g0_calls, g0_shares, g0_rights, g0_caseMany, g0_cases, .int (v0_place + (1 : Int32)), .ref h1, g0_xs, g0_ys, g0_zs, g0_us, g0_vs, g0_ws, g0_touchTick, g0_touchHalf, g0_powers, g0_worths])), (h1, .inl (k1, 3, .inl (upd (upd c1 (1 : Int32).toNatClampNeg (0 : Int32)) (2 : Int32).toNatClampNeg (0 : Int32)))), (h2, .inl (k2, 200, .inl c2))]) (WR := []) (W1 := [(h0, .inr (10, [.int v0_length, .ref h2, g0_itemMany, g0_items, g0_balls, g0_outs, g0_sightMany, g0_sights, g0_keptMany, g0_cameras, g0_callMany, g0_calls, g0_shares, g0_rights, g0_caseMany, g0_cases, .int q256.2.1, .ref h1, g0_xs, g0_ys, g0_zs, g0_us, g0_vs, g0_ws, g0_touchTick, g0_touchHalf, g0_powers, g0_worths])), (h1, .inl (k1, 3, .inl q256.2.2)), (h2, .inl (k2, 200, .inl c2))]) (va_runV (As := [.int (2 : Int32)]) (rest := []) ⟨hx, hb, hml, hown, hts⟩ (tX10_figures l dC dI H.size h0 h1 h2 k1 k2 (g0_itemMany) (g0_items) (g0_balls) (g0_outs) (g0_sightMany) (g0_sights) (g0_keptMany) (g0_cameras) (g0_callMany) (g0_calls) (g0_shares) (g0_rights) (g0_caseMany) (g0_cases) (g0_xs) (g0_ys) (g0_zs) (g0_us) (g0_vs) (g0_ws) (g0_touchTick) (g0_touchHalf) (g0_powers) (g0_worths) N ((2 : Int32)) v0_length ((v0_place + (1 : Int32))) ((upd (upd c1 (1 : Int32).toNatClampNeg (0 : Int32)) (2 : Int32).toNatClampNeg (0 : Int32))) c2 q256 hc256) (cwV 1 hts gX10_item_X10_figures rfl rfl rfl (by decide +kernel) ⟨Nat.le_of_ble_eq_true rfl, Nat.le_of_ble_eq_true rfl⟩) (wz_pVw (hP.sub (ws' := [(h0, .inr (10, [.int v0_length, .ref h2, g0_itemMany, g0_items, g0_balls, g0_outs, g0_sightMany, g0_sights, g0_keptMany, g0_cameras, g0_callMany, g0_calls, g0_shares, g0_rights, g0_caseMany, g0_cases, .int (v0_place + (1 : Int32)), .ref h1, g0_xs, g0_ys, g0_zs, g0_us, g0_vs, g0_ws, g0_touchTick, g0_touchHalf, g0_powers, g0_worths])), (h1, .inl (k1, 3, .inl (upd (upd c1 (1 : Int32).toNatClampNeg (0 : Int32)) (2 : Int32).toNatClampNeg (0 : Int32)))), (h2, .inl (k2, 200, .inl c2))]) [0, 1, 2] rfl) (hK.sub (tys' := [(k1, .int), (k2, .int)]) [0, 1] rfl) (hD.sub (ws' := [(h0, .inr (10, [.int v0_length, .ref h2, g0_itemMany, g0_items, g0_balls, g0_outs, g0_sightMany, g0_sights, g0_keptMany, g0_cameras, g0_callMany, g0_calls, g0_shares, g0_rights, g0_caseMany, g0_cases, .int (v0_place + (1 : Int32)), .ref h1, g0_xs, g0_ys, g0_zs, g0_us, g0_vs, g0_ws, g0_touchTick, g0_touchHalf, g0_powers, g0_worths])), (h1, .inl (k1, 3, .inl (upd (upd c1 (1 : Int32).toNatClampNeg (0 : Int32)) (2 : Int32).toNatClampNeg (0 : Int32)))), (h2, .inl (k2, 200, .inl c2))]) [0, 1, 2] (by decide) rfl) (va_recv hK hP (ci := 10) (q0 := 0) rfl rfl)) rfl rfl hl.1 rfl (lv_room (Nat.le_of_ble_eq_true rfl)) dX10_item_256 ⟨Nat.zero_le _, Nat.zero_le _⟩) hP hD hS hA [0, 1, 2] [] rfl rfl (by decide) (by decide) (fun H locs hP hD hS hz256 => ?_)
                            have hP : va_P (dC, dI) vwCl [(h0, .inr (10, [.int v0_length, .ref h2, g0_itemMany, g0_items, g0_balls, g0_outs, g0_sightMany, g0_sights, g0_keptMany, g0_cameras, g0_callMany, g0_calls, g0_shares, g0_rights, g0_caseMany, g0_cases, .int q256.2.1, .ref h1, g0_xs, g0_ys, g0_zs, g0_us, g0_vs, g0_ws, g0_touchTick, g0_touchHalf, g0_powers, g0_worths])), (h1, .inl (k1, 3, .inl q256.2.2)), (h2, .inl (k2, 200, .inl c2))] H := hP
                            have hD : va_D A [(h0, .inr (10, [.int v0_length, .ref h2, g0_itemMany, g0_items, g0_balls, g0_outs, g0_sightMany, g0_sights, g0_keptMany, g0_cameras, g0_callMany, g0_calls, g0_shares, g0_rights, g0_caseMany, g0_cases, .int q256.2.1, .ref h1, g0_xs, g0_ys, g0_zs, g0_us, g0_vs, g0_ws, g0_touchTick, g0_touchHalf, g0_powers, g0_worths])), (h1, .inl (k1, 3, .inl q256.2.2)), (h2, .inl (k2, 200, .inl c2))] := hD
                            cases hrun
                            have hP9 : va_P (dC, dI) vwCl [(h0, .inr (10, [.int v0_length, .ref h2, g0_itemMany, g0_items, g0_balls, g0_outs, g0_sightMany, g0_sights, g0_keptMany, g0_cameras, g0_callMany, g0_calls, g0_shares, g0_rights, g0_caseMany, g0_cases, .int q256.2.1, .ref h1, g0_xs, g0_ys, g0_zs, g0_us, g0_vs, g0_ws, g0_touchTick, g0_touchHalf, g0_powers, g0_worths])), (h1, .inl (k1, 3, .inl q256.2.2)), (h2, .inl (k2, 200, .inl c2))] H := hP
                            have hD9 : va_D A [(h0, .inr (10, [.int v0_length, .ref h2, g0_itemMany, g0_items, g0_balls, g0_outs, g0_sightMany, g0_sights, g0_keptMany, g0_cameras, g0_callMany, g0_calls, g0_shares, g0_rights, g0_caseMany, g0_cases, .int q256.2.1, .ref h1, g0_xs, g0_ys, g0_zs, g0_us, g0_vs, g0_ws, g0_touchTick, g0_touchHalf, g0_powers, g0_worths])), (h1, .inl (k1, 3, .inl q256.2.2)), (h2, .inl (k2, 200, .inl c2))] := hD
                            exact W.zret hx hb hr hz256 (fun t ht hW => ⟨⟨_, (), rfl, ⟨rfl, hz256⟩, by rw [ht]; exact hP9, va_K.moved hW.alike hK, hD9⟩, hS.F ht⟩) hS.2.2 dX10_item_259
                          · have hrun := oi_f hrun cs108
                            by_cases cs109 : q5 = (109 : Int32)
                            · have hrun := oi_t hrun cs109
                              refine lv_tableIn (tgt := 292) hx hb dX10_item_34 (by rw [cs109]; decide) (by rw [cs109]; decide) (by rw [cs109]; rfl) (by decide) ?_
                              refine lv_iconst (v := (0 : Int32)) hx hb dX10_item_292 (by decide) ?_
                              cases hrun
                              have hP9 : va_P (dC, dI) vwCl [(h0, .inr (10, [.int v0_length, .ref h2, g0_itemMany, g0_items, g0_balls, g0_outs, g0_sightMany, g0_sights, g0_keptMany, g0_cameras, g0_callMany, g0_calls, g0_shares, g0_rights, g0_caseMany, g0_cases, .int (v0_place + (1 : Int32)), .ref h1, g0_xs, g0_ys, g0_zs, g0_us, g0_vs, g0_ws, g0_touchTick, g0_touchHalf, g0_powers, g0_worths])), (h1, .inl (k1, 3, .inl (upd (upd c1 (1 : Int32).toNatClampNeg (0 : Int32)) (2 : Int32).toNatClampNeg (0 : Int32)))), (h2, .inl (k2, 200, .inl c2))] H := hP
                              have hD9 : va_D A [(h0, .inr (10, [.int v0_length, .ref h2, g0_itemMany, g0_items, g0_balls, g0_outs, g0_sightMany, g0_sights, g0_keptMany, g0_cameras, g0_callMany, g0_calls, g0_shares, g0_rights, g0_caseMany, g0_cases, .int (v0_place + (1 : Int32)), .ref h1, g0_xs, g0_ys, g0_zs, g0_us, g0_vs, g0_ws, g0_touchTick, g0_touchHalf, g0_powers, g0_worths])), (h1, .inl (k1, 3, .inl (upd (upd c1 (1 : Int32).toNatClampNeg (0 : Int32)) (2 : Int32).toNatClampNeg (0 : Int32)))), (h2, .inl (k2, 200, .inl c2))] := hD
                              exact W.zret hx hb hr (by rfl) (fun t ht hW => ⟨⟨_, (), rfl, ⟨rfl, (by rfl)⟩, by rw [ht]; exact hP9, va_K.moved hW.alike hK, hD9⟩, hS.F ht⟩) hS.2.2 dX10_item_293
                            · have hrun := oi_f hrun cs109
                              by_cases cs110 : q5 = (110 : Int32)
                              · have hrun := oi_t hrun cs110
                                refine lv_tableIn (tgt := 292) hx hb dX10_item_34 (by rw [cs110]; decide) (by rw [cs110]; decide) (by rw [cs110]; rfl) (by decide) ?_
                                refine lv_iconst (v := (0 : Int32)) hx hb dX10_item_292 (by decide) ?_
                                cases hrun
                                have hP9 : va_P (dC, dI) vwCl [(h0, .inr (10, [.int v0_length, .ref h2, g0_itemMany, g0_items, g0_balls, g0_outs, g0_sightMany, g0_sights, g0_keptMany, g0_cameras, g0_callMany, g0_calls, g0_shares, g0_rights, g0_caseMany, g0_cases, .int (v0_place + (1 : Int32)), .ref h1, g0_xs, g0_ys, g0_zs, g0_us, g0_vs, g0_ws, g0_touchTick, g0_touchHalf, g0_powers, g0_worths])), (h1, .inl (k1, 3, .inl (upd (upd c1 (1 : Int32).toNatClampNeg (0 : Int32)) (2 : Int32).toNatClampNeg (0 : Int32)))), (h2, .inl (k2, 200, .inl c2))] H := hP
                                have hD9 : va_D A [(h0, .inr (10, [.int v0_length, .ref h2, g0_itemMany, g0_items, g0_balls, g0_outs, g0_sightMany, g0_sights, g0_keptMany, g0_cameras, g0_callMany, g0_calls, g0_shares, g0_rights, g0_caseMany, g0_cases, .int (v0_place + (1 : Int32)), .ref h1, g0_xs, g0_ys, g0_zs, g0_us, g0_vs, g0_ws, g0_touchTick, g0_touchHalf, g0_powers, g0_worths])), (h1, .inl (k1, 3, .inl (upd (upd c1 (1 : Int32).toNatClampNeg (0 : Int32)) (2 : Int32).toNatClampNeg (0 : Int32)))), (h2, .inl (k2, 200, .inl c2))] := hD
                                exact W.zret hx hb hr (by rfl) (fun t ht hW => ⟨⟨_, (), rfl, ⟨rfl, (by rfl)⟩, by rw [ht]; exact hP9, va_K.moved hW.alike hK, hD9⟩, hS.F ht⟩) hS.2.2 dX10_item_293
                              · have hrun := oi_f hrun cs110
                                by_cases cs111 : q5 = (111 : Int32)
                                · have hrun := oi_t hrun cs111
                                  refine lv_tableIn (tgt := 292) hx hb dX10_item_34 (by rw [cs111]; decide) (by rw [cs111]; decide) (by rw [cs111]; rfl) (by decide) ?_
                                  refine lv_iconst (v := (0 : Int32)) hx hb dX10_item_292 (by decide) ?_
                                  cases hrun
                                  have hP9 : va_P (dC, dI) vwCl [(h0, .inr (10, [.int v0_length, .ref h2, g0_itemMany, g0_items, g0_balls, g0_outs, g0_sightMany, g0_sights, g0_keptMany, g0_cameras, g0_callMany, g0_calls, g0_shares, g0_rights, g0_caseMany, g0_cases, .int (v0_place + (1 : Int32)), .ref h1, g0_xs, g0_ys, g0_zs, g0_us, g0_vs, g0_ws, g0_touchTick, g0_touchHalf, g0_powers, g0_worths])), (h1, .inl (k1, 3, .inl (upd (upd c1 (1 : Int32).toNatClampNeg (0 : Int32)) (2 : Int32).toNatClampNeg (0 : Int32)))), (h2, .inl (k2, 200, .inl c2))] H := hP
                                  have hD9 : va_D A [(h0, .inr (10, [.int v0_length, .ref h2, g0_itemMany, g0_items, g0_balls, g0_outs, g0_sightMany, g0_sights, g0_keptMany, g0_cameras, g0_callMany, g0_calls, g0_shares, g0_rights, g0_caseMany, g0_cases, .int (v0_place + (1 : Int32)), .ref h1, g0_xs, g0_ys, g0_zs, g0_us, g0_vs, g0_ws, g0_touchTick, g0_touchHalf, g0_powers, g0_worths])), (h1, .inl (k1, 3, .inl (upd (upd c1 (1 : Int32).toNatClampNeg (0 : Int32)) (2 : Int32).toNatClampNeg (0 : Int32)))), (h2, .inl (k2, 200, .inl c2))] := hD
                                  exact W.zret hx hb hr (by rfl) (fun t ht hW => ⟨⟨_, (), rfl, ⟨rfl, (by rfl)⟩, by rw [ht]; exact hP9, va_K.moved hW.alike hK, hD9⟩, hS.F ht⟩) hS.2.2 dX10_item_293
                                · have hrun := oi_f hrun cs111
                                  by_cases cs112 : q5 = (112 : Int32)
                                  · have hrun := oi_t hrun cs112
                                    refine lv_tableIn (tgt := 292) hx hb dX10_item_34 (by rw [cs112]; decide) (by rw [cs112]; decide) (by rw [cs112]; rfl) (by decide) ?_
                                    refine lv_iconst (v := (0 : Int32)) hx hb dX10_item_292 (by decide) ?_
                                    cases hrun
                                    have hP9 : va_P (dC, dI) vwCl [(h0, .inr (10, [.int v0_length, .ref h2, g0_itemMany, g0_items, g0_balls, g0_outs, g0_sightMany, g0_sights, g0_keptMany, g0_cameras, g0_callMany, g0_calls, g0_shares, g0_rights, g0_caseMany, g0_cases, .int (v0_place + (1 : Int32)), .ref h1, g0_xs, g0_ys, g0_zs, g0_us, g0_vs, g0_ws, g0_touchTick, g0_touchHalf, g0_powers, g0_worths])), (h1, .inl (k1, 3, .inl (upd (upd c1 (1 : Int32).toNatClampNeg (0 : Int32)) (2 : Int32).toNatClampNeg (0 : Int32)))), (h2, .inl (k2, 200, .inl c2))] H := hP
                                    have hD9 : va_D A [(h0, .inr (10, [.int v0_length, .ref h2, g0_itemMany, g0_items, g0_balls, g0_outs, g0_sightMany, g0_sights, g0_keptMany, g0_cameras, g0_callMany, g0_calls, g0_shares, g0_rights, g0_caseMany, g0_cases, .int (v0_place + (1 : Int32)), .ref h1, g0_xs, g0_ys, g0_zs, g0_us, g0_vs, g0_ws, g0_touchTick, g0_touchHalf, g0_powers, g0_worths])), (h1, .inl (k1, 3, .inl (upd (upd c1 (1 : Int32).toNatClampNeg (0 : Int32)) (2 : Int32).toNatClampNeg (0 : Int32)))), (h2, .inl (k2, 200, .inl c2))] := hD
                                    exact W.zret hx hb hr (by rfl) (fun t ht hW => ⟨⟨_, (), rfl, ⟨rfl, (by rfl)⟩, by rw [ht]; exact hP9, va_K.moved hW.alike hK, hD9⟩, hS.F ht⟩) hS.2.2 dX10_item_293
                                  · have hrun := oi_f hrun cs112
                                    by_cases cs113 : q5 = (113 : Int32)
                                    · have hrun := oi_t hrun cs113
                                      refine lv_tableIn (tgt := 159) hx hb dX10_item_34 (by rw [cs113]; decide) (by rw [cs113]; decide) (by rw [cs113]; rfl) (by decide) ?_
                                      refine lv_aload_n hx hb dX10_item_159 rfl (lv_at hl 1 rfl) ?_
                                      refine lv_iconst (v := (1 : Int32)) hx hb dX10_item_160 (by decide) ?_
                                      obtain ⟨q161, hc161, hrun⟩ := ob_e hrun
                                      refine wz_cqz (WC := [(h0, .inr (10, [.int v0_length, .ref h2, g0_itemMany, g0_items, g0_balls, g0_outs, g0_sightMany, g0_sights, g0_keptMany, g0_cameras, g0_callMany, g0_calls, g0_shares, g0_rights, g0_caseMany, g0_cases, .int (v0_place + (1 : Int32)), .ref h1, g0_xs, g0_ys, g0_zs, g0_us, g0_vs, g0_ws, g0_touchTick, g0_touchHalf, g0_powers, g0_worths])), (h1, .inl (k1, 3, .inl (upd (upd c1 (1 : Int32).toNatClampNeg (0 : Int32)) (2 : Int32).toNatClampNeg (0 : Int32)))), (h2, .inl (k2, 200, .inl c2))]) (WR := []) (W1 := [(h0, .inr (10, [.int v0_length, .ref h2, g0_itemMany, g0_items, g0_balls, g0_outs, g0_sightMany, g0_sights, g0_keptMany, g0_cameras, g0_callMany, g0_calls, g0_shares, g0_rights, g0_caseMany, g0_cases, .int q161.2.1, .ref h1, g0_xs, g0_ys, g0_zs, g0_us, g0_vs, g0_ws, g0_touchTick, g0_touchHalf, g0_powers, g0_worths])), (h1, .inl (k1, 3, .inl q161.2.2)), (h2, .inl (k2, 200, .inl c2))]) (va_runV (As := [.int (1 : Int32)]) (rest := []) ⟨hx, hb, hml, hown, hts⟩ (tX10_figures l dC dI H.size h0 h1 h2 k1 k2 (g0_itemMany) (g0_items) (g0_balls) (g0_outs) (g0_sightMany) (g0_sights) (g0_keptMany) (g0_cameras) (g0_callMany) (g0_calls) (g0_shares) (g0_rights) (g0_caseMany) (g0_cases) (g0_xs) (g0_ys) (g0_zs) (g0_us) (g0_vs) (g0_ws) (g0_touchTick) (g0_touchHalf) (g0_powers) (g0_worths) N ((1 : Int32)) v0_length ((v0_place + (1 : Int32))) ((upd (upd c1 (1 : Int32).toNatClampNeg (0 : Int32)) (2 : Int32).toNatClampNeg (0 : Int32))) c2 q161 hc161) (cwV 1 hts gX10_item_X10_figures rfl rfl rfl (by decide +kernel) ⟨Nat.le_of_ble_eq_true rfl, Nat.le_of_ble_eq_true rfl⟩) (wz_pVw (hP.sub (ws' := [(h0, .inr (10, [.int v0_length, .ref h2, g0_itemMany, g0_items, g0_balls, g0_outs, g0_sightMany, g0_sights, g0_keptMany, g0_cameras, g0_callMany, g0_calls, g0_shares, g0_rights, g0_caseMany, g0_cases, .int (v0_place + (1 : Int32)), .ref h1, g0_xs, g0_ys, g0_zs, g0_us, g0_vs, g0_ws, g0_touchTick, g0_touchHalf, g0_powers, g0_worths])), (h1, .inl (k1, 3, .inl (upd (upd c1 (1 : Int32).toNatClampNeg (0 : Int32)) (2 : Int32).toNatClampNeg (0 : Int32)))), (h2, .inl (k2, 200, .inl c2))]) [0, 1, 2] rfl) (hK.sub (tys' := [(k1, .int), (k2, .int)]) [0, 1] rfl) (hD.sub (ws' := [(h0, .inr (10, [.int v0_length, .ref h2, g0_itemMany, g0_items, g0_balls, g0_outs, g0_sightMany, g0_sights, g0_keptMany, g0_cameras, g0_callMany, g0_calls, g0_shares, g0_rights, g0_caseMany, g0_cases, .int (v0_place + (1 : Int32)), .ref h1, g0_xs, g0_ys, g0_zs, g0_us, g0_vs, g0_ws, g0_touchTick, g0_touchHalf, g0_powers, g0_worths])), (h1, .inl (k1, 3, .inl (upd (upd c1 (1 : Int32).toNatClampNeg (0 : Int32)) (2 : Int32).toNatClampNeg (0 : Int32)))), (h2, .inl (k2, 200, .inl c2))]) [0, 1, 2] (by decide) rfl) (va_recv hK hP (ci := 10) (q0 := 0) rfl rfl)) rfl rfl hl.1 rfl (lv_room (Nat.le_of_ble_eq_true rfl)) dX10_item_161 ⟨Nat.zero_le _, Nat.zero_le _⟩) hP hD hS hA [0, 1, 2] [] rfl rfl (by decide) (by decide) (fun H locs hP hD hS hz161 => ?_)
                                      have hP : va_P (dC, dI) vwCl [(h0, .inr (10, [.int v0_length, .ref h2, g0_itemMany, g0_items, g0_balls, g0_outs, g0_sightMany, g0_sights, g0_keptMany, g0_cameras, g0_callMany, g0_calls, g0_shares, g0_rights, g0_caseMany, g0_cases, .int q161.2.1, .ref h1, g0_xs, g0_ys, g0_zs, g0_us, g0_vs, g0_ws, g0_touchTick, g0_touchHalf, g0_powers, g0_worths])), (h1, .inl (k1, 3, .inl q161.2.2)), (h2, .inl (k2, 200, .inl c2))] H := hP
                                      have hD : va_D A [(h0, .inr (10, [.int v0_length, .ref h2, g0_itemMany, g0_items, g0_balls, g0_outs, g0_sightMany, g0_sights, g0_keptMany, g0_cameras, g0_callMany, g0_calls, g0_shares, g0_rights, g0_caseMany, g0_cases, .int q161.2.1, .ref h1, g0_xs, g0_ys, g0_zs, g0_us, g0_vs, g0_ws, g0_touchTick, g0_touchHalf, g0_powers, g0_worths])), (h1, .inl (k1, 3, .inl q161.2.2)), (h2, .inl (k2, 200, .inl c2))] := hD
                                      refine lv_if_eq (tgt := 188) hx hb dX10_item_164 (by decide) (fun cc => ?_) (fun cc => ?_)
                                      · have hrun := oi_t hrun cc
                                        refine lv_iconst (v := (0 : Int32)) hx hb dX10_item_188 (by decide) ?_
                                        cases hrun
                                        have hP9 : va_P (dC, dI) vwCl [(h0, .inr (10, [.int v0_length, .ref h2, g0_itemMany, g0_items, g0_balls, g0_outs, g0_sightMany, g0_sights, g0_keptMany, g0_cameras, g0_callMany, g0_calls, g0_shares, g0_rights, g0_caseMany, g0_cases, .int q161.2.1, .ref h1, g0_xs, g0_ys, g0_zs, g0_us, g0_vs, g0_ws, g0_touchTick, g0_touchHalf, g0_powers, g0_worths])), (h1, .inl (k1, 3, .inl q161.2.2)), (h2, .inl (k2, 200, .inl c2))] H := hP
                                        have hD9 : va_D A [(h0, .inr (10, [.int v0_length, .ref h2, g0_itemMany, g0_items, g0_balls, g0_outs, g0_sightMany, g0_sights, g0_keptMany, g0_cameras, g0_callMany, g0_calls, g0_shares, g0_rights, g0_caseMany, g0_cases, .int q161.2.1, .ref h1, g0_xs, g0_ys, g0_zs, g0_us, g0_vs, g0_ws, g0_touchTick, g0_touchHalf, g0_powers, g0_worths])), (h1, .inl (k1, 3, .inl q161.2.2)), (h2, .inl (k2, 200, .inl c2))] := hD
                                        exact W.zret hx hb hr (by rfl) (fun t ht hW => ⟨⟨_, (), rfl, ⟨rfl, (by rfl)⟩, by rw [ht]; exact hP9, va_K.moved hW.alike hK, hD9⟩, hS.F ht⟩) hS.2.2 dX10_item_189
                                      · have hrun := oi_f hrun cc
                                        refine lv_aload_n hx hb dX10_item_167 rfl (lv_at hl 1 rfl) ?_
                                        refine va_get (D := (dC, dI)) (ci := 10) (v := .ref h1) (C := RX10) (T := TX10) (N := 28) hx hb hts hinX10 hown hK hP 0 rfl rfl 17 (by decide) (hts (.fieldLink RX10 46 "WasItOutModel" "numbers" "[I") (by decide +kernel)) (fun _ h9 => h9) rfl dX10_item_168 ?_
                                        refine lv_iconst (v := (0 : Int32)) hx hb dX10_item_171 (by decide) ?_
                                        have hi : vp_in (0 : Int32) 3 := ixk (by decide)
                                        refine va_iald hx hb hK hP 1 0 rfl rfl hi dX10_item_172 ?_
                                        refine lv_i2l (v := (q161.2.2 (0 : Int32).toNatClampNeg).toInt64) hx hb dX10_item_173 rfl ?_
                                        refine lv_lconst (v := (0 : Int64)) hx hb dX10_item_174 (by decide) ?_
                                        refine lv_ldc2 (v := (100 : Int64)) hx hb hown (hts (.constantLong RX10 105 (100 : Int64)) (by decide +kernel)) dX10_item_175 ?_
                                        obtain ⟨q178, hc178, hrun⟩ := ob_e hrun
                                        refine wz_csz (va_runS (As := [.long (q161.2.2 (0 : Int32).toNatClampNeg).toInt64, .long (0 : Int64), .long (100 : Int64)]) (rest := []) ⟨hx, hb, hml, hown, hts⟩ (tX10_in l dC dI N ((q161.2.2 (0 : Int32).toNatClampNeg).toInt64) ((0 : Int64)) ((100 : Int64)) q178 hc178) (va_cwS 3 hts gX10_item_X10_in rfl rfl rfl (by decide +kernel) ⟨Nat.le_of_ble_eq_true rfl, Nat.le_of_ble_eq_true rfl⟩) (wz_pSr (hP.sub (ws' := []) [] rfl) (hK.sub (tys' := []) [] rfl)) rfl rfl hl.1 rfl (lv_room (Nat.le_of_ble_eq_true rfl)) dX10_item_178 ⟨Nat.zero_le _, Nat.zero_le _⟩) (fun hz178 => ?_)
                                        refine lv_if_eq (tgt := 188) hx hb dX10_item_181 (by decide) (fun cc => ?_) (fun cc => ?_)
                                        · have hrun := oi_t hrun cc
                                          refine lv_iconst (v := (0 : Int32)) hx hb dX10_item_188 (by decide) ?_
                                          cases hrun
                                          have hP9 : va_P (dC, dI) vwCl [(h0, .inr (10, [.int v0_length, .ref h2, g0_itemMany, g0_items, g0_balls, g0_outs, g0_sightMany, g0_sights, g0_keptMany, g0_cameras, g0_callMany, g0_calls, g0_shares, g0_rights, g0_caseMany, g0_cases, .int q161.2.1, .ref h1, g0_xs, g0_ys, g0_zs, g0_us, g0_vs, g0_ws, g0_touchTick, g0_touchHalf, g0_powers, g0_worths])), (h1, .inl (k1, 3, .inl q161.2.2)), (h2, .inl (k2, 200, .inl c2))] H := hP
                                          have hD9 : va_D A [(h0, .inr (10, [.int v0_length, .ref h2, g0_itemMany, g0_items, g0_balls, g0_outs, g0_sightMany, g0_sights, g0_keptMany, g0_cameras, g0_callMany, g0_calls, g0_shares, g0_rights, g0_caseMany, g0_cases, .int q161.2.1, .ref h1, g0_xs, g0_ys, g0_zs, g0_us, g0_vs, g0_ws, g0_touchTick, g0_touchHalf, g0_powers, g0_worths])), (h1, .inl (k1, 3, .inl q161.2.2)), (h2, .inl (k2, 200, .inl c2))] := hD
                                          exact W.zret hx hb hr (by rfl) (fun t ht hW => ⟨⟨_, (), rfl, ⟨rfl, (by rfl)⟩, by rw [ht]; exact hP9, va_K.moved hW.alike hK, hD9⟩, hS.F ht⟩) hS.2.2 dX10_item_189
                                        · have hrun := oi_f hrun cc
                                          refine lv_iconst (v := (1 : Int32)) hx hb dX10_item_184 (by decide) ?_
                                          refine lv_goto (tgt := 189) hx hb dX10_item_185 (by decide) ?_
                                          cases hrun
                                          have hP9 : va_P (dC, dI) vwCl [(h0, .inr (10, [.int v0_length, .ref h2, g0_itemMany, g0_items, g0_balls, g0_outs, g0_sightMany, g0_sights, g0_keptMany, g0_cameras, g0_callMany, g0_calls, g0_shares, g0_rights, g0_caseMany, g0_cases, .int q161.2.1, .ref h1, g0_xs, g0_ys, g0_zs, g0_us, g0_vs, g0_ws, g0_touchTick, g0_touchHalf, g0_powers, g0_worths])), (h1, .inl (k1, 3, .inl q161.2.2)), (h2, .inl (k2, 200, .inl c2))] H := hP
                                          have hD9 : va_D A [(h0, .inr (10, [.int v0_length, .ref h2, g0_itemMany, g0_items, g0_balls, g0_outs, g0_sightMany, g0_sights, g0_keptMany, g0_cameras, g0_callMany, g0_calls, g0_shares, g0_rights, g0_caseMany, g0_cases, .int q161.2.1, .ref h1, g0_xs, g0_ys, g0_zs, g0_us, g0_vs, g0_ws, g0_touchTick, g0_touchHalf, g0_powers, g0_worths])), (h1, .inl (k1, 3, .inl q161.2.2)), (h2, .inl (k2, 200, .inl c2))] := hD
                                          exact W.zret hx hb hr (by rfl) (fun t ht hW => ⟨⟨_, (), rfl, ⟨rfl, (by rfl)⟩, by rw [ht]; exact hP9, va_K.moved hW.alike hK, hD9⟩, hS.F ht⟩) hS.2.2 dX10_item_189
                                    · have hrun := oi_f hrun cs113
                                      by_cases cs114 : q5 = (114 : Int32)
                                      · have hrun := oi_t hrun cs114
                                        refine lv_tableIn (tgt := 190) hx hb dX10_item_34 (by rw [cs114]; decide) (by rw [cs114]; decide) (by rw [cs114]; rfl) (by decide) ?_
                                        refine lv_aload_n hx hb dX10_item_190 rfl (lv_at hl 1 rfl) ?_
                                        refine lv_iconst (v := (1 : Int32)) hx hb dX10_item_191 (by decide) ?_
                                        obtain ⟨q192, hc192, hrun⟩ := ob_e hrun
                                        refine wz_cqz (WC := [(h0, .inr (10, [.int v0_length, .ref h2, g0_itemMany, g0_items, g0_balls, g0_outs, g0_sightMany, g0_sights, g0_keptMany, g0_cameras, g0_callMany, g0_calls, g0_shares, g0_rights, g0_caseMany, g0_cases, .int (v0_place + (1 : Int32)), .ref h1, g0_xs, g0_ys, g0_zs, g0_us, g0_vs, g0_ws, g0_touchTick, g0_touchHalf, g0_powers, g0_worths])), (h1, .inl (k1, 3, .inl (upd (upd c1 (1 : Int32).toNatClampNeg (0 : Int32)) (2 : Int32).toNatClampNeg (0 : Int32)))), (h2, .inl (k2, 200, .inl c2))]) (WR := []) (W1 := [(h0, .inr (10, [.int v0_length, .ref h2, g0_itemMany, g0_items, g0_balls, g0_outs, g0_sightMany, g0_sights, g0_keptMany, g0_cameras, g0_callMany, g0_calls, g0_shares, g0_rights, g0_caseMany, g0_cases, .int q192.2.1, .ref h1, g0_xs, g0_ys, g0_zs, g0_us, g0_vs, g0_ws, g0_touchTick, g0_touchHalf, g0_powers, g0_worths])), (h1, .inl (k1, 3, .inl q192.2.2)), (h2, .inl (k2, 200, .inl c2))]) (va_runV (As := [.int (1 : Int32)]) (rest := []) ⟨hx, hb, hml, hown, hts⟩ (tX10_figures l dC dI H.size h0 h1 h2 k1 k2 (g0_itemMany) (g0_items) (g0_balls) (g0_outs) (g0_sightMany) (g0_sights) (g0_keptMany) (g0_cameras) (g0_callMany) (g0_calls) (g0_shares) (g0_rights) (g0_caseMany) (g0_cases) (g0_xs) (g0_ys) (g0_zs) (g0_us) (g0_vs) (g0_ws) (g0_touchTick) (g0_touchHalf) (g0_powers) (g0_worths) N ((1 : Int32)) v0_length ((v0_place + (1 : Int32))) ((upd (upd c1 (1 : Int32).toNatClampNeg (0 : Int32)) (2 : Int32).toNatClampNeg (0 : Int32))) c2 q192 hc192) (cwV 1 hts gX10_item_X10_figures rfl rfl rfl (by decide +kernel) ⟨Nat.le_of_ble_eq_true rfl, Nat.le_of_ble_eq_true rfl⟩) (wz_pVw (hP.sub (ws' := [(h0, .inr (10, [.int v0_length, .ref h2, g0_itemMany, g0_items, g0_balls, g0_outs, g0_sightMany, g0_sights, g0_keptMany, g0_cameras, g0_callMany, g0_calls, g0_shares, g0_rights, g0_caseMany, g0_cases, .int (v0_place + (1 : Int32)), .ref h1, g0_xs, g0_ys, g0_zs, g0_us, g0_vs, g0_ws, g0_touchTick, g0_touchHalf, g0_powers, g0_worths])), (h1, .inl (k1, 3, .inl (upd (upd c1 (1 : Int32).toNatClampNeg (0 : Int32)) (2 : Int32).toNatClampNeg (0 : Int32)))), (h2, .inl (k2, 200, .inl c2))]) [0, 1, 2] rfl) (hK.sub (tys' := [(k1, .int), (k2, .int)]) [0, 1] rfl) (hD.sub (ws' := [(h0, .inr (10, [.int v0_length, .ref h2, g0_itemMany, g0_items, g0_balls, g0_outs, g0_sightMany, g0_sights, g0_keptMany, g0_cameras, g0_callMany, g0_calls, g0_shares, g0_rights, g0_caseMany, g0_cases, .int (v0_place + (1 : Int32)), .ref h1, g0_xs, g0_ys, g0_zs, g0_us, g0_vs, g0_ws, g0_touchTick, g0_touchHalf, g0_powers, g0_worths])), (h1, .inl (k1, 3, .inl (upd (upd c1 (1 : Int32).toNatClampNeg (0 : Int32)) (2 : Int32).toNatClampNeg (0 : Int32)))), (h2, .inl (k2, 200, .inl c2))]) [0, 1, 2] (by decide) rfl) (va_recv hK hP (ci := 10) (q0 := 0) rfl rfl)) rfl rfl hl.1 rfl (lv_room (Nat.le_of_ble_eq_true rfl)) dX10_item_192 ⟨Nat.zero_le _, Nat.zero_le _⟩) hP hD hS hA [0, 1, 2] [] rfl rfl (by decide) (by decide) (fun H locs hP hD hS hz192 => ?_)
                                        have hP : va_P (dC, dI) vwCl [(h0, .inr (10, [.int v0_length, .ref h2, g0_itemMany, g0_items, g0_balls, g0_outs, g0_sightMany, g0_sights, g0_keptMany, g0_cameras, g0_callMany, g0_calls, g0_shares, g0_rights, g0_caseMany, g0_cases, .int q192.2.1, .ref h1, g0_xs, g0_ys, g0_zs, g0_us, g0_vs, g0_ws, g0_touchTick, g0_touchHalf, g0_powers, g0_worths])), (h1, .inl (k1, 3, .inl q192.2.2)), (h2, .inl (k2, 200, .inl c2))] H := hP
                                        have hD : va_D A [(h0, .inr (10, [.int v0_length, .ref h2, g0_itemMany, g0_items, g0_balls, g0_outs, g0_sightMany, g0_sights, g0_keptMany, g0_cameras, g0_callMany, g0_calls, g0_shares, g0_rights, g0_caseMany, g0_cases, .int q192.2.1, .ref h1, g0_xs, g0_ys, g0_zs, g0_us, g0_vs, g0_ws, g0_touchTick, g0_touchHalf, g0_powers, g0_worths])), (h1, .inl (k1, 3, .inl q192.2.2)), (h2, .inl (k2, 200, .inl c2))] := hD
                                        refine lv_if_eq (tgt := 219) hx hb dX10_item_195 (by decide) (fun cc => ?_) (fun cc => ?_)
                                        · have hrun := oi_t hrun cc
                                          refine lv_iconst (v := (0 : Int32)) hx hb dX10_item_219 (by decide) ?_
                                          cases hrun
                                          have hP9 : va_P (dC, dI) vwCl [(h0, .inr (10, [.int v0_length, .ref h2, g0_itemMany, g0_items, g0_balls, g0_outs, g0_sightMany, g0_sights, g0_keptMany, g0_cameras, g0_callMany, g0_calls, g0_shares, g0_rights, g0_caseMany, g0_cases, .int q192.2.1, .ref h1, g0_xs, g0_ys, g0_zs, g0_us, g0_vs, g0_ws, g0_touchTick, g0_touchHalf, g0_powers, g0_worths])), (h1, .inl (k1, 3, .inl q192.2.2)), (h2, .inl (k2, 200, .inl c2))] H := hP
                                          have hD9 : va_D A [(h0, .inr (10, [.int v0_length, .ref h2, g0_itemMany, g0_items, g0_balls, g0_outs, g0_sightMany, g0_sights, g0_keptMany, g0_cameras, g0_callMany, g0_calls, g0_shares, g0_rights, g0_caseMany, g0_cases, .int q192.2.1, .ref h1, g0_xs, g0_ys, g0_zs, g0_us, g0_vs, g0_ws, g0_touchTick, g0_touchHalf, g0_powers, g0_worths])), (h1, .inl (k1, 3, .inl q192.2.2)), (h2, .inl (k2, 200, .inl c2))] := hD
                                          exact W.zret hx hb hr (by rfl) (fun t ht hW => ⟨⟨_, (), rfl, ⟨rfl, (by rfl)⟩, by rw [ht]; exact hP9, va_K.moved hW.alike hK, hD9⟩, hS.F ht⟩) hS.2.2 dX10_item_220
                                        · have hrun := oi_f hrun cc
                                          refine lv_aload_n hx hb dX10_item_198 rfl (lv_at hl 1 rfl) ?_
                                          refine va_get (D := (dC, dI)) (ci := 10) (v := .ref h1) (C := RX10) (T := TX10) (N := 28) hx hb hts hinX10 hown hK hP 0 rfl rfl 17 (by decide) (hts (.fieldLink RX10 46 "WasItOutModel" "numbers" "[I") (by decide +kernel)) (fun _ h9 => h9) rfl dX10_item_199 ?_
                                          refine lv_iconst (v := (0 : Int32)) hx hb dX10_item_202 (by decide) ?_
                                          have hi : vp_in (0 : Int32) 3 := ixk (by decide)
                                          refine va_iald hx hb hK hP 1 0 rfl rfl hi dX10_item_203 ?_
                                          refine lv_i2l (v := (q192.2.2 (0 : Int32).toNatClampNeg).toInt64) hx hb dX10_item_204 rfl ?_
                                          refine lv_lconst (v := (0 : Int64)) hx hb dX10_item_205 (by decide) ?_
                                          refine lv_ldc2 (v := (1000 : Int64)) hx hb hown (hts (.constantLong RX10 107 (1000 : Int64)) (by decide +kernel)) dX10_item_206 ?_
                                          obtain ⟨q209, hc209, hrun⟩ := ob_e hrun
                                          refine wz_csz (va_runS (As := [.long (q192.2.2 (0 : Int32).toNatClampNeg).toInt64, .long (0 : Int64), .long (1000 : Int64)]) (rest := []) ⟨hx, hb, hml, hown, hts⟩ (tX10_in l dC dI N ((q192.2.2 (0 : Int32).toNatClampNeg).toInt64) ((0 : Int64)) ((1000 : Int64)) q209 hc209) (va_cwS 3 hts gX10_item_X10_in rfl rfl rfl (by decide +kernel) ⟨Nat.le_of_ble_eq_true rfl, Nat.le_of_ble_eq_true rfl⟩) (wz_pSr (hP.sub (ws' := []) [] rfl) (hK.sub (tys' := []) [] rfl)) rfl rfl hl.1 rfl (lv_room (Nat.le_of_ble_eq_true rfl)) dX10_item_209 ⟨Nat.zero_le _, Nat.zero_le _⟩) (fun hz209 => ?_)
                                          refine lv_if_eq (tgt := 219) hx hb dX10_item_212 (by decide) (fun cc => ?_) (fun cc => ?_)
                                          · have hrun := oi_t hrun cc
                                            refine lv_iconst (v := (0 : Int32)) hx hb dX10_item_219 (by decide) ?_
                                            cases hrun
                                            have hP9 : va_P (dC, dI) vwCl [(h0, .inr (10, [.int v0_length, .ref h2, g0_itemMany, g0_items, g0_balls, g0_outs, g0_sightMany, g0_sights, g0_keptMany, g0_cameras, g0_callMany, g0_calls, g0_shares, g0_rights, g0_caseMany, g0_cases, .int q192.2.1, .ref h1, g0_xs, g0_ys, g0_zs, g0_us, g0_vs, g0_ws, g0_touchTick, g0_touchHalf, g0_powers, g0_worths])), (h1, .inl (k1, 3, .inl q192.2.2)), (h2, .inl (k2, 200, .inl c2))] H := hP
                                            have hD9 : va_D A [(h0, .inr (10, [.int v0_length, .ref h2, g0_itemMany, g0_items, g0_balls, g0_outs, g0_sightMany, g0_sights, g0_keptMany, g0_cameras, g0_callMany, g0_calls, g0_shares, g0_rights, g0_caseMany, g0_cases, .int q192.2.1, .ref h1, g0_xs, g0_ys, g0_zs, g0_us, g0_vs, g0_ws, g0_touchTick, g0_touchHalf, g0_powers, g0_worths])), (h1, .inl (k1, 3, .inl q192.2.2)), (h2, .inl (k2, 200, .inl c2))] := hD
                                            exact W.zret hx hb hr (by rfl) (fun t ht hW => ⟨⟨_, (), rfl, ⟨rfl, (by rfl)⟩, by rw [ht]; exact hP9, va_K.moved hW.alike hK, hD9⟩, hS.F ht⟩) hS.2.2 dX10_item_220
                                          · have hrun := oi_f hrun cc
                                            refine lv_iconst (v := (1 : Int32)) hx hb dX10_item_215 (by decide) ?_
                                            refine lv_goto (tgt := 220) hx hb dX10_item_216 (by decide) ?_
                                            cases hrun
                                            have hP9 : va_P (dC, dI) vwCl [(h0, .inr (10, [.int v0_length, .ref h2, g0_itemMany, g0_items, g0_balls, g0_outs, g0_sightMany, g0_sights, g0_keptMany, g0_cameras, g0_callMany, g0_calls, g0_shares, g0_rights, g0_caseMany, g0_cases, .int q192.2.1, .ref h1, g0_xs, g0_ys, g0_zs, g0_us, g0_vs, g0_ws, g0_touchTick, g0_touchHalf, g0_powers, g0_worths])), (h1, .inl (k1, 3, .inl q192.2.2)), (h2, .inl (k2, 200, .inl c2))] H := hP
                                            have hD9 : va_D A [(h0, .inr (10, [.int v0_length, .ref h2, g0_itemMany, g0_items, g0_balls, g0_outs, g0_sightMany, g0_sights, g0_keptMany, g0_cameras, g0_callMany, g0_calls, g0_shares, g0_rights, g0_caseMany, g0_cases, .int q192.2.1, .ref h1, g0_xs, g0_ys, g0_zs, g0_us, g0_vs, g0_ws, g0_touchTick, g0_touchHalf, g0_powers, g0_worths])), (h1, .inl (k1, 3, .inl q192.2.2)), (h2, .inl (k2, 200, .inl c2))] := hD
                                            exact W.zret hx hb hr (by rfl) (fun t ht hW => ⟨⟨_, (), rfl, ⟨rfl, (by rfl)⟩, by rw [ht]; exact hP9, va_K.moved hW.alike hK, hD9⟩, hS.F ht⟩) hS.2.2 dX10_item_220
                                      · have hrun := oi_f hrun cs114
                                        by_cases cs115 : q5 = (115 : Int32)
                                        · have hrun := oi_t hrun cs115
                                          refine lv_tableIn (tgt := 292) hx hb dX10_item_34 (by rw [cs115]; decide) (by rw [cs115]; decide) (by rw [cs115]; rfl) (by decide) ?_
                                          refine lv_iconst (v := (0 : Int32)) hx hb dX10_item_292 (by decide) ?_
                                          cases hrun
                                          have hP9 : va_P (dC, dI) vwCl [(h0, .inr (10, [.int v0_length, .ref h2, g0_itemMany, g0_items, g0_balls, g0_outs, g0_sightMany, g0_sights, g0_keptMany, g0_cameras, g0_callMany, g0_calls, g0_shares, g0_rights, g0_caseMany, g0_cases, .int (v0_place + (1 : Int32)), .ref h1, g0_xs, g0_ys, g0_zs, g0_us, g0_vs, g0_ws, g0_touchTick, g0_touchHalf, g0_powers, g0_worths])), (h1, .inl (k1, 3, .inl (upd (upd c1 (1 : Int32).toNatClampNeg (0 : Int32)) (2 : Int32).toNatClampNeg (0 : Int32)))), (h2, .inl (k2, 200, .inl c2))] H := hP
                                          have hD9 : va_D A [(h0, .inr (10, [.int v0_length, .ref h2, g0_itemMany, g0_items, g0_balls, g0_outs, g0_sightMany, g0_sights, g0_keptMany, g0_cameras, g0_callMany, g0_calls, g0_shares, g0_rights, g0_caseMany, g0_cases, .int (v0_place + (1 : Int32)), .ref h1, g0_xs, g0_ys, g0_zs, g0_us, g0_vs, g0_ws, g0_touchTick, g0_touchHalf, g0_powers, g0_worths])), (h1, .inl (k1, 3, .inl (upd (upd c1 (1 : Int32).toNatClampNeg (0 : Int32)) (2 : Int32).toNatClampNeg (0 : Int32)))), (h2, .inl (k2, 200, .inl c2))] := hD
                                          exact W.zret hx hb hr (by rfl) (fun t ht hW => ⟨⟨_, (), rfl, ⟨rfl, (by rfl)⟩, by rw [ht]; exact hP9, va_K.moved hW.alike hK, hD9⟩, hS.F ht⟩) hS.2.2 dX10_item_293
                                        · have hrun := oi_f hrun cs115
                                          by_cases cs116 : q5 = (116 : Int32)
                                          · have hrun := oi_t hrun cs116
                                            refine lv_tableIn (tgt := 221) hx hb dX10_item_34 (by rw [cs116]; decide) (by rw [cs116]; decide) (by rw [cs116]; rfl) (by decide) ?_
                                            refine lv_aload_n hx hb dX10_item_221 rfl (lv_at hl 1 rfl) ?_
                                            refine lv_iconst (v := (1 : Int32)) hx hb dX10_item_222 (by decide) ?_
                                            obtain ⟨q223, hc223, hrun⟩ := ob_e hrun
                                            refine wz_cqz (WC := [(h0, .inr (10, [.int v0_length, .ref h2, g0_itemMany, g0_items, g0_balls, g0_outs, g0_sightMany, g0_sights, g0_keptMany, g0_cameras, g0_callMany, g0_calls, g0_shares, g0_rights, g0_caseMany, g0_cases, .int (v0_place + (1 : Int32)), .ref h1, g0_xs, g0_ys, g0_zs, g0_us, g0_vs, g0_ws, g0_touchTick, g0_touchHalf, g0_powers, g0_worths])), (h1, .inl (k1, 3, .inl (upd (upd c1 (1 : Int32).toNatClampNeg (0 : Int32)) (2 : Int32).toNatClampNeg (0 : Int32)))), (h2, .inl (k2, 200, .inl c2))]) (WR := []) (W1 := [(h0, .inr (10, [.int v0_length, .ref h2, g0_itemMany, g0_items, g0_balls, g0_outs, g0_sightMany, g0_sights, g0_keptMany, g0_cameras, g0_callMany, g0_calls, g0_shares, g0_rights, g0_caseMany, g0_cases, .int q223.2.1, .ref h1, g0_xs, g0_ys, g0_zs, g0_us, g0_vs, g0_ws, g0_touchTick, g0_touchHalf, g0_powers, g0_worths])), (h1, .inl (k1, 3, .inl q223.2.2)), (h2, .inl (k2, 200, .inl c2))]) (va_runV (As := [.int (1 : Int32)]) (rest := []) ⟨hx, hb, hml, hown, hts⟩ (tX10_figures l dC dI H.size h0 h1 h2 k1 k2 (g0_itemMany) (g0_items) (g0_balls) (g0_outs) (g0_sightMany) (g0_sights) (g0_keptMany) (g0_cameras) (g0_callMany) (g0_calls) (g0_shares) (g0_rights) (g0_caseMany) (g0_cases) (g0_xs) (g0_ys) (g0_zs) (g0_us) (g0_vs) (g0_ws) (g0_touchTick) (g0_touchHalf) (g0_powers) (g0_worths) N ((1 : Int32)) v0_length ((v0_place + (1 : Int32))) ((upd (upd c1 (1 : Int32).toNatClampNeg (0 : Int32)) (2 : Int32).toNatClampNeg (0 : Int32))) c2 q223 hc223) (cwV 1 hts gX10_item_X10_figures rfl rfl rfl (by decide +kernel) ⟨Nat.le_of_ble_eq_true rfl, Nat.le_of_ble_eq_true rfl⟩) (wz_pVw (hP.sub (ws' := [(h0, .inr (10, [.int v0_length, .ref h2, g0_itemMany, g0_items, g0_balls, g0_outs, g0_sightMany, g0_sights, g0_keptMany, g0_cameras, g0_callMany, g0_calls, g0_shares, g0_rights, g0_caseMany, g0_cases, .int (v0_place + (1 : Int32)), .ref h1, g0_xs, g0_ys, g0_zs, g0_us, g0_vs, g0_ws, g0_touchTick, g0_touchHalf, g0_powers, g0_worths])), (h1, .inl (k1, 3, .inl (upd (upd c1 (1 : Int32).toNatClampNeg (0 : Int32)) (2 : Int32).toNatClampNeg (0 : Int32)))), (h2, .inl (k2, 200, .inl c2))]) [0, 1, 2] rfl) (hK.sub (tys' := [(k1, .int), (k2, .int)]) [0, 1] rfl) (hD.sub (ws' := [(h0, .inr (10, [.int v0_length, .ref h2, g0_itemMany, g0_items, g0_balls, g0_outs, g0_sightMany, g0_sights, g0_keptMany, g0_cameras, g0_callMany, g0_calls, g0_shares, g0_rights, g0_caseMany, g0_cases, .int (v0_place + (1 : Int32)), .ref h1, g0_xs, g0_ys, g0_zs, g0_us, g0_vs, g0_ws, g0_touchTick, g0_touchHalf, g0_powers, g0_worths])), (h1, .inl (k1, 3, .inl (upd (upd c1 (1 : Int32).toNatClampNeg (0 : Int32)) (2 : Int32).toNatClampNeg (0 : Int32)))), (h2, .inl (k2, 200, .inl c2))]) [0, 1, 2] (by decide) rfl) (va_recv hK hP (ci := 10) (q0 := 0) rfl rfl)) rfl rfl hl.1 rfl (lv_room (Nat.le_of_ble_eq_true rfl)) dX10_item_223 ⟨Nat.zero_le _, Nat.zero_le _⟩) hP hD hS hA [0, 1, 2] [] rfl rfl (by decide) (by decide) (fun H locs hP hD hS hz223 => ?_)
                                            have hP : va_P (dC, dI) vwCl [(h0, .inr (10, [.int v0_length, .ref h2, g0_itemMany, g0_items, g0_balls, g0_outs, g0_sightMany, g0_sights, g0_keptMany, g0_cameras, g0_callMany, g0_calls, g0_shares, g0_rights, g0_caseMany, g0_cases, .int q223.2.1, .ref h1, g0_xs, g0_ys, g0_zs, g0_us, g0_vs, g0_ws, g0_touchTick, g0_touchHalf, g0_powers, g0_worths])), (h1, .inl (k1, 3, .inl q223.2.2)), (h2, .inl (k2, 200, .inl c2))] H := hP
                                            have hD : va_D A [(h0, .inr (10, [.int v0_length, .ref h2, g0_itemMany, g0_items, g0_balls, g0_outs, g0_sightMany, g0_sights, g0_keptMany, g0_cameras, g0_callMany, g0_calls, g0_shares, g0_rights, g0_caseMany, g0_cases, .int q223.2.1, .ref h1, g0_xs, g0_ys, g0_zs, g0_us, g0_vs, g0_ws, g0_touchTick, g0_touchHalf, g0_powers, g0_worths])), (h1, .inl (k1, 3, .inl q223.2.2)), (h2, .inl (k2, 200, .inl c2))] := hD
                                            refine lv_if_eq (tgt := 252) hx hb dX10_item_226 (by decide) (fun cc => ?_) (fun cc => ?_)
                                            · have hrun := oi_t hrun cc
                                              refine lv_iconst (v := (0 : Int32)) hx hb dX10_item_252 (by decide) ?_
                                              cases hrun
                                              have hP9 : va_P (dC, dI) vwCl [(h0, .inr (10, [.int v0_length, .ref h2, g0_itemMany, g0_items, g0_balls, g0_outs, g0_sightMany, g0_sights, g0_keptMany, g0_cameras, g0_callMany, g0_calls, g0_shares, g0_rights, g0_caseMany, g0_cases, .int q223.2.1, .ref h1, g0_xs, g0_ys, g0_zs, g0_us, g0_vs, g0_ws, g0_touchTick, g0_touchHalf, g0_powers, g0_worths])), (h1, .inl (k1, 3, .inl q223.2.2)), (h2, .inl (k2, 200, .inl c2))] H := hP
                                              have hD9 : va_D A [(h0, .inr (10, [.int v0_length, .ref h2, g0_itemMany, g0_items, g0_balls, g0_outs, g0_sightMany, g0_sights, g0_keptMany, g0_cameras, g0_callMany, g0_calls, g0_shares, g0_rights, g0_caseMany, g0_cases, .int q223.2.1, .ref h1, g0_xs, g0_ys, g0_zs, g0_us, g0_vs, g0_ws, g0_touchTick, g0_touchHalf, g0_powers, g0_worths])), (h1, .inl (k1, 3, .inl q223.2.2)), (h2, .inl (k2, 200, .inl c2))] := hD
                                              exact W.zret hx hb hr (by rfl) (fun t ht hW => ⟨⟨_, (), rfl, ⟨rfl, (by rfl)⟩, by rw [ht]; exact hP9, va_K.moved hW.alike hK, hD9⟩, hS.F ht⟩) hS.2.2 dX10_item_253
                                            · have hrun := oi_f hrun cc
                                              refine lv_aload_n hx hb dX10_item_229 rfl (lv_at hl 1 rfl) ?_
                                              refine va_get (D := (dC, dI)) (ci := 10) (v := .ref h1) (C := RX10) (T := TX10) (N := 28) hx hb hts hinX10 hown hK hP 0 rfl rfl 17 (by decide) (hts (.fieldLink RX10 46 "WasItOutModel" "numbers" "[I") (by decide +kernel)) (fun _ h9 => h9) rfl dX10_item_230 ?_
                                              refine lv_iconst (v := (0 : Int32)) hx hb dX10_item_233 (by decide) ?_
                                              have hi : vp_in (0 : Int32) 3 := ixk (by decide)
                                              refine va_iald hx hb hK hP 1 0 rfl rfl hi dX10_item_234 ?_
                                              refine lv_i2l (v := (q223.2.2 (0 : Int32).toNatClampNeg).toInt64) hx hb dX10_item_235 rfl ?_
                                              refine lv_ldc2 (v := (51 : Int64)) hx hb hown (hts (.constantLong RX10 109 (51 : Int64)) (by decide +kernel)) dX10_item_236 ?_
                                              refine lv_ldc2 (v := (100 : Int64)) hx hb hown (hts (.constantLong RX10 105 (100 : Int64)) (by decide +kernel)) dX10_item_239 ?_
                                              obtain ⟨q242, hc242, hrun⟩ := ob_e hrun
                                              refine wz_csz (va_runS (As := [.long (q223.2.2 (0 : Int32).toNatClampNeg).toInt64, .long (51 : Int64), .long (100 : Int64)]) (rest := []) ⟨hx, hb, hml, hown, hts⟩ (tX10_in l dC dI N ((q223.2.2 (0 : Int32).toNatClampNeg).toInt64) ((51 : Int64)) ((100 : Int64)) q242 hc242) (va_cwS 3 hts gX10_item_X10_in rfl rfl rfl (by decide +kernel) ⟨Nat.le_of_ble_eq_true rfl, Nat.le_of_ble_eq_true rfl⟩) (wz_pSr (hP.sub (ws' := []) [] rfl) (hK.sub (tys' := []) [] rfl)) rfl rfl hl.1 rfl (lv_room (Nat.le_of_ble_eq_true rfl)) dX10_item_242 ⟨Nat.zero_le _, Nat.zero_le _⟩) (fun hz242 => ?_)
                                              refine lv_if_eq (tgt := 252) hx hb dX10_item_245 (by decide) (fun cc => ?_) (fun cc => ?_)
                                              · have hrun := oi_t hrun cc
                                                refine lv_iconst (v := (0 : Int32)) hx hb dX10_item_252 (by decide) ?_
                                                cases hrun
                                                have hP9 : va_P (dC, dI) vwCl [(h0, .inr (10, [.int v0_length, .ref h2, g0_itemMany, g0_items, g0_balls, g0_outs, g0_sightMany, g0_sights, g0_keptMany, g0_cameras, g0_callMany, g0_calls, g0_shares, g0_rights, g0_caseMany, g0_cases, .int q223.2.1, .ref h1, g0_xs, g0_ys, g0_zs, g0_us, g0_vs, g0_ws, g0_touchTick, g0_touchHalf, g0_powers, g0_worths])), (h1, .inl (k1, 3, .inl q223.2.2)), (h2, .inl (k2, 200, .inl c2))] H := hP
                                                have hD9 : va_D A [(h0, .inr (10, [.int v0_length, .ref h2, g0_itemMany, g0_items, g0_balls, g0_outs, g0_sightMany, g0_sights, g0_keptMany, g0_cameras, g0_callMany, g0_calls, g0_shares, g0_rights, g0_caseMany, g0_cases, .int q223.2.1, .ref h1, g0_xs, g0_ys, g0_zs, g0_us, g0_vs, g0_ws, g0_touchTick, g0_touchHalf, g0_powers, g0_worths])), (h1, .inl (k1, 3, .inl q223.2.2)), (h2, .inl (k2, 200, .inl c2))] := hD
                                                exact W.zret hx hb hr (by rfl) (fun t ht hW => ⟨⟨_, (), rfl, ⟨rfl, (by rfl)⟩, by rw [ht]; exact hP9, va_K.moved hW.alike hK, hD9⟩, hS.F ht⟩) hS.2.2 dX10_item_253
                                              · have hrun := oi_f hrun cc
                                                refine lv_iconst (v := (1 : Int32)) hx hb dX10_item_248 (by decide) ?_
                                                refine lv_goto (tgt := 253) hx hb dX10_item_249 (by decide) ?_
                                                cases hrun
                                                have hP9 : va_P (dC, dI) vwCl [(h0, .inr (10, [.int v0_length, .ref h2, g0_itemMany, g0_items, g0_balls, g0_outs, g0_sightMany, g0_sights, g0_keptMany, g0_cameras, g0_callMany, g0_calls, g0_shares, g0_rights, g0_caseMany, g0_cases, .int q223.2.1, .ref h1, g0_xs, g0_ys, g0_zs, g0_us, g0_vs, g0_ws, g0_touchTick, g0_touchHalf, g0_powers, g0_worths])), (h1, .inl (k1, 3, .inl q223.2.2)), (h2, .inl (k2, 200, .inl c2))] H := hP
                                                have hD9 : va_D A [(h0, .inr (10, [.int v0_length, .ref h2, g0_itemMany, g0_items, g0_balls, g0_outs, g0_sightMany, g0_sights, g0_keptMany, g0_cameras, g0_callMany, g0_calls, g0_shares, g0_rights, g0_caseMany, g0_cases, .int q223.2.1, .ref h1, g0_xs, g0_ys, g0_zs, g0_us, g0_vs, g0_ws, g0_touchTick, g0_touchHalf, g0_powers, g0_worths])), (h1, .inl (k1, 3, .inl q223.2.2)), (h2, .inl (k2, 200, .inl c2))] := hD
                                                exact W.zret hx hb hr (by rfl) (fun t ht hW => ⟨⟨_, (), rfl, ⟨rfl, (by rfl)⟩, by rw [ht]; exact hP9, va_K.moved hW.alike hK, hD9⟩, hS.F ht⟩) hS.2.2 dX10_item_253
                                          · have hrun := oi_f hrun cs116
                                            refine lv_tableOut (tgt := 292) hx hb dX10_item_34 (sw_97_20 cs97 cs98 cs99 cs100 cs101 cs102 cs103 cs104 cs105 cs106 cs107 cs108 cs109 cs110 cs111 cs112 cs113 cs114 cs115 cs116) (by decide) ?_
                                            refine lv_iconst (v := (0 : Int32)) hx hb dX10_item_292 (by decide) ?_
                                            cases hrun
                                            have hP9 : va_P (dC, dI) vwCl [(h0, .inr (10, [.int v0_length, .ref h2, g0_itemMany, g0_items, g0_balls, g0_outs, g0_sightMany, g0_sights, g0_keptMany, g0_cameras, g0_callMany, g0_calls, g0_shares, g0_rights, g0_caseMany, g0_cases, .int (v0_place + (1 : Int32)), .ref h1, g0_xs, g0_ys, g0_zs, g0_us, g0_vs, g0_ws, g0_touchTick, g0_touchHalf, g0_powers, g0_worths])), (h1, .inl (k1, 3, .inl (upd (upd c1 (1 : Int32).toNatClampNeg (0 : Int32)) (2 : Int32).toNatClampNeg (0 : Int32)))), (h2, .inl (k2, 200, .inl c2))] H := hP
                                            have hD9 : va_D A [(h0, .inr (10, [.int v0_length, .ref h2, g0_itemMany, g0_items, g0_balls, g0_outs, g0_sightMany, g0_sights, g0_keptMany, g0_cameras, g0_callMany, g0_calls, g0_shares, g0_rights, g0_caseMany, g0_cases, .int (v0_place + (1 : Int32)), .ref h1, g0_xs, g0_ys, g0_zs, g0_us, g0_vs, g0_ws, g0_touchTick, g0_touchHalf, g0_powers, g0_worths])), (h1, .inl (k1, 3, .inl (upd (upd c1 (1 : Int32).toNatClampNeg (0 : Int32)) (2 : Int32).toNatClampNeg (0 : Int32)))), (h2, .inl (k2, 200, .inl c2))] := hD
                                            exact W.zret hx hb hr (by rfl) (fun t ht hW => ⟨⟨_, (), rfl, ⟨rfl, (by rfl)⟩, by rw [ht]; exact hP9, va_K.moved hW.alike hK, hD9⟩, hS.F ht⟩) hS.2.2 dX10_item_293
  rw [hHe, hLe] at key
  exact key
set_option maxHeartbeats 4000000 in
set_option maxRecDepth 100000 in
theorem tX10_readAll (l : Launch) (dC : Nat → ClassId) (dI : Nat → Nat → Nat) (sz : Nat) (h0 h1 h2 h3 h4 : Nat) (k1 k2 k3 k4 : ClassId) (g0_balls g0_outs g0_sightMany g0_sights g0_keptMany g0_cameras g0_callMany g0_calls g0_shares g0_rights g0_caseMany g0_cases g0_xs g0_ys g0_zs g0_us g0_vs g0_ws g0_touchTick g0_touchHalf g0_powers g0_worths : Value) (N : Nat)  (v0_length : Int32) (v0_place : Int32) (c1 : Nat → Int32) (c2 : Nat → Int32) (c3 : Nat → Int32) (c4 : Nat → Int32) (ru : Int32 × (Int32) × (Nat → Int32) × (Nat → Int32) × (Nat → Int32)) (hm : fX10_readAll N v0_length v0_place c1 c2 c3 c4 = some ru) : Met l yX10_readAll wsX10_readAll ({ frames := 3, cells := 0, slots := 0, locals := 71 } : Room) (va_Pc [.ref h0] (fun U => U.heap.size = sz ∧ va_P (dC, dI) vwCl [(h0, .inr (10, [.int v0_length, .ref h4, .ref h1, .ref h2, g0_balls, g0_outs, g0_sightMany, g0_sights, g0_keptMany, g0_cameras, g0_callMany, g0_calls, g0_shares, g0_rights, g0_caseMany, g0_cases, .int v0_place, .ref h3, g0_xs, g0_ys, g0_zs, g0_us, g0_vs, g0_ws, g0_touchTick, g0_touchHalf, g0_powers, g0_worths])), (h1, .inl (k1, 2, .inl c1)), (h2, .inl (k2, 536, .inl c2)), (h3, .inl (k3, 3, .inl c3)), (h4, .inl (k4, 200, .inl c4))] U.heap ∧ va_K (dC, dI) vwCl [(k1, .int), (k2, .int), (k3, .int), (k4, .int)] U ∧ va_D (fun _ => True) [(h0, .inr (10, [.int v0_length, .ref h4, .ref h1, .ref h2, g0_balls, g0_outs, g0_sightMany, g0_sights, g0_keptMany, g0_cameras, g0_callMany, g0_calls, g0_shares, g0_rights, g0_caseMany, g0_cases, .int v0_place, .ref h3, g0_xs, g0_ys, g0_zs, g0_us, g0_vs, g0_ws, g0_touchTick, g0_touchHalf, g0_powers, g0_worths])), (h1, .inl (k1, 2, .inl c1)), (h2, .inl (k2, 536, .inl c2)), (h3, .inl (k3, 3, .inl c3)), (h4, .inl (k4, 200, .inl c4))])) (va_Qi (fun r (_ : Unit) => r = ru.1) (fun (_ : Unit) t => va_P (dC, dI) vwCl [(h0, .inr (10, [.int v0_length, .ref h4, .ref h1, .ref h2, g0_balls, g0_outs, g0_sightMany, g0_sights, g0_keptMany, g0_cameras, g0_callMany, g0_calls, g0_shares, g0_rights, g0_caseMany, g0_cases, .int ru.2.1, .ref h3, g0_xs, g0_ys, g0_zs, g0_us, g0_vs, g0_ws, g0_touchTick, g0_touchHalf, g0_powers, g0_worths])), (h1, .inl (k1, 2, .inl ru.2.2.1)), (h2, .inl (k2, 536, .inl ru.2.2.2.1)), (h3, .inl (k3, 3, .inl ru.2.2.2.2)), (h4, .inl (k4, 200, .inl c4))] t.heap ∧ va_K (dC, dI) vwCl [(k1, .int), (k2, .int), (k3, .int), (k4, .int)] t ∧ va_D (va_A [(h0, .inr (10, [.int v0_length, .ref h4, .ref h1, .ref h2, g0_balls, g0_outs, g0_sightMany, g0_sights, g0_keptMany, g0_cameras, g0_callMany, g0_calls, g0_shares, g0_rights, g0_caseMany, g0_cases, .int v0_place, .ref h3, g0_xs, g0_ys, g0_zs, g0_us, g0_vs, g0_ws, g0_touchTick, g0_touchHalf, g0_powers, g0_worths])), (h1, .inl (k1, 2, .inl c1)), (h2, .inl (k2, 536, .inl c2)), (h3, .inl (k3, 3, .inl c3)), (h4, .inl (k4, 200, .inl c4))] sz) [(h0, .inr (10, [.int v0_length, .ref h4, .ref h1, .ref h2, g0_balls, g0_outs, g0_sightMany, g0_sights, g0_keptMany, g0_cameras, g0_callMany, g0_calls, g0_shares, g0_rights, g0_caseMany, g0_cases, .int ru.2.1, .ref h3, g0_xs, g0_ys, g0_zs, g0_us, g0_vs, g0_ws, g0_touchTick, g0_touchHalf, g0_powers, g0_worths])), (h1, .inl (k1, 2, .inl ru.2.2.1)), (h2, .inl (k2, 536, .inl ru.2.2.2.1)), (h3, .inl (k3, 3, .inl ru.2.2.2.2)), (h4, .inl (k4, 200, .inl c4))]) (va_A [(h0, .inr (10, [.int v0_length, .ref h4, .ref h1, .ref h2, g0_balls, g0_outs, g0_sightMany, g0_sights, g0_keptMany, g0_cameras, g0_callMany, g0_calls, g0_shares, g0_rights, g0_caseMany, g0_cases, .int v0_place, .ref h3, g0_xs, g0_ys, g0_zs, g0_us, g0_vs, g0_ws, g0_touchTick, g0_touchHalf, g0_powers, g0_worths])), (h1, .inl (k1, 2, .inl c1)), (h2, .inl (k2, 536, .inl c2)), (h3, .inl (k3, 3, .inl c3)), (h4, .inl (k4, 200, .inl c4))] sz)) 0 0 (va_A [(h0, .inr (10, [.int v0_length, .ref h4, .ref h1, .ref h2, g0_balls, g0_outs, g0_sightMany, g0_sights, g0_keptMany, g0_cameras, g0_callMany, g0_calls, g0_shares, g0_rights, g0_caseMany, g0_cases, .int v0_place, .ref h3, g0_xs, g0_ys, g0_zs, g0_us, g0_vs, g0_ws, g0_touchTick, g0_touchHalf, g0_powers, g0_worths])), (h1, .inl (k1, 2, .inl c1)), (h2, .inl (k2, 536, .inl c2)), (h3, .inl (k3, 3, .inl c3)), (h4, .inl (k4, 200, .inl c4))] sz) := by
  refine Met.ofW (cc := cX10_readAll) (maxL := 4) (ret := (some .int)) (by decide) rfl ?_
  intro p e s m args below meth c s₁ B hml hv
  obtain ⟨rfl, hsz, hP, hK, hD0⟩ := hv
  have hx := B.exec
  have hb := B.bytes
  have hr := B.returns
  have hts := atoms_spec (ws := wsX10_readAll) B.pre
  have hown : s.vm.findClass RX10 = some m.cls := findClass_of_methodNamed B.named
  have hlocks := B.notSynchronized
  subst hsz
  have hD := hD0.self (sz := s.heap.size)
  generalize hAe : va_A [(h0, .inr (10, [.int v0_length, .ref h4, .ref h1, .ref h2, g0_balls, g0_outs, g0_sightMany, g0_sights, g0_keptMany, g0_cameras, g0_callMany, g0_calls, g0_shares, g0_rights, g0_caseMany, g0_cases, .int v0_place, .ref h3, g0_xs, g0_ys, g0_zs, g0_us, g0_vs, g0_ws, g0_touchTick, g0_touchHalf, g0_powers, g0_worths])), (h1, .inl (k1, 2, .inl c1)), (h2, .inl (k2, 536, .inl c2)), (h3, .inl (k3, 3, .inl c3)), (h4, .inl (k4, 200, .inl c4))] s.heap.size = A at hD ⊢
  have hA : ∀ q : Nat, s.heap.size ≤ q → A q := fun q h => by rw [← hAe]; exact Or.inr h
  have hS : va_S A s.heap s.heap [] := va_S.rf
  have hinX10 : ∀ w ∈ wsX100, w ∈ wsX10_readAll := by decide +kernel
  have hl := lv_entry ([.ref h0]) (n := 4) (Nat.le_of_ble_eq_true rfl)
  rw [lg_entry_eq]
  generalize (lg_sl ([.ref h0]) ++ List.replicate (4 - (lg_sl ([.ref h0])).length) Slot.unset).toArray = ls at hl ⊢
  have hl : lv_has ls 4 [(0, .ref h0)] := hl
  have hrun := hm
  rw [fX10_readAll] at hrun
  obtain ⟨H, hHe⟩ : ∃ H, H = s.heap := ⟨_, rfl⟩
  obtain ⟨locs, hLe⟩ : ∃ locs : List Loc, locs = [] := ⟨_, rfl⟩
  rw [← hHe] at hP
  have hS : va_S A s.heap H locs := by rw [hHe, hLe]; exact hS
  have key : W p l e (headSpec wsX10_readAll ({ frames := 3, cells := 0, slots := 0, locals := 71 } : Room)).room s m ([.ref h0] : List Value).toArray below meth c H locs 0 0 (MQ below (va_Qi (fun r (_ : Unit) => r = ru.1) (fun (_ : Unit) t => va_P (dC, dI) vwCl [(h0, .inr (10, [.int v0_length, .ref h4, .ref h1, .ref h2, g0_balls, g0_outs, g0_sightMany, g0_sights, g0_keptMany, g0_cameras, g0_callMany, g0_calls, g0_shares, g0_rights, g0_caseMany, g0_cases, .int ru.2.1, .ref h3, g0_xs, g0_ys, g0_zs, g0_us, g0_vs, g0_ws, g0_touchTick, g0_touchHalf, g0_powers, g0_worths])), (h1, .inl (k1, 2, .inl ru.2.2.1)), (h2, .inl (k2, 536, .inl ru.2.2.2.1)), (h3, .inl (k3, 3, .inl ru.2.2.2.2)), (h4, .inl (k4, 200, .inl c4))] t.heap ∧ va_K (dC, dI) vwCl [(k1, .int), (k2, .int), (k3, .int), (k4, .int)] t ∧ va_D A [(h0, .inr (10, [.int v0_length, .ref h4, .ref h1, .ref h2, g0_balls, g0_outs, g0_sightMany, g0_sights, g0_keptMany, g0_cameras, g0_callMany, g0_calls, g0_shares, g0_rights, g0_caseMany, g0_cases, .int ru.2.1, .ref h3, g0_xs, g0_ys, g0_zs, g0_us, g0_vs, g0_ws, g0_touchTick, g0_touchHalf, g0_powers, g0_worths])), (h1, .inl (k1, 2, .inl ru.2.2.1)), (h2, .inl (k2, 536, .inl ru.2.2.2.1)), (h3, .inl (k3, 3, .inl ru.2.2.2.2)), (h4, .inl (k4, 200, .inl c4))]) A) ([.ref h0] : List Value).toArray s 0 0 A) (F0 m 0 ls []) := by
    clear hHe hLe
    refine lv_aload_n hx hb dX10_readAll_0 rfl (lv_at hl 0 rfl) ?_
    refine va_get (D := (dC, dI)) (ci := 10) (v := .ref h1) (C := RX10) (T := TX10) (N := 28) hx hb hts hinX10 hown hK hP 0 rfl rfl 2 (by decide) (hts (.fieldLink RX10 13 "WasItOutModel" "itemMany" "[I") (by decide +kernel)) (fun _ h9 => h9) rfl dX10_readAll_1 ?_
    refine lv_iconst (v := (1 : Int32)) hx hb dX10_readAll_4 (by decide) ?_
    refine lv_iconst (v := (0 : Int32)) hx hb dX10_readAll_5 (by decide) ?_
    have hi : vp_in (1 : Int32) 2 := ixk (by decide)
    refine va_iast hx hb hK hP hD hS 1 0 rfl rfl hi dX10_readAll_6 (fun H locs hP hD hS => ?_)
    have hP : va_P (dC, dI) vwCl [(h0, .inr (10, [.int v0_length, .ref h4, .ref h1, .ref h2, g0_balls, g0_outs, g0_sightMany, g0_sights, g0_keptMany, g0_cameras, g0_callMany, g0_calls, g0_shares, g0_rights, g0_caseMany, g0_cases, .int v0_place, .ref h3, g0_xs, g0_ys, g0_zs, g0_us, g0_vs, g0_ws, g0_touchTick, g0_touchHalf, g0_powers, g0_worths])), (h1, .inl (k1, 2, .inl (upd c1 (1 : Int32).toNatClampNeg (0 : Int32)))), (h2, .inl (k2, 536, .inl c2)), (h3, .inl (k3, 3, .inl c3)), (h4, .inl (k4, 200, .inl c4))] H := hP
    have hD : va_D A [(h0, .inr (10, [.int v0_length, .ref h4, .ref h1, .ref h2, g0_balls, g0_outs, g0_sightMany, g0_sights, g0_keptMany, g0_cameras, g0_callMany, g0_calls, g0_shares, g0_rights, g0_caseMany, g0_cases, .int v0_place, .ref h3, g0_xs, g0_ys, g0_zs, g0_us, g0_vs, g0_ws, g0_touchTick, g0_touchHalf, g0_powers, g0_worths])), (h1, .inl (k1, 2, .inl (upd c1 (1 : Int32).toNatClampNeg (0 : Int32)))), (h2, .inl (k2, 536, .inl c2)), (h3, .inl (k3, 3, .inl c3)), (h4, .inl (k4, 200, .inl c4))] := hD
    refine lv_aload_n hx hb dX10_readAll_7 rfl (lv_at hl 0 rfl) ?_
    refine lv_iconst (v := (0 : Int32)) hx hb dX10_readAll_8 (by decide) ?_
    refine va_put (D := (dC, dI)) (ci := 10) (v := .int (0 : Int32)) (ty := .int) (C := RX10) (T := TX10) (N := 28) hx hb hts hinX10 tyX10 tyX10_ok nmX10 hown hK hP hD hS 0 rfl rfl 16 (by decide) (hts (.fieldLink RX10 86 "WasItOutModel" "place" "I") (by decide +kernel)) (fun _ h9 => h9) rfl (by decide +kernel) rfl rfl (Nat.le_of_ble_eq_true rfl) dX10_readAll_9 (fun H locs hP hD hS => ?_)
    have hP : va_P (dC, dI) vwCl [(h0, .inr (10, [.int v0_length, .ref h4, .ref h1, .ref h2, g0_balls, g0_outs, g0_sightMany, g0_sights, g0_keptMany, g0_cameras, g0_callMany, g0_calls, g0_shares, g0_rights, g0_caseMany, g0_cases, .int (0 : Int32), .ref h3, g0_xs, g0_ys, g0_zs, g0_us, g0_vs, g0_ws, g0_touchTick, g0_touchHalf, g0_powers, g0_worths])), (h1, .inl (k1, 2, .inl (upd c1 (1 : Int32).toNatClampNeg (0 : Int32)))), (h2, .inl (k2, 536, .inl c2)), (h3, .inl (k3, 3, .inl c3)), (h4, .inl (k4, 200, .inl c4))] H := hP
    have hD : va_D A [(h0, .inr (10, [.int v0_length, .ref h4, .ref h1, .ref h2, g0_balls, g0_outs, g0_sightMany, g0_sights, g0_keptMany, g0_cameras, g0_callMany, g0_calls, g0_shares, g0_rights, g0_caseMany, g0_cases, .int (0 : Int32), .ref h3, g0_xs, g0_ys, g0_zs, g0_us, g0_vs, g0_ws, g0_touchTick, g0_touchHalf, g0_powers, g0_worths])), (h1, .inl (k1, 2, .inl (upd c1 (1 : Int32).toNatClampNeg (0 : Int32)))), (h2, .inl (k2, 536, .inl c2)), (h3, .inl (k3, 3, .inl c3)), (h4, .inl (k4, 200, .inl c4))] := hD
    have L12 : ∀ (n : Nat) (v0_place_12 : Int32) (c1_12 : Nat → Int32) (c2_12 : Nat → Int32) (c3_12 : Nat → Int32) (ls : Array Slot) (H : Heap) (locs : List Loc), fX10_readAll_p12 N v0_length c4 n v0_place_12 c1_12 c2_12 c3_12 = some ru → va_P (dC, dI) vwCl [(h0, .inr (10, [.int v0_length, .ref h4, .ref h1, .ref h2, g0_balls, g0_outs, g0_sightMany, g0_sights, g0_keptMany, g0_cameras, g0_callMany, g0_calls, g0_shares, g0_rights, g0_caseMany, g0_cases, .int v0_place_12, .ref h3, g0_xs, g0_ys, g0_zs, g0_us, g0_vs, g0_ws, g0_touchTick, g0_touchHalf, g0_powers, g0_worths])), (h1, .inl (k1, 2, .inl c1_12)), (h2, .inl (k2, 536, .inl c2_12)), (h3, .inl (k3, 3, .inl c3_12)), (h4, .inl (k4, 200, .inl c4))] H → va_D A [(h0, .inr (10, [.int v0_length, .ref h4, .ref h1, .ref h2, g0_balls, g0_outs, g0_sightMany, g0_sights, g0_keptMany, g0_cameras, g0_callMany, g0_calls, g0_shares, g0_rights, g0_caseMany, g0_cases, .int v0_place_12, .ref h3, g0_xs, g0_ys, g0_zs, g0_us, g0_vs, g0_ws, g0_touchTick, g0_touchHalf, g0_powers, g0_worths])), (h1, .inl (k1, 2, .inl c1_12)), (h2, .inl (k2, 536, .inl c2_12)), (h3, .inl (k3, 3, .inl c3_12)), (h4, .inl (k4, 200, .inl c4))] → va_S A s.heap H locs → lv_has ls 4 [(0, .ref h0)] → W p l e (headSpec wsX10_readAll ({ frames := 3, cells := 0, slots := 0, locals := 71 } : Room)).room s m ([.ref h0] : List Value).toArray below meth c H locs 0 0 (MQ below (va_Qi (fun r (_ : Unit) => r = ru.1) (fun (_ : Unit) t => va_P (dC, dI) vwCl [(h0, .inr (10, [.int v0_length, .ref h4, .ref h1, .ref h2, g0_balls, g0_outs, g0_sightMany, g0_sights, g0_keptMany, g0_cameras, g0_callMany, g0_calls, g0_shares, g0_rights, g0_caseMany, g0_cases, .int ru.2.1, .ref h3, g0_xs, g0_ys, g0_zs, g0_us, g0_vs, g0_ws, g0_touchTick, g0_touchHalf, g0_powers, g0_worths])), (h1, .inl (k1, 2, .inl ru.2.2.1)), (h2, .inl (k2, 536, .inl ru.2.2.2.1)), (h3, .inl (k3, 3, .inl ru.2.2.2.2)), (h4, .inl (k4, 200, .inl c4))] t.heap ∧ va_K (dC, dI) vwCl [(k1, .int), (k2, .int), (k3, .int), (k4, .int)] t ∧ va_D A [(h0, .inr (10, [.int v0_length, .ref h4, .ref h1, .ref h2, g0_balls, g0_outs, g0_sightMany, g0_sights, g0_keptMany, g0_cameras, g0_callMany, g0_calls, g0_shares, g0_rights, g0_caseMany, g0_cases, .int ru.2.1, .ref h3, g0_xs, g0_ys, g0_zs, g0_us, g0_vs, g0_ws, g0_touchTick, g0_touchHalf, g0_powers, g0_worths])), (h1, .inl (k1, 2, .inl ru.2.2.1)), (h2, .inl (k2, 536, .inl ru.2.2.2.1)), (h3, .inl (k3, 3, .inl ru.2.2.2.2)), (h4, .inl (k4, 200, .inl c4))]) A) ([.ref h0] : List Value).toArray s 0 0 A) (F0 m 12 ls []) := by
      intro n
      induction n with
      | zero => intro v0_place_12 c1_12 c2_12 c3_12 ls H locs hrun; rw [fX10_readAll_p12] at hrun; exact on_e hrun
      | succ n ih =>
        intro v0_place_12 c1_12 c2_12 c3_12 ls H locs hrun hP hD hS hl
        rw [fX10_readAll_p12] at hrun
        refine lv_aload_n hx hb dX10_readAll_12 rfl (lv_at hl 0 rfl) ?_
        refine va_get (D := (dC, dI)) (ci := 10) (v := .int v0_place_12) (C := RX10) (T := TX10) (N := 28) hx hb hts hinX10 hown hK hP 0 rfl rfl 16 (by decide) (hts (.fieldLink RX10 86 "WasItOutModel" "place" "I") (by decide +kernel)) (fun _ h9 => h9) rfl dX10_readAll_13 ?_
        refine lv_aload_n hx hb dX10_readAll_16 rfl (lv_at hl 0 rfl) ?_
        refine va_get (D := (dC, dI)) (ci := 10) (v := .int v0_length) (C := RX10) (T := TX10) (N := 28) hx hb hts hinX10 hown hK hP 0 rfl rfl 0 (by decide) (hts (.fieldLink RX10 80 "WasItOutModel" "length" "I") (by decide +kernel)) (fun _ h9 => h9) rfl dX10_readAll_17 ?_
        refine lv_icmp_ge (tgt := 104) hx hb dX10_readAll_20 (by decide) (fun cc => ?_) (fun cc => ?_)
        · have hrun := oi_t hrun cc
          refine lv_bipush (v := (-4 : Int32)) hx hb dX10_readAll_104 (by decide) ?_
          cases hrun
          have hP9 : va_P (dC, dI) vwCl [(h0, .inr (10, [.int v0_length, .ref h4, .ref h1, .ref h2, g0_balls, g0_outs, g0_sightMany, g0_sights, g0_keptMany, g0_cameras, g0_callMany, g0_calls, g0_shares, g0_rights, g0_caseMany, g0_cases, .int v0_place_12, .ref h3, g0_xs, g0_ys, g0_zs, g0_us, g0_vs, g0_ws, g0_touchTick, g0_touchHalf, g0_powers, g0_worths])), (h1, .inl (k1, 2, .inl c1_12)), (h2, .inl (k2, 536, .inl c2_12)), (h3, .inl (k3, 3, .inl c3_12)), (h4, .inl (k4, 200, .inl c4))] H := hP
          have hD9 : va_D A [(h0, .inr (10, [.int v0_length, .ref h4, .ref h1, .ref h2, g0_balls, g0_outs, g0_sightMany, g0_sights, g0_keptMany, g0_cameras, g0_callMany, g0_calls, g0_shares, g0_rights, g0_caseMany, g0_cases, .int v0_place_12, .ref h3, g0_xs, g0_ys, g0_zs, g0_us, g0_vs, g0_ws, g0_touchTick, g0_touchHalf, g0_powers, g0_worths])), (h1, .inl (k1, 2, .inl c1_12)), (h2, .inl (k2, 536, .inl c2_12)), (h3, .inl (k3, 3, .inl c3_12)), (h4, .inl (k4, 200, .inl c4))] := hD
          exact W.iret hx hb hr (fun t ht hW => ⟨⟨_, (), rfl, rfl, by rw [ht]; exact hP9, va_K.moved hW.alike hK, hD9⟩, hS.F ht⟩) hS.2.2 dX10_readAll_106
        · have hrun := oi_f hrun cc
          refine lv_aload_n hx hb dX10_readAll_23 rfl (lv_at hl 0 rfl) ?_
          refine va_get (D := (dC, dI)) (ci := 10) (v := .int v0_place_12) (C := RX10) (T := TX10) (N := 28) hx hb hts hinX10 hown hK hP 0 rfl rfl 16 (by decide) (hts (.fieldLink RX10 86 "WasItOutModel" "place" "I") (by decide +kernel)) (fun _ h9 => h9) rfl dX10_readAll_24 ?_
          refine lv_istore_n (lv' := [(1, .int v0_place_12), (0, .ref h0)]) hx hb dX10_readAll_27 rfl hl (by decide) rfl (fun ls hl => ?_)
          refine lv_aload_n hx hb dX10_readAll_28 rfl (lv_at hl 1 rfl) ?_
          obtain ⟨q29, hc29, hrun⟩ := ob_e hrun
          refine wz_cqz (WC := [(h0, .inr (10, [.int v0_length, .ref h4, .ref h1, .ref h2, g0_balls, g0_outs, g0_sightMany, g0_sights, g0_keptMany, g0_cameras, g0_callMany, g0_calls, g0_shares, g0_rights, g0_caseMany, g0_cases, .int v0_place_12, .ref h3, g0_xs, g0_ys, g0_zs, g0_us, g0_vs, g0_ws, g0_touchTick, g0_touchHalf, g0_powers, g0_worths])), (h3, .inl (k3, 3, .inl c3_12)), (h4, .inl (k4, 200, .inl c4))]) (WR := [(h1, .inl (k1, 2, .inl c1_12)), (h2, .inl (k2, 536, .inl c2_12))]) (W1 := [(h0, .inr (10, [.int v0_length, .ref h4, .ref h1, .ref h2, g0_balls, g0_outs, g0_sightMany, g0_sights, g0_keptMany, g0_cameras, g0_callMany, g0_calls, g0_shares, g0_rights, g0_caseMany, g0_cases, .int q29.2.1, .ref h3, g0_xs, g0_ys, g0_zs, g0_us, g0_vs, g0_ws, g0_touchTick, g0_touchHalf, g0_powers, g0_worths])), (h3, .inl (k3, 3, .inl q29.2.2)), (h4, .inl (k4, 200, .inl c4))]) (va_runV (As := []) (rest := []) ⟨hx, hb, hml, hown, hts⟩ (tX10_item l dC dI H.size h0 h3 h4 k3 k4 (.ref h1) (.ref h2) (g0_balls) (g0_outs) (g0_sightMany) (g0_sights) (g0_keptMany) (g0_cameras) (g0_callMany) (g0_calls) (g0_shares) (g0_rights) (g0_caseMany) (g0_cases) (g0_xs) (g0_ys) (g0_zs) (g0_us) (g0_vs) (g0_ws) (g0_touchTick) (g0_touchHalf) (g0_powers) (g0_worths) N v0_length v0_place_12 c3_12 c4 q29 hc29) (cwV 0 hts gX10_readAll_X10_item rfl rfl rfl (by decide +kernel) ⟨Nat.le_of_ble_eq_true rfl, Nat.le_of_ble_eq_true rfl⟩) (wz_pVw (hP.sub (ws' := [(h0, .inr (10, [.int v0_length, .ref h4, .ref h1, .ref h2, g0_balls, g0_outs, g0_sightMany, g0_sights, g0_keptMany, g0_cameras, g0_callMany, g0_calls, g0_shares, g0_rights, g0_caseMany, g0_cases, .int v0_place_12, .ref h3, g0_xs, g0_ys, g0_zs, g0_us, g0_vs, g0_ws, g0_touchTick, g0_touchHalf, g0_powers, g0_worths])), (h3, .inl (k3, 3, .inl c3_12)), (h4, .inl (k4, 200, .inl c4))]) [0, 3, 4] rfl) (hK.sub (tys' := [(k3, .int), (k4, .int)]) [2, 3] rfl) (hD.sub (ws' := [(h0, .inr (10, [.int v0_length, .ref h4, .ref h1, .ref h2, g0_balls, g0_outs, g0_sightMany, g0_sights, g0_keptMany, g0_cameras, g0_callMany, g0_calls, g0_shares, g0_rights, g0_caseMany, g0_cases, .int v0_place_12, .ref h3, g0_xs, g0_ys, g0_zs, g0_us, g0_vs, g0_ws, g0_touchTick, g0_touchHalf, g0_powers, g0_worths])), (h3, .inl (k3, 3, .inl c3_12)), (h4, .inl (k4, 200, .inl c4))]) [0, 3, 4] (by decide) rfl) (va_recv hK hP (ci := 10) (q0 := 0) rfl rfl)) rfl rfl hl.1 rfl (lv_room (Nat.le_of_ble_eq_true rfl)) dX10_readAll_29 ⟨Nat.zero_le _, Nat.zero_le _⟩) hP hD hS hA [0, 3, 4] [1, 2] rfl rfl (by decide) (by decide) (fun H locs hP hD hS hz29 => ?_)
          have hP : va_P (dC, dI) vwCl [(h1, .inl (k1, 2, .inl c1_12)), (h2, .inl (k2, 536, .inl c2_12)), (h0, .inr (10, [.int v0_length, .ref h4, .ref h1, .ref h2, g0_balls, g0_outs, g0_sightMany, g0_sights, g0_keptMany, g0_cameras, g0_callMany, g0_calls, g0_shares, g0_rights, g0_caseMany, g0_cases, .int q29.2.1, .ref h3, g0_xs, g0_ys, g0_zs, g0_us, g0_vs, g0_ws, g0_touchTick, g0_touchHalf, g0_powers, g0_worths])), (h3, .inl (k3, 3, .inl q29.2.2)), (h4, .inl (k4, 200, .inl c4))] H := hP
          have hD : va_D A [(h1, .inl (k1, 2, .inl c1_12)), (h2, .inl (k2, 536, .inl c2_12)), (h0, .inr (10, [.int v0_length, .ref h4, .ref h1, .ref h2, g0_balls, g0_outs, g0_sightMany, g0_sights, g0_keptMany, g0_cameras, g0_callMany, g0_calls, g0_shares, g0_rights, g0_caseMany, g0_cases, .int q29.2.1, .ref h3, g0_xs, g0_ys, g0_zs, g0_us, g0_vs, g0_ws, g0_touchTick, g0_touchHalf, g0_powers, g0_worths])), (h3, .inl (k3, 3, .inl q29.2.2)), (h4, .inl (k4, 200, .inl c4))] := hD
          refine lv_if_ne (tgt := 37) hx hb dX10_readAll_32 (by decide) (fun cc => ?_) (fun cc => ?_)
          · have hrun := oi_t hrun cc
            refine lv_sipush (v := (268 : Int32)) hx hb dX10_readAll_37 (by decide) ?_
            refine lv_iconst (v := (4 : Int32)) hx hb dX10_readAll_40 (by decide) ?_
            refine lv_aload_n hx hb dX10_readAll_41 rfl (lv_at hl 1 rfl) ?_
            refine va_get (D := (dC, dI)) (ci := 10) (v := .ref h1) (C := RX10) (T := TX10) (N := 28) hx hb hts hinX10 hown hK hP 2 rfl rfl 2 (by decide) (hts (.fieldLink RX10 13 "WasItOutModel" "itemMany" "[I") (by decide +kernel)) (fun _ h9 => h9) rfl dX10_readAll_42 ?_
            refine lv_iconst (v := (1 : Int32)) hx hb dX10_readAll_45 (by decide) ?_
            have hi : vp_in (1 : Int32) 2 := ixk (by decide)
            refine va_iald hx hb hK hP 0 0 rfl rfl hi dX10_readAll_46 ?_
            refine lv_imul hx hb dX10_readAll_47 ?_
            refine lv_iadd hx hb dX10_readAll_48 ?_
            refine lv_istore_n (lv' := [(2, .int ((268 : Int32) + ((4 : Int32) * (c1_12 (1 : Int32).toNatClampNeg)))), (1, .int v0_place_12), (0, .ref h0)]) hx hb dX10_readAll_49 rfl hl (by decide) rfl (fun ls hl => ?_)
            refine lv_aload_n hx hb dX10_readAll_50 rfl (lv_at hl 2 rfl) ?_
            refine va_get (D := (dC, dI)) (ci := 10) (v := .ref h2) (C := RX10) (T := TX10) (N := 28) hx hb hts hinX10 hown hK hP 2 rfl rfl 3 (by decide) (hts (.fieldLink RX10 16 "WasItOutModel" "items" "[I") (by decide +kernel)) (fun _ h9 => h9) rfl dX10_readAll_51 ?_
            refine lv_iload_n hx hb dX10_readAll_54 rfl (lv_at hl 0 rfl) ?_
            refine lv_aload_n hx hb dX10_readAll_55 rfl (lv_at hl 2 rfl) ?_
            refine va_get (D := (dC, dI)) (ci := 10) (v := .ref h4) (C := RX10) (T := TX10) (N := 28) hx hb hts hinX10 hown hK hP 2 rfl rfl 1 (by decide) (hts (.fieldLink RX10 7 "WasItOutModel" "text" "[I") (by decide +kernel)) (fun _ h9 => h9) rfl dX10_readAll_56 ?_
            refine lv_iload_n hx hb dX10_readAll_59 rfl (lv_at hl 1 rfl) ?_
            obtain ⟨hi, hrun⟩ := oi_x hrun
            refine va_iald hx hb hK hP 4 3 rfl rfl hi dX10_readAll_60 ?_
            obtain ⟨hi, hrun⟩ := oi_x hrun
            refine va_iast hx hb hK hP hD hS 1 1 rfl rfl hi dX10_readAll_61 (fun H locs hP hD hS => ?_)
            have hP : va_P (dC, dI) vwCl [(h1, .inl (k1, 2, .inl c1_12)), (h2, .inl (k2, 536, .inl (upd c2_12 ((268 : Int32) + ((4 : Int32) * (c1_12 (1 : Int32).toNatClampNeg))).toNatClampNeg (c4 v0_place_12.toNatClampNeg)))), (h0, .inr (10, [.int v0_length, .ref h4, .ref h1, .ref h2, g0_balls, g0_outs, g0_sightMany, g0_sights, g0_keptMany, g0_cameras, g0_callMany, g0_calls, g0_shares, g0_rights, g0_caseMany, g0_cases, .int q29.2.1, .ref h3, g0_xs, g0_ys, g0_zs, g0_us, g0_vs, g0_ws, g0_touchTick, g0_touchHalf, g0_powers, g0_worths])), (h3, .inl (k3, 3, .inl q29.2.2)), (h4, .inl (k4, 200, .inl c4))] H := hP
            have hD : va_D A [(h1, .inl (k1, 2, .inl c1_12)), (h2, .inl (k2, 536, .inl (upd c2_12 ((268 : Int32) + ((4 : Int32) * (c1_12 (1 : Int32).toNatClampNeg))).toNatClampNeg (c4 v0_place_12.toNatClampNeg)))), (h0, .inr (10, [.int v0_length, .ref h4, .ref h1, .ref h2, g0_balls, g0_outs, g0_sightMany, g0_sights, g0_keptMany, g0_cameras, g0_callMany, g0_calls, g0_shares, g0_rights, g0_caseMany, g0_cases, .int q29.2.1, .ref h3, g0_xs, g0_ys, g0_zs, g0_us, g0_vs, g0_ws, g0_touchTick, g0_touchHalf, g0_powers, g0_worths])), (h3, .inl (k3, 3, .inl q29.2.2)), (h4, .inl (k4, 200, .inl c4))] := hD
            refine lv_iconst (v := (0 : Int32)) hx hb dX10_readAll_62 (by decide) ?_
            refine lv_istore_n (lv' := [(3, .int (0 : Int32)), (2, .int ((268 : Int32) + ((4 : Int32) * (c1_12 (1 : Int32).toNatClampNeg)))), (1, .int v0_place_12), (0, .ref h0)]) hx hb dX10_readAll_63 rfl hl (by decide) rfl (fun ls hl => ?_)
            obtain ⟨k91, ek91, hrun⟩ := jn_e hrun
            have J91 : ∀ (c2_91 : Nat → Int32) (ls : Array Slot) (H : Heap) (locs : List Loc), k91 c2_91 = some ru → va_P (dC, dI) vwCl [(h0, .inr (10, [.int v0_length, .ref h4, .ref h1, .ref h2, g0_balls, g0_outs, g0_sightMany, g0_sights, g0_keptMany, g0_cameras, g0_callMany, g0_calls, g0_shares, g0_rights, g0_caseMany, g0_cases, .int q29.2.1, .ref h3, g0_xs, g0_ys, g0_zs, g0_us, g0_vs, g0_ws, g0_touchTick, g0_touchHalf, g0_powers, g0_worths])), (h1, .inl (k1, 2, .inl c1_12)), (h2, .inl (k2, 536, .inl c2_91)), (h3, .inl (k3, 3, .inl q29.2.2)), (h4, .inl (k4, 200, .inl c4))] H → va_D A [(h0, .inr (10, [.int v0_length, .ref h4, .ref h1, .ref h2, g0_balls, g0_outs, g0_sightMany, g0_sights, g0_keptMany, g0_cameras, g0_callMany, g0_calls, g0_shares, g0_rights, g0_caseMany, g0_cases, .int q29.2.1, .ref h3, g0_xs, g0_ys, g0_zs, g0_us, g0_vs, g0_ws, g0_touchTick, g0_touchHalf, g0_powers, g0_worths])), (h1, .inl (k1, 2, .inl c1_12)), (h2, .inl (k2, 536, .inl c2_91)), (h3, .inl (k3, 3, .inl q29.2.2)), (h4, .inl (k4, 200, .inl c4))] → va_S A s.heap H locs → lv_has ls 4 [(0, .ref h0)] → W p l e (headSpec wsX10_readAll ({ frames := 3, cells := 0, slots := 0, locals := 71 } : Room)).room s m ([.ref h0] : List Value).toArray below meth c H locs 0 0 (MQ below (va_Qi (fun r (_ : Unit) => r = ru.1) (fun (_ : Unit) t => va_P (dC, dI) vwCl [(h0, .inr (10, [.int v0_length, .ref h4, .ref h1, .ref h2, g0_balls, g0_outs, g0_sightMany, g0_sights, g0_keptMany, g0_cameras, g0_callMany, g0_calls, g0_shares, g0_rights, g0_caseMany, g0_cases, .int ru.2.1, .ref h3, g0_xs, g0_ys, g0_zs, g0_us, g0_vs, g0_ws, g0_touchTick, g0_touchHalf, g0_powers, g0_worths])), (h1, .inl (k1, 2, .inl ru.2.2.1)), (h2, .inl (k2, 536, .inl ru.2.2.2.1)), (h3, .inl (k3, 3, .inl ru.2.2.2.2)), (h4, .inl (k4, 200, .inl c4))] t.heap ∧ va_K (dC, dI) vwCl [(k1, .int), (k2, .int), (k3, .int), (k4, .int)] t ∧ va_D A [(h0, .inr (10, [.int v0_length, .ref h4, .ref h1, .ref h2, g0_balls, g0_outs, g0_sightMany, g0_sights, g0_keptMany, g0_cameras, g0_callMany, g0_calls, g0_shares, g0_rights, g0_caseMany, g0_cases, .int ru.2.1, .ref h3, g0_xs, g0_ys, g0_zs, g0_us, g0_vs, g0_ws, g0_touchTick, g0_touchHalf, g0_powers, g0_worths])), (h1, .inl (k1, 2, .inl ru.2.2.1)), (h2, .inl (k2, 536, .inl ru.2.2.2.1)), (h3, .inl (k3, 3, .inl ru.2.2.2.2)), (h4, .inl (k4, 200, .inl c4))]) A) ([.ref h0] : List Value).toArray s 0 0 A) (F0 m 91 ls []) := by
              intro c2_91 ls H locs hrun hP hD hS hl
              rw [ek91] at hrun
              refine lv_aload_n hx hb dX10_readAll_91 rfl (lv_at hl 0 rfl) ?_
              refine va_get (D := (dC, dI)) (ci := 10) (v := .ref h1) (C := RX10) (T := TX10) (N := 28) hx hb hts hinX10 hown hK hP 0 rfl rfl 2 (by decide) (hts (.fieldLink RX10 13 "WasItOutModel" "itemMany" "[I") (by decide +kernel)) (fun _ h9 => h9) rfl dX10_readAll_92 ?_
              refine lv_iconst (v := (1 : Int32)) hx hb dX10_readAll_95 (by decide) ?_
              refine lv_dup2_11 hx hb dX10_readAll_96 rfl rfl ?_
              have hi : vp_in (1 : Int32) 2 := ixk (by decide)
              refine va_iald hx hb hK hP 1 0 rfl rfl hi dX10_readAll_97 ?_
              refine lv_iconst (v := (1 : Int32)) hx hb dX10_readAll_98 (by decide) ?_
              refine lv_iadd hx hb dX10_readAll_99 ?_
              have hi : vp_in (1 : Int32) 2 := ixk (by decide)
              refine va_iast hx hb hK hP hD hS 1 0 rfl rfl hi dX10_readAll_100 (fun H locs hP hD hS => ?_)
              have hP : va_P (dC, dI) vwCl [(h0, .inr (10, [.int v0_length, .ref h4, .ref h1, .ref h2, g0_balls, g0_outs, g0_sightMany, g0_sights, g0_keptMany, g0_cameras, g0_callMany, g0_calls, g0_shares, g0_rights, g0_caseMany, g0_cases, .int q29.2.1, .ref h3, g0_xs, g0_ys, g0_zs, g0_us, g0_vs, g0_ws, g0_touchTick, g0_touchHalf, g0_powers, g0_worths])), (h1, .inl (k1, 2, .inl (upd c1_12 (1 : Int32).toNatClampNeg ((c1_12 (1 : Int32).toNatClampNeg) + (1 : Int32))))), (h2, .inl (k2, 536, .inl c2_91)), (h3, .inl (k3, 3, .inl q29.2.2)), (h4, .inl (k4, 200, .inl c4))] H := hP
              have hD : va_D A [(h0, .inr (10, [.int v0_length, .ref h4, .ref h1, .ref h2, g0_balls, g0_outs, g0_sightMany, g0_sights, g0_keptMany, g0_cameras, g0_callMany, g0_calls, g0_shares, g0_rights, g0_caseMany, g0_cases, .int q29.2.1, .ref h3, g0_xs, g0_ys, g0_zs, g0_us, g0_vs, g0_ws, g0_touchTick, g0_touchHalf, g0_powers, g0_worths])), (h1, .inl (k1, 2, .inl (upd c1_12 (1 : Int32).toNatClampNeg ((c1_12 (1 : Int32).toNatClampNeg) + (1 : Int32))))), (h2, .inl (k2, 536, .inl c2_91)), (h3, .inl (k3, 3, .inl q29.2.2)), (h4, .inl (k4, 200, .inl c4))] := hD
              refine lv_goto (tgt := 12) hx hb dX10_readAll_101 (by decide) ?_
              exact ih q29.2.1 ((upd c1_12 (1 : Int32).toNatClampNeg ((c1_12 (1 : Int32).toNatClampNeg) + (1 : Int32)))) c2_91 q29.2.2 ls H locs hrun hP hD hS hl
            have L64 : ∀ (n : Nat) (x3_64 : Int32) (c2_64 : Nat → Int32) (ls : Array Slot) (H : Heap) (locs : List Loc), fX10_readAll_p64 N (((268 : Int32) + ((4 : Int32) * (c1_12 (1 : Int32).toNatClampNeg)))) q29.2.2 k91 n x3_64 c2_64 = some ru → va_P (dC, dI) vwCl [(h0, .inr (10, [.int v0_length, .ref h4, .ref h1, .ref h2, g0_balls, g0_outs, g0_sightMany, g0_sights, g0_keptMany, g0_cameras, g0_callMany, g0_calls, g0_shares, g0_rights, g0_caseMany, g0_cases, .int q29.2.1, .ref h3, g0_xs, g0_ys, g0_zs, g0_us, g0_vs, g0_ws, g0_touchTick, g0_touchHalf, g0_powers, g0_worths])), (h1, .inl (k1, 2, .inl c1_12)), (h2, .inl (k2, 536, .inl c2_64)), (h3, .inl (k3, 3, .inl q29.2.2)), (h4, .inl (k4, 200, .inl c4))] H → va_D A [(h0, .inr (10, [.int v0_length, .ref h4, .ref h1, .ref h2, g0_balls, g0_outs, g0_sightMany, g0_sights, g0_keptMany, g0_cameras, g0_callMany, g0_calls, g0_shares, g0_rights, g0_caseMany, g0_cases, .int q29.2.1, .ref h3, g0_xs, g0_ys, g0_zs, g0_us, g0_vs, g0_ws, g0_touchTick, g0_touchHalf, g0_powers, g0_worths])), (h1, .inl (k1, 2, .inl c1_12)), (h2, .inl (k2, 536, .inl c2_64)), (h3, .inl (k3, 3, .inl q29.2.2)), (h4, .inl (k4, 200, .inl c4))] → va_S A s.heap H locs → lv_has ls 4 [(0, .ref h0), (2, .int ((268 : Int32) + ((4 : Int32) * (c1_12 (1 : Int32).toNatClampNeg)))), (3, .int x3_64)] → W p l e (headSpec wsX10_readAll ({ frames := 3, cells := 0, slots := 0, locals := 71 } : Room)).room s m ([.ref h0] : List Value).toArray below meth c H locs 0 0 (MQ below (va_Qi (fun r (_ : Unit) => r = ru.1) (fun (_ : Unit) t => va_P (dC, dI) vwCl [(h0, .inr (10, [.int v0_length, .ref h4, .ref h1, .ref h2, g0_balls, g0_outs, g0_sightMany, g0_sights, g0_keptMany, g0_cameras, g0_callMany, g0_calls, g0_shares, g0_rights, g0_caseMany, g0_cases, .int ru.2.1, .ref h3, g0_xs, g0_ys, g0_zs, g0_us, g0_vs, g0_ws, g0_touchTick, g0_touchHalf, g0_powers, g0_worths])), (h1, .inl (k1, 2, .inl ru.2.2.1)), (h2, .inl (k2, 536, .inl ru.2.2.2.1)), (h3, .inl (k3, 3, .inl ru.2.2.2.2)), (h4, .inl (k4, 200, .inl c4))] t.heap ∧ va_K (dC, dI) vwCl [(k1, .int), (k2, .int), (k3, .int), (k4, .int)] t ∧ va_D A [(h0, .inr (10, [.int v0_length, .ref h4, .ref h1, .ref h2, g0_balls, g0_outs, g0_sightMany, g0_sights, g0_keptMany, g0_cameras, g0_callMany, g0_calls, g0_shares, g0_rights, g0_caseMany, g0_cases, .int ru.2.1, .ref h3, g0_xs, g0_ys, g0_zs, g0_us, g0_vs, g0_ws, g0_touchTick, g0_touchHalf, g0_powers, g0_worths])), (h1, .inl (k1, 2, .inl ru.2.2.1)), (h2, .inl (k2, 536, .inl ru.2.2.2.1)), (h3, .inl (k3, 3, .inl ru.2.2.2.2)), (h4, .inl (k4, 200, .inl c4))]) A) ([.ref h0] : List Value).toArray s 0 0 A) (F0 m 64 ls []) := by
              intro n
              induction n with
              | zero => intro x3_64 c2_64 ls H locs hrun; rw [fX10_readAll_p64] at hrun; exact on_e hrun
              | succ n ih =>
                intro x3_64 c2_64 ls H locs hrun hP hD hS hl
                rw [fX10_readAll_p64] at hrun
                refine lv_iload_n hx hb dX10_readAll_64 rfl (lv_at hl 2 rfl) ?_
                refine lv_iconst (v := (3 : Int32)) hx hb dX10_readAll_65 (by decide) ?_
                refine lv_icmp_ge (tgt := 91) hx hb dX10_readAll_66 (by decide) (fun cc => ?_) (fun cc => ?_)
                · have hrun := oi_t hrun cc
                  exact J91 c2_64 ls H locs hrun hP hD hS (lv_sub hl [0] rfl)
                · have hrun := oi_f hrun cc
                  refine lv_aload_n hx hb dX10_readAll_69 rfl (lv_at hl 0 rfl) ?_
                  refine va_get (D := (dC, dI)) (ci := 10) (v := .ref h2) (C := RX10) (T := TX10) (N := 28) hx hb hts hinX10 hown hK hP 0 rfl rfl 3 (by decide) (hts (.fieldLink RX10 16 "WasItOutModel" "items" "[I") (by decide +kernel)) (fun _ h9 => h9) rfl dX10_readAll_70 ?_
                  refine lv_iload_n hx hb dX10_readAll_73 rfl (lv_at hl 1 rfl) ?_
                  refine lv_iconst (v := (1 : Int32)) hx hb dX10_readAll_74 (by decide) ?_
                  refine lv_iadd hx hb dX10_readAll_75 ?_
                  refine lv_iload_n hx hb dX10_readAll_76 rfl (lv_at hl 2 rfl) ?_
                  refine lv_iadd hx hb dX10_readAll_77 ?_
                  refine lv_aload_n hx hb dX10_readAll_78 rfl (lv_at hl 0 rfl) ?_
                  refine va_get (D := (dC, dI)) (ci := 10) (v := .ref h3) (C := RX10) (T := TX10) (N := 28) hx hb hts hinX10 hown hK hP 0 rfl rfl 17 (by decide) (hts (.fieldLink RX10 46 "WasItOutModel" "numbers" "[I") (by decide +kernel)) (fun _ h9 => h9) rfl dX10_readAll_79 ?_
                  refine lv_iload_n hx hb dX10_readAll_82 rfl (lv_at hl 2 rfl) ?_
                  obtain ⟨hi, hrun⟩ := oi_x hrun
                  refine va_iald hx hb hK hP 3 2 rfl rfl hi dX10_readAll_83 ?_
                  obtain ⟨hi, hrun⟩ := oi_x hrun
                  refine va_iast hx hb hK hP hD hS 2 1 rfl rfl hi dX10_readAll_84 (fun H locs hP hD hS => ?_)
                  have hP : va_P (dC, dI) vwCl [(h0, .inr (10, [.int v0_length, .ref h4, .ref h1, .ref h2, g0_balls, g0_outs, g0_sightMany, g0_sights, g0_keptMany, g0_cameras, g0_callMany, g0_calls, g0_shares, g0_rights, g0_caseMany, g0_cases, .int q29.2.1, .ref h3, g0_xs, g0_ys, g0_zs, g0_us, g0_vs, g0_ws, g0_touchTick, g0_touchHalf, g0_powers, g0_worths])), (h1, .inl (k1, 2, .inl c1_12)), (h2, .inl (k2, 536, .inl (upd c2_64 ((((268 : Int32) + ((4 : Int32) * (c1_12 (1 : Int32).toNatClampNeg))) + (1 : Int32)) + x3_64).toNatClampNeg (q29.2.2 x3_64.toNatClampNeg)))), (h3, .inl (k3, 3, .inl q29.2.2)), (h4, .inl (k4, 200, .inl c4))] H := hP
                  have hD : va_D A [(h0, .inr (10, [.int v0_length, .ref h4, .ref h1, .ref h2, g0_balls, g0_outs, g0_sightMany, g0_sights, g0_keptMany, g0_cameras, g0_callMany, g0_calls, g0_shares, g0_rights, g0_caseMany, g0_cases, .int q29.2.1, .ref h3, g0_xs, g0_ys, g0_zs, g0_us, g0_vs, g0_ws, g0_touchTick, g0_touchHalf, g0_powers, g0_worths])), (h1, .inl (k1, 2, .inl c1_12)), (h2, .inl (k2, 536, .inl (upd c2_64 ((((268 : Int32) + ((4 : Int32) * (c1_12 (1 : Int32).toNatClampNeg))) + (1 : Int32)) + x3_64).toNatClampNeg (q29.2.2 x3_64.toNatClampNeg)))), (h3, .inl (k3, 3, .inl q29.2.2)), (h4, .inl (k4, 200, .inl c4))] := hD
                  refine lv_iinc (v := (x3_64 + (1 : Int32))) (lv' := [(3, .int (x3_64 + (1 : Int32))), (0, .ref h0), (2, .int ((268 : Int32) + ((4 : Int32) * (c1_12 (1 : Int32).toNatClampNeg))))]) hx hb dX10_readAll_85 hl (k := 2) rfl rfl (by decide) rfl (fun ls hl => ?_)
                  refine lv_goto (tgt := 64) hx hb dX10_readAll_88 (by decide) ?_
                  exact ih ((x3_64 + (1 : Int32))) ((upd c2_64 ((((268 : Int32) + ((4 : Int32) * (c1_12 (1 : Int32).toNatClampNeg))) + (1 : Int32)) + x3_64).toNatClampNeg (q29.2.2 x3_64.toNatClampNeg))) ls H locs hrun hP hD hS (lv_sub hl [1, 2, 0] rfl)
            exact L64 N ((0 : Int32)) ((upd c2_12 ((268 : Int32) + ((4 : Int32) * (c1_12 (1 : Int32).toNatClampNeg))).toNatClampNeg (c4 v0_place_12.toNatClampNeg))) ls H locs hrun (hP.sub [2, 0, 1, 3, 4] rfl) (hD.sub [2, 0, 1, 3, 4] (by decide) rfl) hS (lv_sub hl [3, 1, 0] rfl)
          · have hrun := oi_n hrun cc
            refine lv_iload_n hx hb dX10_readAll_35 rfl (lv_at hl 0 rfl) ?_
            cases hrun
            have hP9 : va_P (dC, dI) vwCl [(h0, .inr (10, [.int v0_length, .ref h4, .ref h1, .ref h2, g0_balls, g0_outs, g0_sightMany, g0_sights, g0_keptMany, g0_cameras, g0_callMany, g0_calls, g0_shares, g0_rights, g0_caseMany, g0_cases, .int q29.2.1, .ref h3, g0_xs, g0_ys, g0_zs, g0_us, g0_vs, g0_ws, g0_touchTick, g0_touchHalf, g0_powers, g0_worths])), (h1, .inl (k1, 2, .inl c1_12)), (h2, .inl (k2, 536, .inl c2_12)), (h3, .inl (k3, 3, .inl q29.2.2)), (h4, .inl (k4, 200, .inl c4))] H := (hP.sub [2, 0, 1, 3, 4] rfl)
            have hD9 : va_D A [(h0, .inr (10, [.int v0_length, .ref h4, .ref h1, .ref h2, g0_balls, g0_outs, g0_sightMany, g0_sights, g0_keptMany, g0_cameras, g0_callMany, g0_calls, g0_shares, g0_rights, g0_caseMany, g0_cases, .int q29.2.1, .ref h3, g0_xs, g0_ys, g0_zs, g0_us, g0_vs, g0_ws, g0_touchTick, g0_touchHalf, g0_powers, g0_worths])), (h1, .inl (k1, 2, .inl c1_12)), (h2, .inl (k2, 536, .inl c2_12)), (h3, .inl (k3, 3, .inl q29.2.2)), (h4, .inl (k4, 200, .inl c4))] := (hD.sub [2, 0, 1, 3, 4] (by decide) rfl)
            exact W.iret hx hb hr (fun t ht hW => ⟨⟨_, (), rfl, rfl, by rw [ht]; exact hP9, va_K.moved hW.alike hK, hD9⟩, hS.F ht⟩) hS.2.2 dX10_readAll_36
    exact L12 N ((0 : Int32)) ((upd c1 (1 : Int32).toNatClampNeg (0 : Int32))) c2 c3 ls H locs hrun hP hD hS hl
  rw [hHe, hLe] at key
  exact key
set_option maxHeartbeats 4000000 in
set_option maxRecDepth 100000 in
theorem tX10_fault (l : Launch) (dC : Nat → ClassId) (dI : Nat → Nat → Nat) (sz : Nat) (h0 h1 h2 h3 h4 : Nat) (k1 k2 k3 k4 : ClassId) (g0_balls g0_outs g0_sightMany g0_sights g0_keptMany g0_cameras g0_callMany g0_calls g0_shares g0_rights g0_caseMany g0_cases g0_xs g0_ys g0_zs g0_us g0_vs g0_ws g0_touchTick g0_touchHalf g0_powers g0_worths : Value) (N : Nat)  (v0_length : Int32) (v0_place : Int32) (c1 : Nat → Int32) (c2 : Nat → Int32) (c3 : Nat → Int32) (c4 : Nat → Int32) (ru : Int32 × (Int32) × (Nat → Int32) × (Nat → Int32) × (Nat → Int32)) (hm : fX10_fault N v0_length v0_place c1 c2 c3 c4 = some ru) : Met l yX10_fault wsX10_fault ({ frames := 4, cells := 0, slots := 0, locals := 94 } : Room) (va_Pc [.ref h0] (fun U => U.heap.size = sz ∧ va_P (dC, dI) vwCl [(h0, .inr (10, [.int v0_length, .ref h4, .ref h1, .ref h2, g0_balls, g0_outs, g0_sightMany, g0_sights, g0_keptMany, g0_cameras, g0_callMany, g0_calls, g0_shares, g0_rights, g0_caseMany, g0_cases, .int v0_place, .ref h3, g0_xs, g0_ys, g0_zs, g0_us, g0_vs, g0_ws, g0_touchTick, g0_touchHalf, g0_powers, g0_worths])), (h1, .inl (k1, 2, .inl c1)), (h2, .inl (k2, 536, .inl c2)), (h3, .inl (k3, 3, .inl c3)), (h4, .inl (k4, 200, .inl c4))] U.heap ∧ va_K (dC, dI) vwCl [(k1, .int), (k2, .int), (k3, .int), (k4, .int)] U ∧ va_D (fun _ => True) [(h0, .inr (10, [.int v0_length, .ref h4, .ref h1, .ref h2, g0_balls, g0_outs, g0_sightMany, g0_sights, g0_keptMany, g0_cameras, g0_callMany, g0_calls, g0_shares, g0_rights, g0_caseMany, g0_cases, .int v0_place, .ref h3, g0_xs, g0_ys, g0_zs, g0_us, g0_vs, g0_ws, g0_touchTick, g0_touchHalf, g0_powers, g0_worths])), (h1, .inl (k1, 2, .inl c1)), (h2, .inl (k2, 536, .inl c2)), (h3, .inl (k3, 3, .inl c3)), (h4, .inl (k4, 200, .inl c4))])) (va_Qi (fun r (_ : Unit) => r = ru.1) (fun (_ : Unit) t => va_P (dC, dI) vwCl [(h0, .inr (10, [.int v0_length, .ref h4, .ref h1, .ref h2, g0_balls, g0_outs, g0_sightMany, g0_sights, g0_keptMany, g0_cameras, g0_callMany, g0_calls, g0_shares, g0_rights, g0_caseMany, g0_cases, .int ru.2.1, .ref h3, g0_xs, g0_ys, g0_zs, g0_us, g0_vs, g0_ws, g0_touchTick, g0_touchHalf, g0_powers, g0_worths])), (h1, .inl (k1, 2, .inl ru.2.2.1)), (h2, .inl (k2, 536, .inl ru.2.2.2.1)), (h3, .inl (k3, 3, .inl ru.2.2.2.2)), (h4, .inl (k4, 200, .inl c4))] t.heap ∧ va_K (dC, dI) vwCl [(k1, .int), (k2, .int), (k3, .int), (k4, .int)] t ∧ va_D (va_A [(h0, .inr (10, [.int v0_length, .ref h4, .ref h1, .ref h2, g0_balls, g0_outs, g0_sightMany, g0_sights, g0_keptMany, g0_cameras, g0_callMany, g0_calls, g0_shares, g0_rights, g0_caseMany, g0_cases, .int v0_place, .ref h3, g0_xs, g0_ys, g0_zs, g0_us, g0_vs, g0_ws, g0_touchTick, g0_touchHalf, g0_powers, g0_worths])), (h1, .inl (k1, 2, .inl c1)), (h2, .inl (k2, 536, .inl c2)), (h3, .inl (k3, 3, .inl c3)), (h4, .inl (k4, 200, .inl c4))] sz) [(h0, .inr (10, [.int v0_length, .ref h4, .ref h1, .ref h2, g0_balls, g0_outs, g0_sightMany, g0_sights, g0_keptMany, g0_cameras, g0_callMany, g0_calls, g0_shares, g0_rights, g0_caseMany, g0_cases, .int ru.2.1, .ref h3, g0_xs, g0_ys, g0_zs, g0_us, g0_vs, g0_ws, g0_touchTick, g0_touchHalf, g0_powers, g0_worths])), (h1, .inl (k1, 2, .inl ru.2.2.1)), (h2, .inl (k2, 536, .inl ru.2.2.2.1)), (h3, .inl (k3, 3, .inl ru.2.2.2.2)), (h4, .inl (k4, 200, .inl c4))]) (va_A [(h0, .inr (10, [.int v0_length, .ref h4, .ref h1, .ref h2, g0_balls, g0_outs, g0_sightMany, g0_sights, g0_keptMany, g0_cameras, g0_callMany, g0_calls, g0_shares, g0_rights, g0_caseMany, g0_cases, .int v0_place, .ref h3, g0_xs, g0_ys, g0_zs, g0_us, g0_vs, g0_ws, g0_touchTick, g0_touchHalf, g0_powers, g0_worths])), (h1, .inl (k1, 2, .inl c1)), (h2, .inl (k2, 536, .inl c2)), (h3, .inl (k3, 3, .inl c3)), (h4, .inl (k4, 200, .inl c4))] sz)) 0 0 (va_A [(h0, .inr (10, [.int v0_length, .ref h4, .ref h1, .ref h2, g0_balls, g0_outs, g0_sightMany, g0_sights, g0_keptMany, g0_cameras, g0_callMany, g0_calls, g0_shares, g0_rights, g0_caseMany, g0_cases, .int v0_place, .ref h3, g0_xs, g0_ys, g0_zs, g0_us, g0_vs, g0_ws, g0_touchTick, g0_touchHalf, g0_powers, g0_worths])), (h1, .inl (k1, 2, .inl c1)), (h2, .inl (k2, 536, .inl c2)), (h3, .inl (k3, 3, .inl c3)), (h4, .inl (k4, 200, .inl c4))] sz) := by
  refine Met.ofW (cc := cX10_fault) (maxL := 1) (ret := (some .int)) (by decide) rfl ?_
  intro p e s m args below meth c s₁ B hml hv
  obtain ⟨rfl, hsz, hP, hK, hD0⟩ := hv
  have hx := B.exec
  have hb := B.bytes
  have hr := B.returns
  have hts := atoms_spec (ws := wsX10_fault) B.pre
  have hown : s.vm.findClass RX10 = some m.cls := findClass_of_methodNamed B.named
  have hlocks := B.notSynchronized
  subst hsz
  have hD := hD0.self (sz := s.heap.size)
  generalize hAe : va_A [(h0, .inr (10, [.int v0_length, .ref h4, .ref h1, .ref h2, g0_balls, g0_outs, g0_sightMany, g0_sights, g0_keptMany, g0_cameras, g0_callMany, g0_calls, g0_shares, g0_rights, g0_caseMany, g0_cases, .int v0_place, .ref h3, g0_xs, g0_ys, g0_zs, g0_us, g0_vs, g0_ws, g0_touchTick, g0_touchHalf, g0_powers, g0_worths])), (h1, .inl (k1, 2, .inl c1)), (h2, .inl (k2, 536, .inl c2)), (h3, .inl (k3, 3, .inl c3)), (h4, .inl (k4, 200, .inl c4))] s.heap.size = A at hD ⊢
  have hA : ∀ q : Nat, s.heap.size ≤ q → A q := fun q h => by rw [← hAe]; exact Or.inr h
  have hS : va_S A s.heap s.heap [] := va_S.rf
  have hl := lv_entry ([.ref h0]) (n := 1) (Nat.le_of_ble_eq_true rfl)
  rw [lg_entry_eq]
  generalize (lg_sl ([.ref h0]) ++ List.replicate (1 - (lg_sl ([.ref h0])).length) Slot.unset).toArray = ls at hl ⊢
  have hl : lv_has ls 1 [(0, .ref h0)] := hl
  have hrun := hm
  rw [fX10_fault] at hrun
  obtain ⟨H, hHe⟩ : ∃ H, H = s.heap := ⟨_, rfl⟩
  obtain ⟨locs, hLe⟩ : ∃ locs : List Loc, locs = [] := ⟨_, rfl⟩
  rw [← hHe] at hP
  have hS : va_S A s.heap H locs := by rw [hHe, hLe]; exact hS
  have key : W p l e (headSpec wsX10_fault ({ frames := 4, cells := 0, slots := 0, locals := 94 } : Room)).room s m ([.ref h0] : List Value).toArray below meth c H locs 0 0 (MQ below (va_Qi (fun r (_ : Unit) => r = ru.1) (fun (_ : Unit) t => va_P (dC, dI) vwCl [(h0, .inr (10, [.int v0_length, .ref h4, .ref h1, .ref h2, g0_balls, g0_outs, g0_sightMany, g0_sights, g0_keptMany, g0_cameras, g0_callMany, g0_calls, g0_shares, g0_rights, g0_caseMany, g0_cases, .int ru.2.1, .ref h3, g0_xs, g0_ys, g0_zs, g0_us, g0_vs, g0_ws, g0_touchTick, g0_touchHalf, g0_powers, g0_worths])), (h1, .inl (k1, 2, .inl ru.2.2.1)), (h2, .inl (k2, 536, .inl ru.2.2.2.1)), (h3, .inl (k3, 3, .inl ru.2.2.2.2)), (h4, .inl (k4, 200, .inl c4))] t.heap ∧ va_K (dC, dI) vwCl [(k1, .int), (k2, .int), (k3, .int), (k4, .int)] t ∧ va_D A [(h0, .inr (10, [.int v0_length, .ref h4, .ref h1, .ref h2, g0_balls, g0_outs, g0_sightMany, g0_sights, g0_keptMany, g0_cameras, g0_callMany, g0_calls, g0_shares, g0_rights, g0_caseMany, g0_cases, .int ru.2.1, .ref h3, g0_xs, g0_ys, g0_zs, g0_us, g0_vs, g0_ws, g0_touchTick, g0_touchHalf, g0_powers, g0_worths])), (h1, .inl (k1, 2, .inl ru.2.2.1)), (h2, .inl (k2, 536, .inl ru.2.2.2.1)), (h3, .inl (k3, 3, .inl ru.2.2.2.2)), (h4, .inl (k4, 200, .inl c4))]) A) ([.ref h0] : List Value).toArray s 0 0 A) (F0 m 0 ls []) := by
    clear hHe hLe
    refine lv_aload_n hx hb dX10_fault_0 rfl (lv_at hl 0 rfl) ?_
    obtain ⟨q1, hc1, hrun⟩ := ob_e hrun
    refine wz_cqi (WC := [(h0, .inr (10, [.int v0_length, .ref h4, .ref h1, .ref h2, g0_balls, g0_outs, g0_sightMany, g0_sights, g0_keptMany, g0_cameras, g0_callMany, g0_calls, g0_shares, g0_rights, g0_caseMany, g0_cases, .int v0_place, .ref h3, g0_xs, g0_ys, g0_zs, g0_us, g0_vs, g0_ws, g0_touchTick, g0_touchHalf, g0_powers, g0_worths])), (h1, .inl (k1, 2, .inl c1)), (h2, .inl (k2, 536, .inl c2)), (h3, .inl (k3, 3, .inl c3)), (h4, .inl (k4, 200, .inl c4))]) (WR := []) (W1 := [(h0, .inr (10, [.int v0_length, .ref h4, .ref h1, .ref h2, g0_balls, g0_outs, g0_sightMany, g0_sights, g0_keptMany, g0_cameras, g0_callMany, g0_calls, g0_shares, g0_rights, g0_caseMany, g0_cases, .int q1.2.1, .ref h3, g0_xs, g0_ys, g0_zs, g0_us, g0_vs, g0_ws, g0_touchTick, g0_touchHalf, g0_powers, g0_worths])), (h1, .inl (k1, 2, .inl q1.2.2.1)), (h2, .inl (k2, 536, .inl q1.2.2.2.1)), (h3, .inl (k3, 3, .inl q1.2.2.2.2)), (h4, .inl (k4, 200, .inl c4))]) (va_runV (As := []) (rest := []) ⟨hx, hb, hml, hown, hts⟩ (tX10_readAll l dC dI H.size h0 h1 h2 h3 h4 k1 k2 k3 k4 (g0_balls) (g0_outs) (g0_sightMany) (g0_sights) (g0_keptMany) (g0_cameras) (g0_callMany) (g0_calls) (g0_shares) (g0_rights) (g0_caseMany) (g0_cases) (g0_xs) (g0_ys) (g0_zs) (g0_us) (g0_vs) (g0_ws) (g0_touchTick) (g0_touchHalf) (g0_powers) (g0_worths) N v0_length v0_place c1 c2 c3 c4 q1 hc1) (cwV 0 hts gX10_fault_X10_readAll rfl rfl rfl (by decide +kernel) ⟨Nat.le_of_ble_eq_true rfl, Nat.le_of_ble_eq_true rfl⟩) (wz_pVw (hP.sub (ws' := [(h0, .inr (10, [.int v0_length, .ref h4, .ref h1, .ref h2, g0_balls, g0_outs, g0_sightMany, g0_sights, g0_keptMany, g0_cameras, g0_callMany, g0_calls, g0_shares, g0_rights, g0_caseMany, g0_cases, .int v0_place, .ref h3, g0_xs, g0_ys, g0_zs, g0_us, g0_vs, g0_ws, g0_touchTick, g0_touchHalf, g0_powers, g0_worths])), (h1, .inl (k1, 2, .inl c1)), (h2, .inl (k2, 536, .inl c2)), (h3, .inl (k3, 3, .inl c3)), (h4, .inl (k4, 200, .inl c4))]) [0, 1, 2, 3, 4] rfl) (hK.sub (tys' := [(k1, .int), (k2, .int), (k3, .int), (k4, .int)]) [0, 1, 2, 3] rfl) (hD.sub (ws' := [(h0, .inr (10, [.int v0_length, .ref h4, .ref h1, .ref h2, g0_balls, g0_outs, g0_sightMany, g0_sights, g0_keptMany, g0_cameras, g0_callMany, g0_calls, g0_shares, g0_rights, g0_caseMany, g0_cases, .int v0_place, .ref h3, g0_xs, g0_ys, g0_zs, g0_us, g0_vs, g0_ws, g0_touchTick, g0_touchHalf, g0_powers, g0_worths])), (h1, .inl (k1, 2, .inl c1)), (h2, .inl (k2, 536, .inl c2)), (h3, .inl (k3, 3, .inl c3)), (h4, .inl (k4, 200, .inl c4))]) [0, 1, 2, 3, 4] (by decide) rfl) (va_recv hK hP (ci := 10) (q0 := 0) rfl rfl)) rfl rfl hl.1 rfl (lv_room (Nat.le_of_ble_eq_true rfl)) dX10_fault_1 ⟨Nat.zero_le _, Nat.zero_le _⟩) hP hD hS hA [0, 1, 2, 3, 4] [] rfl rfl (by decide) (by decide) (fun H locs hP hD hS => ?_)
    have hP : va_P (dC, dI) vwCl [(h0, .inr (10, [.int v0_length, .ref h4, .ref h1, .ref h2, g0_balls, g0_outs, g0_sightMany, g0_sights, g0_keptMany, g0_cameras, g0_callMany, g0_calls, g0_shares, g0_rights, g0_caseMany, g0_cases, .int q1.2.1, .ref h3, g0_xs, g0_ys, g0_zs, g0_us, g0_vs, g0_ws, g0_touchTick, g0_touchHalf, g0_powers, g0_worths])), (h1, .inl (k1, 2, .inl q1.2.2.1)), (h2, .inl (k2, 536, .inl q1.2.2.2.1)), (h3, .inl (k3, 3, .inl q1.2.2.2.2)), (h4, .inl (k4, 200, .inl c4))] H := hP
    have hD : va_D A [(h0, .inr (10, [.int v0_length, .ref h4, .ref h1, .ref h2, g0_balls, g0_outs, g0_sightMany, g0_sights, g0_keptMany, g0_cameras, g0_callMany, g0_calls, g0_shares, g0_rights, g0_caseMany, g0_cases, .int q1.2.1, .ref h3, g0_xs, g0_ys, g0_zs, g0_us, g0_vs, g0_ws, g0_touchTick, g0_touchHalf, g0_powers, g0_worths])), (h1, .inl (k1, 2, .inl q1.2.2.1)), (h2, .inl (k2, 536, .inl q1.2.2.2.1)), (h3, .inl (k3, 3, .inl q1.2.2.2.2)), (h4, .inl (k4, 200, .inl c4))] := hD
    cases hrun
    have hP9 : va_P (dC, dI) vwCl [(h0, .inr (10, [.int v0_length, .ref h4, .ref h1, .ref h2, g0_balls, g0_outs, g0_sightMany, g0_sights, g0_keptMany, g0_cameras, g0_callMany, g0_calls, g0_shares, g0_rights, g0_caseMany, g0_cases, .int q1.2.1, .ref h3, g0_xs, g0_ys, g0_zs, g0_us, g0_vs, g0_ws, g0_touchTick, g0_touchHalf, g0_powers, g0_worths])), (h1, .inl (k1, 2, .inl q1.2.2.1)), (h2, .inl (k2, 536, .inl q1.2.2.2.1)), (h3, .inl (k3, 3, .inl q1.2.2.2.2)), (h4, .inl (k4, 200, .inl c4))] H := hP
    have hD9 : va_D A [(h0, .inr (10, [.int v0_length, .ref h4, .ref h1, .ref h2, g0_balls, g0_outs, g0_sightMany, g0_sights, g0_keptMany, g0_cameras, g0_callMany, g0_calls, g0_shares, g0_rights, g0_caseMany, g0_cases, .int q1.2.1, .ref h3, g0_xs, g0_ys, g0_zs, g0_us, g0_vs, g0_ws, g0_touchTick, g0_touchHalf, g0_powers, g0_worths])), (h1, .inl (k1, 2, .inl q1.2.2.1)), (h2, .inl (k2, 536, .inl q1.2.2.2.1)), (h3, .inl (k3, 3, .inl q1.2.2.2.2)), (h4, .inl (k4, 200, .inl c4))] := hD
    exact W.iret hx hb hr (fun t ht hW => ⟨⟨_, (), rfl, rfl, by rw [ht]; exact hP9, va_K.moved hW.alike hK, hD9⟩, hS.F ht⟩) hS.2.2 dX10_fault_4
  rw [hHe, hLe] at key
  exact key
set_option maxHeartbeats 4000000 in
set_option maxRecDepth 100000 in
theorem tX10_lineAt (l : Launch) (dC : Nat → ClassId) (dI : Nat → Nat → Nat) (h0 h1 h2 : Nat) (k1 k2 : ClassId) (g0_length g0_text g0_balls g0_outs g0_sightMany g0_sights g0_keptMany g0_cameras g0_callMany g0_calls g0_shares g0_rights g0_caseMany g0_cases g0_place g0_numbers g0_xs g0_ys g0_zs g0_us g0_vs g0_ws g0_touchTick g0_touchHalf g0_powers g0_worths : Value) (N : Nat) (a1 : Int32) (c1 : Nat → Int32) (c2 : Nat → Int32) (ru : Int32) (hm : fX10_lineAt N a1 c1 c2 = some ru) : Met l yX10_lineAt wsX10_lineAt ({ frames := 0, cells := 0, slots := 0, locals := 0 } : Room) (va_Pc [.ref h0, .int a1] (fun U => va_P (dC, dI) vwCl [(h0, .inr (10, [g0_length, g0_text, .ref h1, .ref h2, g0_balls, g0_outs, g0_sightMany, g0_sights, g0_keptMany, g0_cameras, g0_callMany, g0_calls, g0_shares, g0_rights, g0_caseMany, g0_cases, g0_place, g0_numbers, g0_xs, g0_ys, g0_zs, g0_us, g0_vs, g0_ws, g0_touchTick, g0_touchHalf, g0_powers, g0_worths])), (h1, .inl (k1, 2, .inl c1)), (h2, .inl (k2, 536, .inl c2))] U.heap ∧ va_K (dC, dI) vwCl [(k1, .int), (k2, .int)] U)) (vp_Si (fun r => r = ru)) 0 0 (fun _ => False) := by
  refine Met.ofW (cc := cX10_lineAt) (maxL := 5) (ret := (some .int)) (by decide) rfl ?_
  intro p e s m args below meth c s₁ B hml hv
  obtain ⟨rfl, hP, hK⟩ := hv
  have hx := B.exec
  have hb := B.bytes
  have hr := B.returns
  have hts := atoms_spec (ws := wsX10_lineAt) B.pre
  have hown : s.vm.findClass RX10 = some m.cls := findClass_of_methodNamed B.named
  have hlocks := B.notSynchronized
  have hinX10 : ∀ w ∈ wsX100, w ∈ wsX10_lineAt := by decide +kernel
  have hl := lv_entry ([.ref h0, .int a1]) (n := 5) (Nat.le_of_ble_eq_true rfl)
  rw [lg_entry_eq]
  generalize (lg_sl ([.ref h0, .int a1]) ++ List.replicate (5 - (lg_sl ([.ref h0, .int a1])).length) Slot.unset).toArray = ls at hl ⊢
  have hl : lv_has ls 5 [(0, .ref h0), (1, .int a1)] := hl
  have hrun := hm
  rw [fX10_lineAt] at hrun
  refine lv_bipush (v := (-4 : Int32)) hx hb dX10_lineAt_0 (by decide) ?_
  refine lv_istore_n (lv' := [(2, .int (-4 : Int32)), (0, .ref h0), (1, .int a1)]) hx hb dX10_lineAt_2 rfl hl (by decide) rfl (fun ls hl => ?_)
  refine lv_iconst (v := (0 : Int32)) hx hb dX10_lineAt_3 (by decide) ?_
  refine lv_istore_n (lv' := [(3, .int (0 : Int32)), (2, .int (-4 : Int32)), (0, .ref h0), (1, .int a1)]) hx hb dX10_lineAt_4 rfl hl (by decide) rfl (fun ls hl => ?_)
  obtain ⟨k80, ek80, hrun⟩ := jn_e hrun
  have J80 : ∀ (x2_80 : Int32) (ls : Array Slot), k80 x2_80 = some ru → lv_has ls 5 [(0, .ref h0), (2, .int x2_80)] → W p l e (headSpec wsX10_lineAt ({ frames := 0, cells := 0, slots := 0, locals := 0 } : Room)).room s m ([.ref h0, .int a1] : List Value).toArray below meth c s.heap [] 0 0 (MQ below (vp_Si (fun r => r = ru)) ([.ref h0, .int a1] : List Value).toArray s 0 0 (fun _ => False)) (F0 m 80 ls []) := by
    intro x2_80 ls hrun hl
    rw [ek80] at hrun
    refine lv_iload_n hx hb dX10_lineAt_80 rfl (lv_at hl 1 rfl) ?_
    refine lv_bipush (v := (-4 : Int32)) hx hb dX10_lineAt_81 (by decide) ?_
    refine lv_icmp_ne (tgt := 90) hx hb dX10_lineAt_83 (by decide) (fun cc => ?_) (fun cc => ?_)
    · have hrun := oi_t hrun cc
      refine lv_aload_n hx hb dX10_lineAt_90 rfl (lv_at hl 0 rfl) ?_
      refine va_get (D := (dC, dI)) (ci := 10) (v := .ref h2) (C := RX10) (T := TX10) (N := 28) hx hb hts hinX10 hown hK hP 0 rfl rfl 3 (by decide) (hts (.fieldLink RX10 16 "WasItOutModel" "items" "[I") (by decide +kernel)) (fun _ h9 => h9) rfl dX10_lineAt_91 ?_
      refine lv_iload_n hx hb dX10_lineAt_94 rfl (lv_at hl 1 rfl) ?_
      refine lv_iconst (v := (2 : Int32)) hx hb dX10_lineAt_95 (by decide) ?_
      refine lv_iadd hx hb dX10_lineAt_96 ?_
      obtain ⟨hi, hrun⟩ := oi_x hrun
      refine va_iald hx hb hK hP 2 1 rfl rfl hi dX10_lineAt_97 ?_
      exact W.iret hx hb hr (fun t ht _ => ⟨_, rfl, Option.some.inj hrun, ht⟩) (fun _ h => by cases h) dX10_lineAt_98
    · have hrun := oi_n hrun cc
      refine lv_iconst (v := (0 : Int32)) hx hb dX10_lineAt_86 (by decide) ?_
      refine lv_goto (tgt := 98) hx hb dX10_lineAt_87 (by decide) ?_
      exact W.iret hx hb hr (fun t ht _ => ⟨_, rfl, Option.some.inj hrun, ht⟩) (fun _ h => by cases h) dX10_lineAt_98
  have L5 : ∀ (n : Nat) (x2_5 : Int32) (x3_5 : Int32) (ls : Array Slot), fX10_lineAt_p5 N a1 c1 c2 k80 n x2_5 x3_5 = some ru → lv_has ls 5 [(0, .ref h0), (1, .int a1), (2, .int x2_5), (3, .int x3_5)] → W p l e (headSpec wsX10_lineAt ({ frames := 0, cells := 0, slots := 0, locals := 0 } : Room)).room s m ([.ref h0, .int a1] : List Value).toArray below meth c s.heap [] 0 0 (MQ below (vp_Si (fun r => r = ru)) ([.ref h0, .int a1] : List Value).toArray s 0 0 (fun _ => False)) (F0 m 5 ls []) := by
    intro n
    induction n with
    | zero => intro x2_5 x3_5 ls hrun; rw [fX10_lineAt_p5] at hrun; exact on_e hrun
    | succ n ih =>
      intro x2_5 x3_5 ls hrun hl
      rw [fX10_lineAt_p5] at hrun
      refine lv_iload_n hx hb dX10_lineAt_5 rfl (lv_at hl 3 rfl) ?_
      refine lv_aload_n hx hb dX10_lineAt_6 rfl (lv_at hl 0 rfl) ?_
      refine va_get (D := (dC, dI)) (ci := 10) (v := .ref h1) (C := RX10) (T := TX10) (N := 28) hx hb hts hinX10 hown hK hP 0 rfl rfl 2 (by decide) (hts (.fieldLink RX10 13 "WasItOutModel" "itemMany" "[I") (by decide +kernel)) (fun _ h9 => h9) rfl dX10_lineAt_7 ?_
      refine lv_iconst (v := (0 : Int32)) hx hb dX10_lineAt_10 (by decide) ?_
      have hi : vp_in (0 : Int32) 2 := ixk (by decide)
      refine va_iald hx hb hK hP 1 0 rfl rfl hi dX10_lineAt_11 ?_
      refine lv_icmp_ge (tgt := 80) hx hb dX10_lineAt_12 (by decide) (fun cc => ?_) (fun cc => ?_)
      · have hrun := oi_t hrun cc
        exact J80 x2_5 ls hrun (lv_sub hl [0, 2] rfl)
      · have hrun := oi_f hrun cc
        refine lv_iconst (v := (4 : Int32)) hx hb dX10_lineAt_15 (by decide) ?_
        refine lv_iload_n hx hb dX10_lineAt_16 rfl (lv_at hl 3 rfl) ?_
        refine lv_imul hx hb dX10_lineAt_17 ?_
        refine lv_istore (lv' := [(4, .int ((4 : Int32) * x3_5)), (0, .ref h0), (1, .int a1), (2, .int x2_5), (3, .int x3_5)]) hx hb dX10_lineAt_18 hl (by decide) rfl (fun ls hl => ?_)
        refine lv_aload_n hx hb dX10_lineAt_20 rfl (lv_at hl 1 rfl) ?_
        refine va_get (D := (dC, dI)) (ci := 10) (v := .ref h2) (C := RX10) (T := TX10) (N := 28) hx hb hts hinX10 hown hK hP 0 rfl rfl 3 (by decide) (hts (.fieldLink RX10 16 "WasItOutModel" "items" "[I") (by decide +kernel)) (fun _ h9 => h9) rfl dX10_lineAt_21 ?_
        refine lv_iload hx hb dX10_lineAt_24 (lv_at hl 0 rfl) ?_
        obtain ⟨hi, hrun⟩ := oi_x hrun
        refine va_iald hx hb hK hP 2 1 rfl rfl hi dX10_lineAt_26 ?_
        refine lv_bipush (v := (108 : Int32)) hx hb dX10_lineAt_27 (by decide) ?_
        obtain ⟨k74, ek74, hrun⟩ := jn_e hrun
        have J74 : ∀ (x2_74 : Int32) (ls : Array Slot), k74 x2_74 = some ru → lv_has ls 5 [(0, .ref h0), (1, .int a1), (2, .int x2_74), (3, .int x3_5)] → W p l e (headSpec wsX10_lineAt ({ frames := 0, cells := 0, slots := 0, locals := 0 } : Room)).room s m ([.ref h0, .int a1] : List Value).toArray below meth c s.heap [] 0 0 (MQ below (vp_Si (fun r => r = ru)) ([.ref h0, .int a1] : List Value).toArray s 0 0 (fun _ => False)) (F0 m 74 ls []) := by
          intro x2_74 ls hrun hl
          rw [ek74] at hrun
          refine lv_iinc (v := (x3_5 + (1 : Int32))) (lv' := [(3, .int (x3_5 + (1 : Int32))), (0, .ref h0), (1, .int a1), (2, .int x2_74)]) hx hb dX10_lineAt_74 hl (k := 3) rfl rfl (by decide) rfl (fun ls hl => ?_)
          refine lv_goto (tgt := 5) hx hb dX10_lineAt_77 (by decide) ?_
          exact ih x2_74 ((x3_5 + (1 : Int32))) ls hrun (lv_sub hl [1, 2, 3, 0] rfl)
        refine lv_icmp_ne (tgt := 74) hx hb dX10_lineAt_29 (by decide) (fun cc => ?_) (fun cc => ?_)
        · have hrun := oi_t hrun cc
          exact J74 x2_5 ls hrun (lv_sub hl [1, 2, 3, 4] rfl)
        · have hrun := oi_n hrun cc
          refine lv_aload_n hx hb dX10_lineAt_32 rfl (lv_at hl 1 rfl) ?_
          refine va_get (D := (dC, dI)) (ci := 10) (v := .ref h2) (C := RX10) (T := TX10) (N := 28) hx hb hts hinX10 hown hK hP 0 rfl rfl 3 (by decide) (hts (.fieldLink RX10 16 "WasItOutModel" "items" "[I") (by decide +kernel)) (fun _ h9 => h9) rfl dX10_lineAt_33 ?_
          refine lv_iload hx hb dX10_lineAt_36 (lv_at hl 0 rfl) ?_
          refine lv_iconst (v := (1 : Int32)) hx hb dX10_lineAt_38 (by decide) ?_
          refine lv_iadd hx hb dX10_lineAt_39 ?_
          obtain ⟨hi, hrun⟩ := oi_x hrun
          refine va_iald hx hb hK hP 2 1 rfl rfl hi dX10_lineAt_40 ?_
          refine lv_iload_n hx hb dX10_lineAt_41 rfl (lv_at hl 2 rfl) ?_
          refine lv_icmp_gt (tgt := 74) hx hb dX10_lineAt_42 (by decide) (fun cc => ?_) (fun cc => ?_)
          · have hrun := oi_t hrun cc
            exact J74 x2_5 ls hrun (lv_sub hl [1, 2, 3, 4] rfl)
          · have hrun := oi_f hrun cc
            refine lv_iload_n hx hb dX10_lineAt_45 rfl (lv_at hl 3 rfl) ?_
            refine lv_bipush (v := (-4 : Int32)) hx hb dX10_lineAt_46 (by decide) ?_
            obtain ⟨k71, ek71, hrun⟩ := jn_e hrun
            have J71 : ∀ (u_71 : Unit) (ls : Array Slot), k71 u_71 = some ru → lv_has ls 5 [(0, .ref h0), (1, .int a1), (3, .int x3_5), (4, .int ((4 : Int32) * x3_5))] → W p l e (headSpec wsX10_lineAt ({ frames := 0, cells := 0, slots := 0, locals := 0 } : Room)).room s m ([.ref h0, .int a1] : List Value).toArray below meth c s.heap [] 0 0 (MQ below (vp_Si (fun r => r = ru)) ([.ref h0, .int a1] : List Value).toArray s 0 0 (fun _ => False)) (F0 m 71 ls []) := by
              intro u_71 ls hrun hl
              rw [ek71] at hrun
              refine lv_iload hx hb dX10_lineAt_71 (lv_at hl 3 rfl) ?_
              refine lv_istore_n (lv' := [(2, .int ((4 : Int32) * x3_5)), (0, .ref h0), (1, .int a1), (3, .int x3_5), (4, .int ((4 : Int32) * x3_5))]) hx hb dX10_lineAt_73 rfl hl (by decide) rfl (fun ls hl => ?_)
              exact J74 (((4 : Int32) * x3_5)) ls hrun (lv_sub hl [1, 2, 0, 3] rfl)
            refine lv_icmp_eq (tgt := 71) hx hb dX10_lineAt_48 (by decide) (fun cc => ?_) (fun cc => ?_)
            · have hrun := oi_t hrun cc
              exact J71 (()) ls hrun (lv_sub hl [1, 2, 4, 0] rfl)
            · have hrun := oi_f hrun cc
              refine lv_aload_n hx hb dX10_lineAt_51 rfl (lv_at hl 1 rfl) ?_
              refine va_get (D := (dC, dI)) (ci := 10) (v := .ref h2) (C := RX10) (T := TX10) (N := 28) hx hb hts hinX10 hown hK hP 0 rfl rfl 3 (by decide) (hts (.fieldLink RX10 16 "WasItOutModel" "items" "[I") (by decide +kernel)) (fun _ h9 => h9) rfl dX10_lineAt_52 ?_
              refine lv_iload hx hb dX10_lineAt_55 (lv_at hl 0 rfl) ?_
              refine lv_iconst (v := (1 : Int32)) hx hb dX10_lineAt_57 (by decide) ?_
              refine lv_iadd hx hb dX10_lineAt_58 ?_
              obtain ⟨hi, hrun⟩ := oi_x hrun
              refine va_iald hx hb hK hP 2 1 rfl rfl hi dX10_lineAt_59 ?_
              refine lv_aload_n hx hb dX10_lineAt_60 rfl (lv_at hl 1 rfl) ?_
              refine va_get (D := (dC, dI)) (ci := 10) (v := .ref h2) (C := RX10) (T := TX10) (N := 28) hx hb hts hinX10 hown hK hP 0 rfl rfl 3 (by decide) (hts (.fieldLink RX10 16 "WasItOutModel" "items" "[I") (by decide +kernel)) (fun _ h9 => h9) rfl dX10_lineAt_61 ?_
              refine lv_iload_n hx hb dX10_lineAt_64 rfl (lv_at hl 3 rfl) ?_
              refine lv_iconst (v := (1 : Int32)) hx hb dX10_lineAt_65 (by decide) ?_
              refine lv_iadd hx hb dX10_lineAt_66 ?_
              obtain ⟨hi, hrun⟩ := oi_x hrun
              refine va_iald hx hb hK hP 2 1 rfl rfl hi dX10_lineAt_67 ?_
              refine lv_icmp_lt (tgt := 74) hx hb dX10_lineAt_68 (by decide) (fun cc => ?_) (fun cc => ?_)
              · have hrun := oi_t hrun cc
                exact J74 x2_5 ls hrun (lv_sub hl [1, 2, 3, 4] rfl)
              · have hrun := oi_f hrun cc
                exact J71 (()) ls hrun (lv_sub hl [1, 2, 4, 0] rfl)
  exact L5 N ((-4 : Int32)) ((0 : Int32)) ls hrun (lv_sub hl [2, 3, 1, 0] rfl)
set_option maxHeartbeats 4000000 in
set_option maxRecDepth 100000 in
theorem tX10_law (l : Launch) (dC : Nat → ClassId) (dI : Nat → Nat → Nat) (h0 h1 h2 : Nat) (k1 k2 : ClassId) (g0_length g0_text g0_balls g0_outs g0_sightMany g0_sights g0_keptMany g0_cameras g0_callMany g0_calls g0_shares g0_rights g0_caseMany g0_cases g0_place g0_numbers g0_xs g0_ys g0_zs g0_us g0_vs g0_ws g0_touchTick g0_touchHalf g0_powers g0_worths : Value) (N : Nat) (a1 : Int32) (c1 : Nat → Int32) (c2 : Nat → Int32) (ru : Int32) (hm : fX10_law N a1 c1 c2 = some ru) : Met l yX10_law wsX10_law ({ frames := 2, cells := 0, slots := 0, locals := 46 } : Room) (va_Pc [.ref h0, .int a1] (fun U => va_P (dC, dI) vwCl [(h0, .inr (10, [g0_length, g0_text, .ref h1, .ref h2, g0_balls, g0_outs, g0_sightMany, g0_sights, g0_keptMany, g0_cameras, g0_callMany, g0_calls, g0_shares, g0_rights, g0_caseMany, g0_cases, g0_place, g0_numbers, g0_xs, g0_ys, g0_zs, g0_us, g0_vs, g0_ws, g0_touchTick, g0_touchHalf, g0_powers, g0_worths])), (h1, .inl (k1, 2, .inl c1)), (h2, .inl (k2, 536, .inl c2))] U.heap ∧ va_K (dC, dI) vwCl [(k1, .int), (k2, .int)] U)) (vp_Si (fun r => r = ru)) 0 0 (fun _ => False) := by
  refine Met.ofW (cc := cX10_law) (maxL := 2) (ret := (some .int)) (by decide) rfl ?_
  intro p e s m args below meth c s₁ B hml hv
  obtain ⟨rfl, hP, hK⟩ := hv
  have hx := B.exec
  have hb := B.bytes
  have hr := B.returns
  have hts := atoms_spec (ws := wsX10_law) B.pre
  have hown : s.vm.findClass RX10 = some m.cls := findClass_of_methodNamed B.named
  have hlocks := B.notSynchronized
  have hl := lv_entry ([.ref h0, .int a1]) (n := 2) (Nat.le_of_ble_eq_true rfl)
  rw [lg_entry_eq]
  generalize (lg_sl ([.ref h0, .int a1]) ++ List.replicate (2 - (lg_sl ([.ref h0, .int a1])).length) Slot.unset).toArray = ls at hl ⊢
  have hl : lv_has ls 2 [(0, .ref h0), (1, .int a1)] := hl
  have hrun := hm
  rw [fX10_law] at hrun
  refine lv_iload_n hx hb dX10_law_0 rfl (lv_at hl 1 rfl) ?_
  refine lv_i2l (v := a1.toInt64) hx hb dX10_law_1 rfl ?_
  refine lv_lconst (v := (0 : Int64)) hx hb dX10_law_2 (by decide) ?_
  refine lv_ldc2 (v := (5 : Int64)) hx hb hown (hts (.constantLong RX10 122 (5 : Int64)) (by decide +kernel)) dX10_law_3 ?_
  obtain ⟨q6, hc6, hrun⟩ := ob_e hrun
  refine wz_csz (va_runS (As := [.long a1.toInt64, .long (0 : Int64), .long (5 : Int64)]) (rest := []) ⟨hx, hb, hml, hown, hts⟩ (tX10_in l dC dI N a1.toInt64 ((0 : Int64)) ((5 : Int64)) q6 hc6) (va_cwS 3 hts gX10_law_X10_in rfl rfl rfl (by decide +kernel) ⟨Nat.le_of_ble_eq_true rfl, Nat.le_of_ble_eq_true rfl⟩) (wz_pSr (hP.sub (ws' := []) [] rfl) (hK.sub (tys' := []) [] rfl)) rfl rfl hl.1 rfl (lv_room (Nat.le_of_ble_eq_true rfl)) dX10_law_6 ⟨Nat.zero_le _, Nat.zero_le _⟩) (fun hz6 => ?_)
  refine lv_if_eq (tgt := 20) hx hb dX10_law_9 (by decide) (fun cc => ?_) (fun cc => ?_)
  · have hrun := oi_t hrun cc
    refine lv_iconst (v := (-1 : Int32)) hx hb dX10_law_20 (by decide) ?_
    exact W.iret hx hb hr (fun t ht _ => ⟨_, rfl, Option.some.inj hrun, ht⟩) (fun _ h => by cases h) dX10_law_21
  · have hrun := oi_f hrun cc
    refine lv_aload_n hx hb dX10_law_12 rfl (lv_at hl 0 rfl) ?_
    refine lv_iload_n hx hb dX10_law_13 rfl (lv_at hl 1 rfl) ?_
    obtain ⟨q14, hc14, hrun⟩ := ob_e hrun
    refine wz_csi (va_runV (As := [.int a1]) (rest := []) ⟨hx, hb, hml, hown, hts⟩ (tX10_lawOf l dC dI h0 h1 h2 k1 k2 (g0_length) (g0_text) (g0_balls) (g0_outs) (g0_sightMany) (g0_sights) (g0_keptMany) (g0_cameras) (g0_callMany) (g0_calls) (g0_shares) (g0_rights) (g0_caseMany) (g0_cases) (g0_place) (g0_numbers) (g0_xs) (g0_ys) (g0_zs) (g0_us) (g0_vs) (g0_ws) (g0_touchTick) (g0_touchHalf) (g0_powers) (g0_worths) N a1 c1 c2 q14 hc14) (cwV 1 hts gX10_law_X10_lawOf rfl rfl rfl (by decide +kernel) ⟨Nat.le_of_ble_eq_true rfl, Nat.le_of_ble_eq_true rfl⟩) (wz_pVr (hP.sub (ws' := [(h0, .inr (10, [g0_length, g0_text, .ref h1, .ref h2, g0_balls, g0_outs, g0_sightMany, g0_sights, g0_keptMany, g0_cameras, g0_callMany, g0_calls, g0_shares, g0_rights, g0_caseMany, g0_cases, g0_place, g0_numbers, g0_xs, g0_ys, g0_zs, g0_us, g0_vs, g0_ws, g0_touchTick, g0_touchHalf, g0_powers, g0_worths])), (h1, .inl (k1, 2, .inl c1)), (h2, .inl (k2, 536, .inl c2))]) [0, 1, 2] rfl) (hK.sub (tys' := [(k1, .int), (k2, .int)]) [0, 1] rfl) (va_recv hK hP (ci := 10) (q0 := 0) rfl rfl)) rfl rfl hl.1 rfl (lv_room (Nat.le_of_ble_eq_true rfl)) dX10_law_14 ⟨Nat.zero_le _, Nat.zero_le _⟩) ?_
    refine lv_goto (tgt := 21) hx hb dX10_law_17 (by decide) ?_
    exact W.iret hx hb hr (fun t ht _ => ⟨_, rfl, Option.some.inj hrun, ht⟩) (fun _ h => by cases h) dX10_law_21
set_option maxHeartbeats 4000000 in
set_option maxRecDepth 100000 in
theorem tX10_lay (l : Launch) (dC : Nat → ClassId) (dI : Nat → Nat → Nat) (sz : Nat) (h0 h1 h2 h3 h4 : Nat) (k1 k2 k3 k4 : ClassId) (g0_balls g0_outs g0_sightMany g0_sights g0_keptMany g0_cameras g0_callMany g0_calls g0_shares g0_rights g0_caseMany g0_cases g0_xs g0_ys g0_zs g0_us g0_vs g0_ws g0_touchTick g0_touchHalf g0_powers g0_worths : Value) (N : Nat)  (v0_length : Int32) (v0_place : Int32) (c1 : Nat → Int32) (c2 : Nat → Int32) (c3 : Nat → Int32) (c4 : Nat → Int32) (ru : Int32 × (Int32) × (Nat → Int32) × (Nat → Int32) × (Nat → Int32)) (hm : fX10_lay N v0_length v0_place c1 c2 c3 c4 = some ru) : Met l yX10_lay wsX10_lay ({ frames := 4, cells := 0, slots := 0, locals := 94 } : Room) (va_Pc [.ref h0] (fun U => U.heap.size = sz ∧ va_P (dC, dI) vwCl [(h0, .inr (10, [.int v0_length, .ref h4, .ref h1, .ref h2, g0_balls, g0_outs, g0_sightMany, g0_sights, g0_keptMany, g0_cameras, g0_callMany, g0_calls, g0_shares, g0_rights, g0_caseMany, g0_cases, .int v0_place, .ref h3, g0_xs, g0_ys, g0_zs, g0_us, g0_vs, g0_ws, g0_touchTick, g0_touchHalf, g0_powers, g0_worths])), (h1, .inl (k1, 2, .inl c1)), (h2, .inl (k2, 536, .inl c2)), (h3, .inl (k3, 3, .inl c3)), (h4, .inl (k4, 200, .inl c4))] U.heap ∧ va_K (dC, dI) vwCl [(k1, .int), (k2, .int), (k3, .int), (k4, .int)] U ∧ va_D (fun _ => True) [(h0, .inr (10, [.int v0_length, .ref h4, .ref h1, .ref h2, g0_balls, g0_outs, g0_sightMany, g0_sights, g0_keptMany, g0_cameras, g0_callMany, g0_calls, g0_shares, g0_rights, g0_caseMany, g0_cases, .int v0_place, .ref h3, g0_xs, g0_ys, g0_zs, g0_us, g0_vs, g0_ws, g0_touchTick, g0_touchHalf, g0_powers, g0_worths])), (h1, .inl (k1, 2, .inl c1)), (h2, .inl (k2, 536, .inl c2)), (h3, .inl (k3, 3, .inl c3)), (h4, .inl (k4, 200, .inl c4))])) (va_Qi (fun r (_ : Unit) => r = ru.1) (fun (_ : Unit) t => va_P (dC, dI) vwCl [(h0, .inr (10, [.int v0_length, .ref h4, .ref h1, .ref h2, g0_balls, g0_outs, g0_sightMany, g0_sights, g0_keptMany, g0_cameras, g0_callMany, g0_calls, g0_shares, g0_rights, g0_caseMany, g0_cases, .int ru.2.1, .ref h3, g0_xs, g0_ys, g0_zs, g0_us, g0_vs, g0_ws, g0_touchTick, g0_touchHalf, g0_powers, g0_worths])), (h1, .inl (k1, 2, .inl ru.2.2.1)), (h2, .inl (k2, 536, .inl ru.2.2.2.1)), (h3, .inl (k3, 3, .inl ru.2.2.2.2)), (h4, .inl (k4, 200, .inl c4))] t.heap ∧ va_K (dC, dI) vwCl [(k1, .int), (k2, .int), (k3, .int), (k4, .int)] t ∧ va_D (va_A [(h0, .inr (10, [.int v0_length, .ref h4, .ref h1, .ref h2, g0_balls, g0_outs, g0_sightMany, g0_sights, g0_keptMany, g0_cameras, g0_callMany, g0_calls, g0_shares, g0_rights, g0_caseMany, g0_cases, .int v0_place, .ref h3, g0_xs, g0_ys, g0_zs, g0_us, g0_vs, g0_ws, g0_touchTick, g0_touchHalf, g0_powers, g0_worths])), (h1, .inl (k1, 2, .inl c1)), (h2, .inl (k2, 536, .inl c2)), (h3, .inl (k3, 3, .inl c3)), (h4, .inl (k4, 200, .inl c4))] sz) [(h0, .inr (10, [.int v0_length, .ref h4, .ref h1, .ref h2, g0_balls, g0_outs, g0_sightMany, g0_sights, g0_keptMany, g0_cameras, g0_callMany, g0_calls, g0_shares, g0_rights, g0_caseMany, g0_cases, .int ru.2.1, .ref h3, g0_xs, g0_ys, g0_zs, g0_us, g0_vs, g0_ws, g0_touchTick, g0_touchHalf, g0_powers, g0_worths])), (h1, .inl (k1, 2, .inl ru.2.2.1)), (h2, .inl (k2, 536, .inl ru.2.2.2.1)), (h3, .inl (k3, 3, .inl ru.2.2.2.2)), (h4, .inl (k4, 200, .inl c4))]) (va_A [(h0, .inr (10, [.int v0_length, .ref h4, .ref h1, .ref h2, g0_balls, g0_outs, g0_sightMany, g0_sights, g0_keptMany, g0_cameras, g0_callMany, g0_calls, g0_shares, g0_rights, g0_caseMany, g0_cases, .int v0_place, .ref h3, g0_xs, g0_ys, g0_zs, g0_us, g0_vs, g0_ws, g0_touchTick, g0_touchHalf, g0_powers, g0_worths])), (h1, .inl (k1, 2, .inl c1)), (h2, .inl (k2, 536, .inl c2)), (h3, .inl (k3, 3, .inl c3)), (h4, .inl (k4, 200, .inl c4))] sz)) 0 0 (va_A [(h0, .inr (10, [.int v0_length, .ref h4, .ref h1, .ref h2, g0_balls, g0_outs, g0_sightMany, g0_sights, g0_keptMany, g0_cameras, g0_callMany, g0_calls, g0_shares, g0_rights, g0_caseMany, g0_cases, .int v0_place, .ref h3, g0_xs, g0_ys, g0_zs, g0_us, g0_vs, g0_ws, g0_touchTick, g0_touchHalf, g0_powers, g0_worths])), (h1, .inl (k1, 2, .inl c1)), (h2, .inl (k2, 536, .inl c2)), (h3, .inl (k3, 3, .inl c3)), (h4, .inl (k4, 200, .inl c4))] sz) := by
  refine Met.ofW (cc := cX10_lay) (maxL := 2) (ret := (some .int)) (by decide) rfl ?_
  intro p e s m args below meth c s₁ B hml hv
  obtain ⟨rfl, hsz, hP, hK, hD0⟩ := hv
  have hx := B.exec
  have hb := B.bytes
  have hr := B.returns
  have hts := atoms_spec (ws := wsX10_lay) B.pre
  have hown : s.vm.findClass RX10 = some m.cls := findClass_of_methodNamed B.named
  have hlocks := B.notSynchronized
  subst hsz
  have hD := hD0.self (sz := s.heap.size)
  generalize hAe : va_A [(h0, .inr (10, [.int v0_length, .ref h4, .ref h1, .ref h2, g0_balls, g0_outs, g0_sightMany, g0_sights, g0_keptMany, g0_cameras, g0_callMany, g0_calls, g0_shares, g0_rights, g0_caseMany, g0_cases, .int v0_place, .ref h3, g0_xs, g0_ys, g0_zs, g0_us, g0_vs, g0_ws, g0_touchTick, g0_touchHalf, g0_powers, g0_worths])), (h1, .inl (k1, 2, .inl c1)), (h2, .inl (k2, 536, .inl c2)), (h3, .inl (k3, 3, .inl c3)), (h4, .inl (k4, 200, .inl c4))] s.heap.size = A at hD ⊢
  have hA : ∀ q : Nat, s.heap.size ≤ q → A q := fun q h => by rw [← hAe]; exact Or.inr h
  have hS : va_S A s.heap s.heap [] := va_S.rf
  have hinX10 : ∀ w ∈ wsX100, w ∈ wsX10_lay := by decide +kernel
  have hl := lv_entry ([.ref h0]) (n := 2) (Nat.le_of_ble_eq_true rfl)
  rw [lg_entry_eq]
  generalize (lg_sl ([.ref h0]) ++ List.replicate (2 - (lg_sl ([.ref h0])).length) Slot.unset).toArray = ls at hl ⊢
  have hl : lv_has ls 2 [(0, .ref h0)] := hl
  have hrun := hm
  rw [fX10_lay] at hrun
  obtain ⟨H, hHe⟩ : ∃ H, H = s.heap := ⟨_, rfl⟩
  obtain ⟨locs, hLe⟩ : ∃ locs : List Loc, locs = [] := ⟨_, rfl⟩
  rw [← hHe] at hP
  have hS : va_S A s.heap H locs := by rw [hHe, hLe]; exact hS
  have key : W p l e (headSpec wsX10_lay ({ frames := 4, cells := 0, slots := 0, locals := 94 } : Room)).room s m ([.ref h0] : List Value).toArray below meth c H locs 0 0 (MQ below (va_Qi (fun r (_ : Unit) => r = ru.1) (fun (_ : Unit) t => va_P (dC, dI) vwCl [(h0, .inr (10, [.int v0_length, .ref h4, .ref h1, .ref h2, g0_balls, g0_outs, g0_sightMany, g0_sights, g0_keptMany, g0_cameras, g0_callMany, g0_calls, g0_shares, g0_rights, g0_caseMany, g0_cases, .int ru.2.1, .ref h3, g0_xs, g0_ys, g0_zs, g0_us, g0_vs, g0_ws, g0_touchTick, g0_touchHalf, g0_powers, g0_worths])), (h1, .inl (k1, 2, .inl ru.2.2.1)), (h2, .inl (k2, 536, .inl ru.2.2.2.1)), (h3, .inl (k3, 3, .inl ru.2.2.2.2)), (h4, .inl (k4, 200, .inl c4))] t.heap ∧ va_K (dC, dI) vwCl [(k1, .int), (k2, .int), (k3, .int), (k4, .int)] t ∧ va_D A [(h0, .inr (10, [.int v0_length, .ref h4, .ref h1, .ref h2, g0_balls, g0_outs, g0_sightMany, g0_sights, g0_keptMany, g0_cameras, g0_callMany, g0_calls, g0_shares, g0_rights, g0_caseMany, g0_cases, .int ru.2.1, .ref h3, g0_xs, g0_ys, g0_zs, g0_us, g0_vs, g0_ws, g0_touchTick, g0_touchHalf, g0_powers, g0_worths])), (h1, .inl (k1, 2, .inl ru.2.2.1)), (h2, .inl (k2, 536, .inl ru.2.2.2.1)), (h3, .inl (k3, 3, .inl ru.2.2.2.2)), (h4, .inl (k4, 200, .inl c4))]) A) ([.ref h0] : List Value).toArray s 0 0 A) (F0 m 0 ls []) := by
    clear hHe hLe
    refine lv_aload_n hx hb dX10_lay_0 rfl (lv_at hl 0 rfl) ?_
    obtain ⟨q1, hc1, hrun⟩ := ob_e hrun
    refine wz_cqi (WC := [(h0, .inr (10, [.int v0_length, .ref h4, .ref h1, .ref h2, g0_balls, g0_outs, g0_sightMany, g0_sights, g0_keptMany, g0_cameras, g0_callMany, g0_calls, g0_shares, g0_rights, g0_caseMany, g0_cases, .int v0_place, .ref h3, g0_xs, g0_ys, g0_zs, g0_us, g0_vs, g0_ws, g0_touchTick, g0_touchHalf, g0_powers, g0_worths])), (h1, .inl (k1, 2, .inl c1)), (h2, .inl (k2, 536, .inl c2)), (h3, .inl (k3, 3, .inl c3)), (h4, .inl (k4, 200, .inl c4))]) (WR := []) (W1 := [(h0, .inr (10, [.int v0_length, .ref h4, .ref h1, .ref h2, g0_balls, g0_outs, g0_sightMany, g0_sights, g0_keptMany, g0_cameras, g0_callMany, g0_calls, g0_shares, g0_rights, g0_caseMany, g0_cases, .int q1.2.1, .ref h3, g0_xs, g0_ys, g0_zs, g0_us, g0_vs, g0_ws, g0_touchTick, g0_touchHalf, g0_powers, g0_worths])), (h1, .inl (k1, 2, .inl q1.2.2.1)), (h2, .inl (k2, 536, .inl q1.2.2.2.1)), (h3, .inl (k3, 3, .inl q1.2.2.2.2)), (h4, .inl (k4, 200, .inl c4))]) (va_runV (As := []) (rest := []) ⟨hx, hb, hml, hown, hts⟩ (tX10_readAll l dC dI H.size h0 h1 h2 h3 h4 k1 k2 k3 k4 (g0_balls) (g0_outs) (g0_sightMany) (g0_sights) (g0_keptMany) (g0_cameras) (g0_callMany) (g0_calls) (g0_shares) (g0_rights) (g0_caseMany) (g0_cases) (g0_xs) (g0_ys) (g0_zs) (g0_us) (g0_vs) (g0_ws) (g0_touchTick) (g0_touchHalf) (g0_powers) (g0_worths) N v0_length v0_place c1 c2 c3 c4 q1 hc1) (cwV 0 hts gX10_lay_X10_readAll rfl rfl rfl (by decide +kernel) ⟨Nat.le_of_ble_eq_true rfl, Nat.le_of_ble_eq_true rfl⟩) (wz_pVw (hP.sub (ws' := [(h0, .inr (10, [.int v0_length, .ref h4, .ref h1, .ref h2, g0_balls, g0_outs, g0_sightMany, g0_sights, g0_keptMany, g0_cameras, g0_callMany, g0_calls, g0_shares, g0_rights, g0_caseMany, g0_cases, .int v0_place, .ref h3, g0_xs, g0_ys, g0_zs, g0_us, g0_vs, g0_ws, g0_touchTick, g0_touchHalf, g0_powers, g0_worths])), (h1, .inl (k1, 2, .inl c1)), (h2, .inl (k2, 536, .inl c2)), (h3, .inl (k3, 3, .inl c3)), (h4, .inl (k4, 200, .inl c4))]) [0, 1, 2, 3, 4] rfl) (hK.sub (tys' := [(k1, .int), (k2, .int), (k3, .int), (k4, .int)]) [0, 1, 2, 3] rfl) (hD.sub (ws' := [(h0, .inr (10, [.int v0_length, .ref h4, .ref h1, .ref h2, g0_balls, g0_outs, g0_sightMany, g0_sights, g0_keptMany, g0_cameras, g0_callMany, g0_calls, g0_shares, g0_rights, g0_caseMany, g0_cases, .int v0_place, .ref h3, g0_xs, g0_ys, g0_zs, g0_us, g0_vs, g0_ws, g0_touchTick, g0_touchHalf, g0_powers, g0_worths])), (h1, .inl (k1, 2, .inl c1)), (h2, .inl (k2, 536, .inl c2)), (h3, .inl (k3, 3, .inl c3)), (h4, .inl (k4, 200, .inl c4))]) [0, 1, 2, 3, 4] (by decide) rfl) (va_recv hK hP (ci := 10) (q0 := 0) rfl rfl)) rfl rfl hl.1 rfl (lv_room (Nat.le_of_ble_eq_true rfl)) dX10_lay_1 ⟨Nat.zero_le _, Nat.zero_le _⟩) hP hD hS hA [0, 1, 2, 3, 4] [] rfl rfl (by decide) (by decide) (fun H locs hP hD hS => ?_)
    have hP : va_P (dC, dI) vwCl [(h0, .inr (10, [.int v0_length, .ref h4, .ref h1, .ref h2, g0_balls, g0_outs, g0_sightMany, g0_sights, g0_keptMany, g0_cameras, g0_callMany, g0_calls, g0_shares, g0_rights, g0_caseMany, g0_cases, .int q1.2.1, .ref h3, g0_xs, g0_ys, g0_zs, g0_us, g0_vs, g0_ws, g0_touchTick, g0_touchHalf, g0_powers, g0_worths])), (h1, .inl (k1, 2, .inl q1.2.2.1)), (h2, .inl (k2, 536, .inl q1.2.2.2.1)), (h3, .inl (k3, 3, .inl q1.2.2.2.2)), (h4, .inl (k4, 200, .inl c4))] H := hP
    have hD : va_D A [(h0, .inr (10, [.int v0_length, .ref h4, .ref h1, .ref h2, g0_balls, g0_outs, g0_sightMany, g0_sights, g0_keptMany, g0_cameras, g0_callMany, g0_calls, g0_shares, g0_rights, g0_caseMany, g0_cases, .int q1.2.1, .ref h3, g0_xs, g0_ys, g0_zs, g0_us, g0_vs, g0_ws, g0_touchTick, g0_touchHalf, g0_powers, g0_worths])), (h1, .inl (k1, 2, .inl q1.2.2.1)), (h2, .inl (k2, 536, .inl q1.2.2.2.1)), (h3, .inl (k3, 3, .inl q1.2.2.2.2)), (h4, .inl (k4, 200, .inl c4))] := hD
    refine lv_bipush (v := (-4 : Int32)) hx hb dX10_lay_4 (by decide) ?_
    refine lv_icmp_eq (tgt := 12) hx hb dX10_lay_6 (by decide) (fun cc => ?_) (fun cc => ?_)
    · have hrun := oi_t hrun cc
      refine lv_aload_n hx hb dX10_lay_12 rfl (lv_at hl 0 rfl) ?_
      refine va_get (D := (dC, dI)) (ci := 10) (v := .ref h1) (C := RX10) (T := TX10) (N := 28) hx hb hts hinX10 hown hK hP 0 rfl rfl 2 (by decide) (hts (.fieldLink RX10 13 "WasItOutModel" "itemMany" "[I") (by decide +kernel)) (fun _ h9 => h9) rfl dX10_lay_13 ?_
      refine lv_iconst (v := (0 : Int32)) hx hb dX10_lay_16 (by decide) ?_
      refine lv_aload_n hx hb dX10_lay_17 rfl (lv_at hl 0 rfl) ?_
      refine va_get (D := (dC, dI)) (ci := 10) (v := .ref h1) (C := RX10) (T := TX10) (N := 28) hx hb hts hinX10 hown hK hP 0 rfl rfl 2 (by decide) (hts (.fieldLink RX10 13 "WasItOutModel" "itemMany" "[I") (by decide +kernel)) (fun _ h9 => h9) rfl dX10_lay_18 ?_
      refine lv_iconst (v := (1 : Int32)) hx hb dX10_lay_21 (by decide) ?_
      have hi : vp_in (1 : Int32) 2 := ixk (by decide)
      refine va_iald hx hb hK hP 1 0 rfl rfl hi dX10_lay_22 ?_
      have hi : vp_in (0 : Int32) 2 := ixk (by decide)
      refine va_iast hx hb hK hP hD hS 1 0 rfl rfl hi dX10_lay_23 (fun H locs hP hD hS => ?_)
      have hP : va_P (dC, dI) vwCl [(h0, .inr (10, [.int v0_length, .ref h4, .ref h1, .ref h2, g0_balls, g0_outs, g0_sightMany, g0_sights, g0_keptMany, g0_cameras, g0_callMany, g0_calls, g0_shares, g0_rights, g0_caseMany, g0_cases, .int q1.2.1, .ref h3, g0_xs, g0_ys, g0_zs, g0_us, g0_vs, g0_ws, g0_touchTick, g0_touchHalf, g0_powers, g0_worths])), (h1, .inl (k1, 2, .inl (upd q1.2.2.1 (0 : Int32).toNatClampNeg (q1.2.2.1 (1 : Int32).toNatClampNeg)))), (h2, .inl (k2, 536, .inl q1.2.2.2.1)), (h3, .inl (k3, 3, .inl q1.2.2.2.2)), (h4, .inl (k4, 200, .inl c4))] H := hP
      have hD : va_D A [(h0, .inr (10, [.int v0_length, .ref h4, .ref h1, .ref h2, g0_balls, g0_outs, g0_sightMany, g0_sights, g0_keptMany, g0_cameras, g0_callMany, g0_calls, g0_shares, g0_rights, g0_caseMany, g0_cases, .int q1.2.1, .ref h3, g0_xs, g0_ys, g0_zs, g0_us, g0_vs, g0_ws, g0_touchTick, g0_touchHalf, g0_powers, g0_worths])), (h1, .inl (k1, 2, .inl (upd q1.2.2.1 (0 : Int32).toNatClampNeg (q1.2.2.1 (1 : Int32).toNatClampNeg)))), (h2, .inl (k2, 536, .inl q1.2.2.2.1)), (h3, .inl (k3, 3, .inl q1.2.2.2.2)), (h4, .inl (k4, 200, .inl c4))] := hD
      refine lv_iconst (v := (0 : Int32)) hx hb dX10_lay_24 (by decide) ?_
      refine lv_istore_n (lv' := [(1, .int (0 : Int32)), (0, .ref h0)]) hx hb dX10_lay_25 rfl hl (by decide) rfl (fun ls hl => ?_)
      obtain ⟨k55, ek55, hrun⟩ := jn_e hrun
      have J55 : ∀ (c2_55 : Nat → Int32) (ls : Array Slot) (H : Heap) (locs : List Loc), k55 c2_55 = some ru → va_P (dC, dI) vwCl [(h0, .inr (10, [.int v0_length, .ref h4, .ref h1, .ref h2, g0_balls, g0_outs, g0_sightMany, g0_sights, g0_keptMany, g0_cameras, g0_callMany, g0_calls, g0_shares, g0_rights, g0_caseMany, g0_cases, .int q1.2.1, .ref h3, g0_xs, g0_ys, g0_zs, g0_us, g0_vs, g0_ws, g0_touchTick, g0_touchHalf, g0_powers, g0_worths])), (h1, .inl (k1, 2, .inl (upd q1.2.2.1 (0 : Int32).toNatClampNeg (q1.2.2.1 (1 : Int32).toNatClampNeg)))), (h2, .inl (k2, 536, .inl c2_55)), (h3, .inl (k3, 3, .inl q1.2.2.2.2)), (h4, .inl (k4, 200, .inl c4))] H → va_D A [(h0, .inr (10, [.int v0_length, .ref h4, .ref h1, .ref h2, g0_balls, g0_outs, g0_sightMany, g0_sights, g0_keptMany, g0_cameras, g0_callMany, g0_calls, g0_shares, g0_rights, g0_caseMany, g0_cases, .int q1.2.1, .ref h3, g0_xs, g0_ys, g0_zs, g0_us, g0_vs, g0_ws, g0_touchTick, g0_touchHalf, g0_powers, g0_worths])), (h1, .inl (k1, 2, .inl (upd q1.2.2.1 (0 : Int32).toNatClampNeg (q1.2.2.1 (1 : Int32).toNatClampNeg)))), (h2, .inl (k2, 536, .inl c2_55)), (h3, .inl (k3, 3, .inl q1.2.2.2.2)), (h4, .inl (k4, 200, .inl c4))] → va_S A s.heap H locs → lv_has ls 2 [(0, .ref h0)] → W p l e (headSpec wsX10_lay ({ frames := 4, cells := 0, slots := 0, locals := 94 } : Room)).room s m ([.ref h0] : List Value).toArray below meth c H locs 0 0 (MQ below (va_Qi (fun r (_ : Unit) => r = ru.1) (fun (_ : Unit) t => va_P (dC, dI) vwCl [(h0, .inr (10, [.int v0_length, .ref h4, .ref h1, .ref h2, g0_balls, g0_outs, g0_sightMany, g0_sights, g0_keptMany, g0_cameras, g0_callMany, g0_calls, g0_shares, g0_rights, g0_caseMany, g0_cases, .int ru.2.1, .ref h3, g0_xs, g0_ys, g0_zs, g0_us, g0_vs, g0_ws, g0_touchTick, g0_touchHalf, g0_powers, g0_worths])), (h1, .inl (k1, 2, .inl ru.2.2.1)), (h2, .inl (k2, 536, .inl ru.2.2.2.1)), (h3, .inl (k3, 3, .inl ru.2.2.2.2)), (h4, .inl (k4, 200, .inl c4))] t.heap ∧ va_K (dC, dI) vwCl [(k1, .int), (k2, .int), (k3, .int), (k4, .int)] t ∧ va_D A [(h0, .inr (10, [.int v0_length, .ref h4, .ref h1, .ref h2, g0_balls, g0_outs, g0_sightMany, g0_sights, g0_keptMany, g0_cameras, g0_callMany, g0_calls, g0_shares, g0_rights, g0_caseMany, g0_cases, .int ru.2.1, .ref h3, g0_xs, g0_ys, g0_zs, g0_us, g0_vs, g0_ws, g0_touchTick, g0_touchHalf, g0_powers, g0_worths])), (h1, .inl (k1, 2, .inl ru.2.2.1)), (h2, .inl (k2, 536, .inl ru.2.2.2.1)), (h3, .inl (k3, 3, .inl ru.2.2.2.2)), (h4, .inl (k4, 200, .inl c4))]) A) ([.ref h0] : List Value).toArray s 0 0 A) (F0 m 55 ls []) := by
        intro c2_55 ls H locs hrun hP hD hS hl
        rw [ek55] at hrun
        refine lv_aload_n hx hb dX10_lay_55 rfl (lv_at hl 0 rfl) ?_
        refine va_get (D := (dC, dI)) (ci := 10) (v := .ref h1) (C := RX10) (T := TX10) (N := 28) hx hb hts hinX10 hown hK hP 0 rfl rfl 2 (by decide) (hts (.fieldLink RX10 13 "WasItOutModel" "itemMany" "[I") (by decide +kernel)) (fun _ h9 => h9) rfl dX10_lay_56 ?_
        refine lv_iconst (v := (0 : Int32)) hx hb dX10_lay_59 (by decide) ?_
        have hi : vp_in (0 : Int32) 2 := ixk (by decide)
        refine va_iald hx hb hK hP 1 0 rfl rfl hi dX10_lay_60 ?_
        cases hrun
        have hP9 : va_P (dC, dI) vwCl [(h0, .inr (10, [.int v0_length, .ref h4, .ref h1, .ref h2, g0_balls, g0_outs, g0_sightMany, g0_sights, g0_keptMany, g0_cameras, g0_callMany, g0_calls, g0_shares, g0_rights, g0_caseMany, g0_cases, .int q1.2.1, .ref h3, g0_xs, g0_ys, g0_zs, g0_us, g0_vs, g0_ws, g0_touchTick, g0_touchHalf, g0_powers, g0_worths])), (h1, .inl (k1, 2, .inl (upd q1.2.2.1 (0 : Int32).toNatClampNeg (q1.2.2.1 (1 : Int32).toNatClampNeg)))), (h2, .inl (k2, 536, .inl c2_55)), (h3, .inl (k3, 3, .inl q1.2.2.2.2)), (h4, .inl (k4, 200, .inl c4))] H := hP
        have hD9 : va_D A [(h0, .inr (10, [.int v0_length, .ref h4, .ref h1, .ref h2, g0_balls, g0_outs, g0_sightMany, g0_sights, g0_keptMany, g0_cameras, g0_callMany, g0_calls, g0_shares, g0_rights, g0_caseMany, g0_cases, .int q1.2.1, .ref h3, g0_xs, g0_ys, g0_zs, g0_us, g0_vs, g0_ws, g0_touchTick, g0_touchHalf, g0_powers, g0_worths])), (h1, .inl (k1, 2, .inl (upd q1.2.2.1 (0 : Int32).toNatClampNeg (q1.2.2.1 (1 : Int32).toNatClampNeg)))), (h2, .inl (k2, 536, .inl c2_55)), (h3, .inl (k3, 3, .inl q1.2.2.2.2)), (h4, .inl (k4, 200, .inl c4))] := hD
        exact W.iret hx hb hr (fun t ht hW => ⟨⟨_, (), rfl, rfl, by rw [ht]; exact hP9, va_K.moved hW.alike hK, hD9⟩, hS.F ht⟩) hS.2.2 dX10_lay_61
      have L26 : ∀ (n : Nat) (x1_26 : Int32) (c2_26 : Nat → Int32) (ls : Array Slot) (H : Heap) (locs : List Loc), fX10_lay_p26 N  k55 n x1_26 c2_26 = some ru → va_P (dC, dI) vwCl [(h0, .inr (10, [.int v0_length, .ref h4, .ref h1, .ref h2, g0_balls, g0_outs, g0_sightMany, g0_sights, g0_keptMany, g0_cameras, g0_callMany, g0_calls, g0_shares, g0_rights, g0_caseMany, g0_cases, .int q1.2.1, .ref h3, g0_xs, g0_ys, g0_zs, g0_us, g0_vs, g0_ws, g0_touchTick, g0_touchHalf, g0_powers, g0_worths])), (h1, .inl (k1, 2, .inl (upd q1.2.2.1 (0 : Int32).toNatClampNeg (q1.2.2.1 (1 : Int32).toNatClampNeg)))), (h2, .inl (k2, 536, .inl c2_26)), (h3, .inl (k3, 3, .inl q1.2.2.2.2)), (h4, .inl (k4, 200, .inl c4))] H → va_D A [(h0, .inr (10, [.int v0_length, .ref h4, .ref h1, .ref h2, g0_balls, g0_outs, g0_sightMany, g0_sights, g0_keptMany, g0_cameras, g0_callMany, g0_calls, g0_shares, g0_rights, g0_caseMany, g0_cases, .int q1.2.1, .ref h3, g0_xs, g0_ys, g0_zs, g0_us, g0_vs, g0_ws, g0_touchTick, g0_touchHalf, g0_powers, g0_worths])), (h1, .inl (k1, 2, .inl (upd q1.2.2.1 (0 : Int32).toNatClampNeg (q1.2.2.1 (1 : Int32).toNatClampNeg)))), (h2, .inl (k2, 536, .inl c2_26)), (h3, .inl (k3, 3, .inl q1.2.2.2.2)), (h4, .inl (k4, 200, .inl c4))] → va_S A s.heap H locs → lv_has ls 2 [(0, .ref h0), (1, .int x1_26)] → W p l e (headSpec wsX10_lay ({ frames := 4, cells := 0, slots := 0, locals := 94 } : Room)).room s m ([.ref h0] : List Value).toArray below meth c H locs 0 0 (MQ below (va_Qi (fun r (_ : Unit) => r = ru.1) (fun (_ : Unit) t => va_P (dC, dI) vwCl [(h0, .inr (10, [.int v0_length, .ref h4, .ref h1, .ref h2, g0_balls, g0_outs, g0_sightMany, g0_sights, g0_keptMany, g0_cameras, g0_callMany, g0_calls, g0_shares, g0_rights, g0_caseMany, g0_cases, .int ru.2.1, .ref h3, g0_xs, g0_ys, g0_zs, g0_us, g0_vs, g0_ws, g0_touchTick, g0_touchHalf, g0_powers, g0_worths])), (h1, .inl (k1, 2, .inl ru.2.2.1)), (h2, .inl (k2, 536, .inl ru.2.2.2.1)), (h3, .inl (k3, 3, .inl ru.2.2.2.2)), (h4, .inl (k4, 200, .inl c4))] t.heap ∧ va_K (dC, dI) vwCl [(k1, .int), (k2, .int), (k3, .int), (k4, .int)] t ∧ va_D A [(h0, .inr (10, [.int v0_length, .ref h4, .ref h1, .ref h2, g0_balls, g0_outs, g0_sightMany, g0_sights, g0_keptMany, g0_cameras, g0_callMany, g0_calls, g0_shares, g0_rights, g0_caseMany, g0_cases, .int ru.2.1, .ref h3, g0_xs, g0_ys, g0_zs, g0_us, g0_vs, g0_ws, g0_touchTick, g0_touchHalf, g0_powers, g0_worths])), (h1, .inl (k1, 2, .inl ru.2.2.1)), (h2, .inl (k2, 536, .inl ru.2.2.2.1)), (h3, .inl (k3, 3, .inl ru.2.2.2.2)), (h4, .inl (k4, 200, .inl c4))]) A) ([.ref h0] : List Value).toArray s 0 0 A) (F0 m 26 ls []) := by
        intro n
        induction n with
        | zero => intro x1_26 c2_26 ls H locs hrun; rw [fX10_lay_p26] at hrun; exact on_e hrun
        | succ n ih =>
          intro x1_26 c2_26 ls H locs hrun hP hD hS hl
          rw [fX10_lay_p26] at hrun
          refine lv_iload_n hx hb dX10_lay_26 rfl (lv_at hl 1 rfl) ?_
          refine lv_sipush (v := (268 : Int32)) hx hb dX10_lay_27 (by decide) ?_
          refine lv_icmp_ge (tgt := 55) hx hb dX10_lay_30 (by decide) (fun cc => ?_) (fun cc => ?_)
          · have hrun := oi_t hrun cc
            exact J55 c2_26 ls H locs hrun hP hD hS (lv_sub hl [0] rfl)
          · have hrun := oi_f hrun cc
            refine lv_aload_n hx hb dX10_lay_33 rfl (lv_at hl 0 rfl) ?_
            refine va_get (D := (dC, dI)) (ci := 10) (v := .ref h2) (C := RX10) (T := TX10) (N := 28) hx hb hts hinX10 hown hK hP 0 rfl rfl 3 (by decide) (hts (.fieldLink RX10 16 "WasItOutModel" "items" "[I") (by decide +kernel)) (fun _ h9 => h9) rfl dX10_lay_34 ?_
            refine lv_iload_n hx hb dX10_lay_37 rfl (lv_at hl 1 rfl) ?_
            refine lv_aload_n hx hb dX10_lay_38 rfl (lv_at hl 0 rfl) ?_
            refine va_get (D := (dC, dI)) (ci := 10) (v := .ref h2) (C := RX10) (T := TX10) (N := 28) hx hb hts hinX10 hown hK hP 0 rfl rfl 3 (by decide) (hts (.fieldLink RX10 16 "WasItOutModel" "items" "[I") (by decide +kernel)) (fun _ h9 => h9) rfl dX10_lay_39 ?_
            refine lv_sipush (v := (268 : Int32)) hx hb dX10_lay_42 (by decide) ?_
            refine lv_iload_n hx hb dX10_lay_45 rfl (lv_at hl 1 rfl) ?_
            refine lv_iadd hx hb dX10_lay_46 ?_
            obtain ⟨hi, hrun⟩ := oi_x hrun
            refine va_iald hx hb hK hP 2 1 rfl rfl hi dX10_lay_47 ?_
            obtain ⟨hi, hrun⟩ := oi_x hrun
            refine va_iast hx hb hK hP hD hS 2 1 rfl rfl hi dX10_lay_48 (fun H locs hP hD hS => ?_)
            have hP : va_P (dC, dI) vwCl [(h0, .inr (10, [.int v0_length, .ref h4, .ref h1, .ref h2, g0_balls, g0_outs, g0_sightMany, g0_sights, g0_keptMany, g0_cameras, g0_callMany, g0_calls, g0_shares, g0_rights, g0_caseMany, g0_cases, .int q1.2.1, .ref h3, g0_xs, g0_ys, g0_zs, g0_us, g0_vs, g0_ws, g0_touchTick, g0_touchHalf, g0_powers, g0_worths])), (h1, .inl (k1, 2, .inl (upd q1.2.2.1 (0 : Int32).toNatClampNeg (q1.2.2.1 (1 : Int32).toNatClampNeg)))), (h2, .inl (k2, 536, .inl (upd c2_26 x1_26.toNatClampNeg (c2_26 ((268 : Int32) + x1_26).toNatClampNeg)))), (h3, .inl (k3, 3, .inl q1.2.2.2.2)), (h4, .inl (k4, 200, .inl c4))] H := hP
            have hD : va_D A [(h0, .inr (10, [.int v0_length, .ref h4, .ref h1, .ref h2, g0_balls, g0_outs, g0_sightMany, g0_sights, g0_keptMany, g0_cameras, g0_callMany, g0_calls, g0_shares, g0_rights, g0_caseMany, g0_cases, .int q1.2.1, .ref h3, g0_xs, g0_ys, g0_zs, g0_us, g0_vs, g0_ws, g0_touchTick, g0_touchHalf, g0_powers, g0_worths])), (h1, .inl (k1, 2, .inl (upd q1.2.2.1 (0 : Int32).toNatClampNeg (q1.2.2.1 (1 : Int32).toNatClampNeg)))), (h2, .inl (k2, 536, .inl (upd c2_26 x1_26.toNatClampNeg (c2_26 ((268 : Int32) + x1_26).toNatClampNeg)))), (h3, .inl (k3, 3, .inl q1.2.2.2.2)), (h4, .inl (k4, 200, .inl c4))] := hD
            refine lv_iinc (v := (x1_26 + (1 : Int32))) (lv' := [(1, .int (x1_26 + (1 : Int32))), (0, .ref h0)]) hx hb dX10_lay_49 hl (k := 1) rfl rfl (by decide) rfl (fun ls hl => ?_)
            refine lv_goto (tgt := 26) hx hb dX10_lay_52 (by decide) ?_
            exact ih ((x1_26 + (1 : Int32))) ((upd c2_26 x1_26.toNatClampNeg (c2_26 ((268 : Int32) + x1_26).toNatClampNeg))) ls H locs hrun hP hD hS (lv_sub hl [1, 0] rfl)
      exact L26 N ((0 : Int32)) q1.2.2.2.1 ls H locs hrun hP hD hS (lv_sub hl [1, 0] rfl)
    · have hrun := oi_f hrun cc
      refine lv_bipush (v := (-2 : Int32)) hx hb dX10_lay_9 (by decide) ?_
      cases hrun
      have hP9 : va_P (dC, dI) vwCl [(h0, .inr (10, [.int v0_length, .ref h4, .ref h1, .ref h2, g0_balls, g0_outs, g0_sightMany, g0_sights, g0_keptMany, g0_cameras, g0_callMany, g0_calls, g0_shares, g0_rights, g0_caseMany, g0_cases, .int q1.2.1, .ref h3, g0_xs, g0_ys, g0_zs, g0_us, g0_vs, g0_ws, g0_touchTick, g0_touchHalf, g0_powers, g0_worths])), (h1, .inl (k1, 2, .inl q1.2.2.1)), (h2, .inl (k2, 536, .inl q1.2.2.2.1)), (h3, .inl (k3, 3, .inl q1.2.2.2.2)), (h4, .inl (k4, 200, .inl c4))] H := hP
      have hD9 : va_D A [(h0, .inr (10, [.int v0_length, .ref h4, .ref h1, .ref h2, g0_balls, g0_outs, g0_sightMany, g0_sights, g0_keptMany, g0_cameras, g0_callMany, g0_calls, g0_shares, g0_rights, g0_caseMany, g0_cases, .int q1.2.1, .ref h3, g0_xs, g0_ys, g0_zs, g0_us, g0_vs, g0_ws, g0_touchTick, g0_touchHalf, g0_powers, g0_worths])), (h1, .inl (k1, 2, .inl q1.2.2.1)), (h2, .inl (k2, 536, .inl q1.2.2.2.1)), (h3, .inl (k3, 3, .inl q1.2.2.2.2)), (h4, .inl (k4, 200, .inl c4))] := hD
      exact W.iret hx hb hr (fun t ht hW => ⟨⟨_, (), rfl, rfl, by rw [ht]; exact hP9, va_K.moved hW.alike hK, hD9⟩, hS.F ht⟩) hS.2.2 dX10_lay_11
  rw [hHe, hLe] at key
  exact key
set_option maxHeartbeats 4000000 in
set_option maxRecDepth 100000 in
theorem tX10_line (l : Launch) (dC : Nat → ClassId) (dI : Nat → Nat → Nat) (h0 h1 h2 : Nat) (k1 k2 : ClassId) (g0_length g0_text g0_balls g0_outs g0_sightMany g0_sights g0_keptMany g0_cameras g0_callMany g0_calls g0_shares g0_rights g0_caseMany g0_cases g0_place g0_numbers g0_xs g0_ys g0_zs g0_us g0_vs g0_ws g0_touchTick g0_touchHalf g0_powers g0_worths : Value) (N : Nat) (a1 : Int32) (c1 : Nat → Int32) (c2 : Nat → Int32) (ru : Int32) (hm : fX10_line N a1 c1 c2 = some ru) : Met l yX10_line wsX10_line ({ frames := 1, cells := 0, slots := 0, locals := 25 } : Room) (va_Pc [.ref h0, .int a1] (fun U => va_P (dC, dI) vwCl [(h0, .inr (10, [g0_length, g0_text, .ref h1, .ref h2, g0_balls, g0_outs, g0_sightMany, g0_sights, g0_keptMany, g0_cameras, g0_callMany, g0_calls, g0_shares, g0_rights, g0_caseMany, g0_cases, g0_place, g0_numbers, g0_xs, g0_ys, g0_zs, g0_us, g0_vs, g0_ws, g0_touchTick, g0_touchHalf, g0_powers, g0_worths])), (h1, .inl (k1, 2, .inl c1)), (h2, .inl (k2, 536, .inl c2))] U.heap ∧ va_K (dC, dI) vwCl [(k1, .int), (k2, .int)] U)) (vp_Si (fun r => r = ru)) 0 0 (fun _ => False) := by
  refine Met.ofW (cc := cX10_line) (maxL := 2) (ret := (some .int)) (by decide) rfl ?_
  intro p e s m args below meth c s₁ B hml hv
  obtain ⟨rfl, hP, hK⟩ := hv
  have hx := B.exec
  have hb := B.bytes
  have hr := B.returns
  have hts := atoms_spec (ws := wsX10_line) B.pre
  have hown : s.vm.findClass RX10 = some m.cls := findClass_of_methodNamed B.named
  have hlocks := B.notSynchronized
  have hl := lv_entry ([.ref h0, .int a1]) (n := 2) (Nat.le_of_ble_eq_true rfl)
  rw [lg_entry_eq]
  generalize (lg_sl ([.ref h0, .int a1]) ++ List.replicate (2 - (lg_sl ([.ref h0, .int a1])).length) Slot.unset).toArray = ls at hl ⊢
  have hl : lv_has ls 2 [(0, .ref h0), (1, .int a1)] := hl
  have hrun := hm
  rw [fX10_line] at hrun
  refine lv_iload_n hx hb dX10_line_0 rfl (lv_at hl 1 rfl) ?_
  refine lv_i2l (v := a1.toInt64) hx hb dX10_line_1 rfl ?_
  refine lv_ldc2 (v := (-100000 : Int64)) hx hb hown (hts (.constantLong RX10 127 (-100000 : Int64)) (by decide +kernel)) dX10_line_2 ?_
  refine lv_ldc2 (v := (100000 : Int64)) hx hb hown (hts (.constantLong RX10 129 (100000 : Int64)) (by decide +kernel)) dX10_line_5 ?_
  obtain ⟨q8, hc8, hrun⟩ := ob_e hrun
  refine wz_csz (va_runS (As := [.long a1.toInt64, .long (-100000 : Int64), .long (100000 : Int64)]) (rest := []) ⟨hx, hb, hml, hown, hts⟩ (tX10_in l dC dI N a1.toInt64 ((-100000 : Int64)) ((100000 : Int64)) q8 hc8) (va_cwS 3 hts gX10_line_X10_in rfl rfl rfl (by decide +kernel) ⟨Nat.le_of_ble_eq_true rfl, Nat.le_of_ble_eq_true rfl⟩) (wz_pSr (hP.sub (ws' := []) [] rfl) (hK.sub (tys' := []) [] rfl)) rfl rfl hl.1 rfl (lv_room (Nat.le_of_ble_eq_true rfl)) dX10_line_8 ⟨Nat.zero_le _, Nat.zero_le _⟩) (fun hz8 => ?_)
  refine lv_if_eq (tgt := 22) hx hb dX10_line_11 (by decide) (fun cc => ?_) (fun cc => ?_)
  · have hrun := oi_t hrun cc
    refine lv_ldc (v := (-100000 : Int32)) hx hb hown (hts (.constant RX10 134 (-100000 : Int32)) (by decide +kernel)) dX10_line_22 ?_
    exact W.iret hx hb hr (fun t ht _ => ⟨_, rfl, Option.some.inj hrun, ht⟩) (fun _ h => by cases h) dX10_line_24
  · have hrun := oi_f hrun cc
    refine lv_aload_n hx hb dX10_line_14 rfl (lv_at hl 0 rfl) ?_
    refine lv_iload_n hx hb dX10_line_15 rfl (lv_at hl 1 rfl) ?_
    obtain ⟨q16, hc16, hrun⟩ := ob_e hrun
    refine wz_csi (va_runV (As := [.int a1]) (rest := []) ⟨hx, hb, hml, hown, hts⟩ (tX10_lineAt l dC dI h0 h1 h2 k1 k2 (g0_length) (g0_text) (g0_balls) (g0_outs) (g0_sightMany) (g0_sights) (g0_keptMany) (g0_cameras) (g0_callMany) (g0_calls) (g0_shares) (g0_rights) (g0_caseMany) (g0_cases) (g0_place) (g0_numbers) (g0_xs) (g0_ys) (g0_zs) (g0_us) (g0_vs) (g0_ws) (g0_touchTick) (g0_touchHalf) (g0_powers) (g0_worths) N a1 c1 c2 q16 hc16) (cwV 1 hts gX10_line_X10_lineAt rfl rfl rfl (by decide +kernel) ⟨Nat.le_of_ble_eq_true rfl, Nat.le_of_ble_eq_true rfl⟩) (wz_pVr (hP.sub (ws' := [(h0, .inr (10, [g0_length, g0_text, .ref h1, .ref h2, g0_balls, g0_outs, g0_sightMany, g0_sights, g0_keptMany, g0_cameras, g0_callMany, g0_calls, g0_shares, g0_rights, g0_caseMany, g0_cases, g0_place, g0_numbers, g0_xs, g0_ys, g0_zs, g0_us, g0_vs, g0_ws, g0_touchTick, g0_touchHalf, g0_powers, g0_worths])), (h1, .inl (k1, 2, .inl c1)), (h2, .inl (k2, 536, .inl c2))]) [0, 1, 2] rfl) (hK.sub (tys' := [(k1, .int), (k2, .int)]) [0, 1] rfl) (va_recv hK hP (ci := 10) (q0 := 0) rfl rfl)) rfl rfl hl.1 rfl (lv_room (Nat.le_of_ble_eq_true rfl)) dX10_line_16 ⟨Nat.zero_le _, Nat.zero_le _⟩) ?_
    refine lv_goto (tgt := 24) hx hb dX10_line_19 (by decide) ?_
    exact W.iret hx hb hr (fun t ht _ => ⟨_, rfl, Option.some.inj hrun, ht⟩) (fun _ h => by cases h) dX10_line_24
set_option maxHeartbeats 4000000 in
set_option maxRecDepth 100000 in
theorem tX10_wipe (l : Launch) (dC : Nat → ClassId) (dI : Nat → Nat → Nat) (sz : Nat) (h0 : Nat) (g0_text g0_itemMany g0_items g0_balls g0_outs g0_sightMany g0_sights g0_keptMany g0_cameras g0_callMany g0_calls g0_shares g0_rights g0_caseMany g0_cases g0_place g0_numbers g0_xs g0_ys g0_zs g0_us g0_vs g0_ws g0_touchTick g0_touchHalf g0_powers g0_worths : Value) (N : Nat)  (v0_length : Int32) (ru : Int32 × (Int32)) (hm : fX10_wipe N v0_length = some ru) : Met l yX10_wipe wsX10_wipe ({ frames := 0, cells := 0, slots := 0, locals := 0 } : Room) (va_Pc [.ref h0] (fun U => U.heap.size = sz ∧ va_P (dC, dI) vwCl [(h0, .inr (10, [.int v0_length, g0_text, g0_itemMany, g0_items, g0_balls, g0_outs, g0_sightMany, g0_sights, g0_keptMany, g0_cameras, g0_callMany, g0_calls, g0_shares, g0_rights, g0_caseMany, g0_cases, g0_place, g0_numbers, g0_xs, g0_ys, g0_zs, g0_us, g0_vs, g0_ws, g0_touchTick, g0_touchHalf, g0_powers, g0_worths]))] U.heap ∧ va_K (dC, dI) vwCl [] U ∧ va_D (fun _ => True) [(h0, .inr (10, [.int v0_length, g0_text, g0_itemMany, g0_items, g0_balls, g0_outs, g0_sightMany, g0_sights, g0_keptMany, g0_cameras, g0_callMany, g0_calls, g0_shares, g0_rights, g0_caseMany, g0_cases, g0_place, g0_numbers, g0_xs, g0_ys, g0_zs, g0_us, g0_vs, g0_ws, g0_touchTick, g0_touchHalf, g0_powers, g0_worths]))])) (va_Qi (fun r (_ : Unit) => r = ru.1) (fun (_ : Unit) t => va_P (dC, dI) vwCl [(h0, .inr (10, [.int ru.2, g0_text, g0_itemMany, g0_items, g0_balls, g0_outs, g0_sightMany, g0_sights, g0_keptMany, g0_cameras, g0_callMany, g0_calls, g0_shares, g0_rights, g0_caseMany, g0_cases, g0_place, g0_numbers, g0_xs, g0_ys, g0_zs, g0_us, g0_vs, g0_ws, g0_touchTick, g0_touchHalf, g0_powers, g0_worths]))] t.heap ∧ va_K (dC, dI) vwCl [] t ∧ va_D (va_A [(h0, .inr (10, [.int v0_length, g0_text, g0_itemMany, g0_items, g0_balls, g0_outs, g0_sightMany, g0_sights, g0_keptMany, g0_cameras, g0_callMany, g0_calls, g0_shares, g0_rights, g0_caseMany, g0_cases, g0_place, g0_numbers, g0_xs, g0_ys, g0_zs, g0_us, g0_vs, g0_ws, g0_touchTick, g0_touchHalf, g0_powers, g0_worths]))] sz) [(h0, .inr (10, [.int ru.2, g0_text, g0_itemMany, g0_items, g0_balls, g0_outs, g0_sightMany, g0_sights, g0_keptMany, g0_cameras, g0_callMany, g0_calls, g0_shares, g0_rights, g0_caseMany, g0_cases, g0_place, g0_numbers, g0_xs, g0_ys, g0_zs, g0_us, g0_vs, g0_ws, g0_touchTick, g0_touchHalf, g0_powers, g0_worths]))]) (va_A [(h0, .inr (10, [.int v0_length, g0_text, g0_itemMany, g0_items, g0_balls, g0_outs, g0_sightMany, g0_sights, g0_keptMany, g0_cameras, g0_callMany, g0_calls, g0_shares, g0_rights, g0_caseMany, g0_cases, g0_place, g0_numbers, g0_xs, g0_ys, g0_zs, g0_us, g0_vs, g0_ws, g0_touchTick, g0_touchHalf, g0_powers, g0_worths]))] sz)) 0 0 (va_A [(h0, .inr (10, [.int v0_length, g0_text, g0_itemMany, g0_items, g0_balls, g0_outs, g0_sightMany, g0_sights, g0_keptMany, g0_cameras, g0_callMany, g0_calls, g0_shares, g0_rights, g0_caseMany, g0_cases, g0_place, g0_numbers, g0_xs, g0_ys, g0_zs, g0_us, g0_vs, g0_ws, g0_touchTick, g0_touchHalf, g0_powers, g0_worths]))] sz) := by
  refine Met.ofW (cc := cX10_wipe) (maxL := 2) (ret := (some .int)) (by decide) rfl ?_
  intro p e s m args below meth c s₁ B hml hv
  obtain ⟨rfl, hsz, hP, hK, hD0⟩ := hv
  have hx := B.exec
  have hb := B.bytes
  have hr := B.returns
  have hts := atoms_spec (ws := wsX10_wipe) B.pre
  have hown : s.vm.findClass RX10 = some m.cls := findClass_of_methodNamed B.named
  have hlocks := B.notSynchronized
  subst hsz
  have hD := hD0.self (sz := s.heap.size)
  generalize hAe : va_A [(h0, .inr (10, [.int v0_length, g0_text, g0_itemMany, g0_items, g0_balls, g0_outs, g0_sightMany, g0_sights, g0_keptMany, g0_cameras, g0_callMany, g0_calls, g0_shares, g0_rights, g0_caseMany, g0_cases, g0_place, g0_numbers, g0_xs, g0_ys, g0_zs, g0_us, g0_vs, g0_ws, g0_touchTick, g0_touchHalf, g0_powers, g0_worths]))] s.heap.size = A at hD ⊢
  have hA : ∀ q : Nat, s.heap.size ≤ q → A q := fun q h => by rw [← hAe]; exact Or.inr h
  have hS : va_S A s.heap s.heap [] := va_S.rf
  have hinX10 : ∀ w ∈ wsX100, w ∈ wsX10_wipe := by decide +kernel
  have hl := lv_entry ([.ref h0]) (n := 2) (Nat.le_of_ble_eq_true rfl)
  rw [lg_entry_eq]
  generalize (lg_sl ([.ref h0]) ++ List.replicate (2 - (lg_sl ([.ref h0])).length) Slot.unset).toArray = ls at hl ⊢
  have hl : lv_has ls 2 [(0, .ref h0)] := hl
  have hrun := hm
  rw [fX10_wipe] at hrun
  obtain ⟨H, hHe⟩ : ∃ H, H = s.heap := ⟨_, rfl⟩
  obtain ⟨locs, hLe⟩ : ∃ locs : List Loc, locs = [] := ⟨_, rfl⟩
  rw [← hHe] at hP
  have hS : va_S A s.heap H locs := by rw [hHe, hLe]; exact hS
  have key : W p l e (headSpec wsX10_wipe ({ frames := 0, cells := 0, slots := 0, locals := 0 } : Room)).room s m ([.ref h0] : List Value).toArray below meth c H locs 0 0 (MQ below (va_Qi (fun r (_ : Unit) => r = ru.1) (fun (_ : Unit) t => va_P (dC, dI) vwCl [(h0, .inr (10, [.int ru.2, g0_text, g0_itemMany, g0_items, g0_balls, g0_outs, g0_sightMany, g0_sights, g0_keptMany, g0_cameras, g0_callMany, g0_calls, g0_shares, g0_rights, g0_caseMany, g0_cases, g0_place, g0_numbers, g0_xs, g0_ys, g0_zs, g0_us, g0_vs, g0_ws, g0_touchTick, g0_touchHalf, g0_powers, g0_worths]))] t.heap ∧ va_K (dC, dI) vwCl [] t ∧ va_D A [(h0, .inr (10, [.int ru.2, g0_text, g0_itemMany, g0_items, g0_balls, g0_outs, g0_sightMany, g0_sights, g0_keptMany, g0_cameras, g0_callMany, g0_calls, g0_shares, g0_rights, g0_caseMany, g0_cases, g0_place, g0_numbers, g0_xs, g0_ys, g0_zs, g0_us, g0_vs, g0_ws, g0_touchTick, g0_touchHalf, g0_powers, g0_worths]))]) A) ([.ref h0] : List Value).toArray s 0 0 A) (F0 m 0 ls []) := by
    clear hHe hLe
    refine lv_aload_n hx hb dX10_wipe_0 rfl (lv_at hl 0 rfl) ?_
    refine va_get (D := (dC, dI)) (ci := 10) (v := .int v0_length) (C := RX10) (T := TX10) (N := 28) hx hb hts hinX10 hown hK hP 0 rfl rfl 0 (by decide) (hts (.fieldLink RX10 80 "WasItOutModel" "length" "I") (by decide +kernel)) (fun _ h9 => h9) rfl dX10_wipe_1 ?_
    refine lv_istore_n (lv' := [(1, .int v0_length), (0, .ref h0)]) hx hb dX10_wipe_4 rfl hl (by decide) rfl (fun ls hl => ?_)
    refine lv_aload_n hx hb dX10_wipe_5 rfl (lv_at hl 1 rfl) ?_
    refine lv_iconst (v := (0 : Int32)) hx hb dX10_wipe_6 (by decide) ?_
    refine va_put (D := (dC, dI)) (ci := 10) (v := .int (0 : Int32)) (ty := .int) (C := RX10) (T := TX10) (N := 28) hx hb hts hinX10 tyX10 tyX10_ok nmX10 hown hK hP hD hS 0 rfl rfl 0 (by decide) (hts (.fieldLink RX10 80 "WasItOutModel" "length" "I") (by decide +kernel)) (fun _ h9 => h9) rfl (by decide +kernel) rfl rfl (Nat.le_of_ble_eq_true rfl) dX10_wipe_7 (fun H locs hP hD hS => ?_)
    have hP : va_P (dC, dI) vwCl [(h0, .inr (10, [.int (0 : Int32), g0_text, g0_itemMany, g0_items, g0_balls, g0_outs, g0_sightMany, g0_sights, g0_keptMany, g0_cameras, g0_callMany, g0_calls, g0_shares, g0_rights, g0_caseMany, g0_cases, g0_place, g0_numbers, g0_xs, g0_ys, g0_zs, g0_us, g0_vs, g0_ws, g0_touchTick, g0_touchHalf, g0_powers, g0_worths]))] H := hP
    have hD : va_D A [(h0, .inr (10, [.int (0 : Int32), g0_text, g0_itemMany, g0_items, g0_balls, g0_outs, g0_sightMany, g0_sights, g0_keptMany, g0_cameras, g0_callMany, g0_calls, g0_shares, g0_rights, g0_caseMany, g0_cases, g0_place, g0_numbers, g0_xs, g0_ys, g0_zs, g0_us, g0_vs, g0_ws, g0_touchTick, g0_touchHalf, g0_powers, g0_worths]))] := hD
    refine lv_iload_n hx hb dX10_wipe_10 rfl (lv_at hl 0 rfl) ?_
    cases hrun
    have hP9 : va_P (dC, dI) vwCl [(h0, .inr (10, [.int (0 : Int32), g0_text, g0_itemMany, g0_items, g0_balls, g0_outs, g0_sightMany, g0_sights, g0_keptMany, g0_cameras, g0_callMany, g0_calls, g0_shares, g0_rights, g0_caseMany, g0_cases, g0_place, g0_numbers, g0_xs, g0_ys, g0_zs, g0_us, g0_vs, g0_ws, g0_touchTick, g0_touchHalf, g0_powers, g0_worths]))] H := hP
    have hD9 : va_D A [(h0, .inr (10, [.int (0 : Int32), g0_text, g0_itemMany, g0_items, g0_balls, g0_outs, g0_sightMany, g0_sights, g0_keptMany, g0_cameras, g0_callMany, g0_calls, g0_shares, g0_rights, g0_caseMany, g0_cases, g0_place, g0_numbers, g0_xs, g0_ys, g0_zs, g0_us, g0_vs, g0_ws, g0_touchTick, g0_touchHalf, g0_powers, g0_worths]))] := hD
    exact W.iret hx hb hr (fun t ht hW => ⟨⟨_, (), rfl, rfl, by rw [ht]; exact hP9, va_K.moved hW.alike hK, hD9⟩, hS.F ht⟩) hS.2.2 dX10_wipe_11
  rw [hHe, hLe] at key
  exact key
set_option maxHeartbeats 4000000 in
set_option maxRecDepth 100000 in
theorem tX10_write (l : Launch) (dC : Nat → ClassId) (dI : Nat → Nat → Nat) (sz : Nat) (h0 h1 : Nat) (k1 : ClassId) (g0_itemMany g0_items g0_balls g0_outs g0_sightMany g0_sights g0_keptMany g0_cameras g0_callMany g0_calls g0_shares g0_rights g0_caseMany g0_cases g0_place g0_numbers g0_xs g0_ys g0_zs g0_us g0_vs g0_ws g0_touchTick g0_touchHalf g0_powers g0_worths : Value) (N : Nat) (a1 : Int32) (a2 : Int64) (v0_length : Int32) (c1 : Nat → Int32) (ru : Int32 × (Int32) × (Nat → Int32)) (hm : fX10_write N a1 a2 v0_length c1 = some ru) : Met l yX10_write wsX10_write ({ frames := 1, cells := 0, slots := 0, locals := 25 } : Room) (va_Pc [.ref h0, .int a1, .long a2] (fun U => U.heap.size = sz ∧ va_P (dC, dI) vwCl [(h0, .inr (10, [.int v0_length, .ref h1, g0_itemMany, g0_items, g0_balls, g0_outs, g0_sightMany, g0_sights, g0_keptMany, g0_cameras, g0_callMany, g0_calls, g0_shares, g0_rights, g0_caseMany, g0_cases, g0_place, g0_numbers, g0_xs, g0_ys, g0_zs, g0_us, g0_vs, g0_ws, g0_touchTick, g0_touchHalf, g0_powers, g0_worths])), (h1, .inl (k1, 200, .inl c1))] U.heap ∧ va_K (dC, dI) vwCl [(k1, .int)] U ∧ va_D (fun _ => True) [(h0, .inr (10, [.int v0_length, .ref h1, g0_itemMany, g0_items, g0_balls, g0_outs, g0_sightMany, g0_sights, g0_keptMany, g0_cameras, g0_callMany, g0_calls, g0_shares, g0_rights, g0_caseMany, g0_cases, g0_place, g0_numbers, g0_xs, g0_ys, g0_zs, g0_us, g0_vs, g0_ws, g0_touchTick, g0_touchHalf, g0_powers, g0_worths])), (h1, .inl (k1, 200, .inl c1))])) (va_Qi (fun r (_ : Unit) => r = ru.1) (fun (_ : Unit) t => va_P (dC, dI) vwCl [(h0, .inr (10, [.int ru.2.1, .ref h1, g0_itemMany, g0_items, g0_balls, g0_outs, g0_sightMany, g0_sights, g0_keptMany, g0_cameras, g0_callMany, g0_calls, g0_shares, g0_rights, g0_caseMany, g0_cases, g0_place, g0_numbers, g0_xs, g0_ys, g0_zs, g0_us, g0_vs, g0_ws, g0_touchTick, g0_touchHalf, g0_powers, g0_worths])), (h1, .inl (k1, 200, .inl ru.2.2))] t.heap ∧ va_K (dC, dI) vwCl [(k1, .int)] t ∧ va_D (va_A [(h0, .inr (10, [.int v0_length, .ref h1, g0_itemMany, g0_items, g0_balls, g0_outs, g0_sightMany, g0_sights, g0_keptMany, g0_cameras, g0_callMany, g0_calls, g0_shares, g0_rights, g0_caseMany, g0_cases, g0_place, g0_numbers, g0_xs, g0_ys, g0_zs, g0_us, g0_vs, g0_ws, g0_touchTick, g0_touchHalf, g0_powers, g0_worths])), (h1, .inl (k1, 200, .inl c1))] sz) [(h0, .inr (10, [.int ru.2.1, .ref h1, g0_itemMany, g0_items, g0_balls, g0_outs, g0_sightMany, g0_sights, g0_keptMany, g0_cameras, g0_callMany, g0_calls, g0_shares, g0_rights, g0_caseMany, g0_cases, g0_place, g0_numbers, g0_xs, g0_ys, g0_zs, g0_us, g0_vs, g0_ws, g0_touchTick, g0_touchHalf, g0_powers, g0_worths])), (h1, .inl (k1, 200, .inl ru.2.2))]) (va_A [(h0, .inr (10, [.int v0_length, .ref h1, g0_itemMany, g0_items, g0_balls, g0_outs, g0_sightMany, g0_sights, g0_keptMany, g0_cameras, g0_callMany, g0_calls, g0_shares, g0_rights, g0_caseMany, g0_cases, g0_place, g0_numbers, g0_xs, g0_ys, g0_zs, g0_us, g0_vs, g0_ws, g0_touchTick, g0_touchHalf, g0_powers, g0_worths])), (h1, .inl (k1, 200, .inl c1))] sz)) 0 0 (va_A [(h0, .inr (10, [.int v0_length, .ref h1, g0_itemMany, g0_items, g0_balls, g0_outs, g0_sightMany, g0_sights, g0_keptMany, g0_cameras, g0_callMany, g0_calls, g0_shares, g0_rights, g0_caseMany, g0_cases, g0_place, g0_numbers, g0_xs, g0_ys, g0_zs, g0_us, g0_vs, g0_ws, g0_touchTick, g0_touchHalf, g0_powers, g0_worths])), (h1, .inl (k1, 200, .inl c1))] sz) := by
  refine Met.ofW (cc := cX10_write) (maxL := 5) (ret := (some .int)) (by decide) rfl ?_
  intro p e s m args below meth c s₁ B hml hv
  obtain ⟨rfl, hsz, hP, hK, hD0⟩ := hv
  have hx := B.exec
  have hb := B.bytes
  have hr := B.returns
  have hts := atoms_spec (ws := wsX10_write) B.pre
  have hown : s.vm.findClass RX10 = some m.cls := findClass_of_methodNamed B.named
  have hlocks := B.notSynchronized
  subst hsz
  have hD := hD0.self (sz := s.heap.size)
  generalize hAe : va_A [(h0, .inr (10, [.int v0_length, .ref h1, g0_itemMany, g0_items, g0_balls, g0_outs, g0_sightMany, g0_sights, g0_keptMany, g0_cameras, g0_callMany, g0_calls, g0_shares, g0_rights, g0_caseMany, g0_cases, g0_place, g0_numbers, g0_xs, g0_ys, g0_zs, g0_us, g0_vs, g0_ws, g0_touchTick, g0_touchHalf, g0_powers, g0_worths])), (h1, .inl (k1, 200, .inl c1))] s.heap.size = A at hD ⊢
  have hA : ∀ q : Nat, s.heap.size ≤ q → A q := fun q h => by rw [← hAe]; exact Or.inr h
  have hS : va_S A s.heap s.heap [] := va_S.rf
  have hinX10 : ∀ w ∈ wsX100, w ∈ wsX10_write := by decide +kernel
  have hl := lv_entry ([.ref h0, .int a1, .long a2]) (n := 5) (Nat.le_of_ble_eq_true rfl)
  rw [lg_entry_eq]
  generalize (lg_sl ([.ref h0, .int a1, .long a2]) ++ List.replicate (5 - (lg_sl ([.ref h0, .int a1, .long a2])).length) Slot.unset).toArray = ls at hl ⊢
  have hl : lv_has ls 5 [(0, .ref h0), (1, .int a1), (2, .long a2)] := hl
  have hrun := hm
  rw [fX10_write] at hrun
  obtain ⟨H, hHe⟩ : ∃ H, H = s.heap := ⟨_, rfl⟩
  obtain ⟨locs, hLe⟩ : ∃ locs : List Loc, locs = [] := ⟨_, rfl⟩
  rw [← hHe] at hP
  have hS : va_S A s.heap H locs := by rw [hHe, hLe]; exact hS
  have key : W p l e (headSpec wsX10_write ({ frames := 1, cells := 0, slots := 0, locals := 25 } : Room)).room s m ([.ref h0, .int a1, .long a2] : List Value).toArray below meth c H locs 0 0 (MQ below (va_Qi (fun r (_ : Unit) => r = ru.1) (fun (_ : Unit) t => va_P (dC, dI) vwCl [(h0, .inr (10, [.int ru.2.1, .ref h1, g0_itemMany, g0_items, g0_balls, g0_outs, g0_sightMany, g0_sights, g0_keptMany, g0_cameras, g0_callMany, g0_calls, g0_shares, g0_rights, g0_caseMany, g0_cases, g0_place, g0_numbers, g0_xs, g0_ys, g0_zs, g0_us, g0_vs, g0_ws, g0_touchTick, g0_touchHalf, g0_powers, g0_worths])), (h1, .inl (k1, 200, .inl ru.2.2))] t.heap ∧ va_K (dC, dI) vwCl [(k1, .int)] t ∧ va_D A [(h0, .inr (10, [.int ru.2.1, .ref h1, g0_itemMany, g0_items, g0_balls, g0_outs, g0_sightMany, g0_sights, g0_keptMany, g0_cameras, g0_callMany, g0_calls, g0_shares, g0_rights, g0_caseMany, g0_cases, g0_place, g0_numbers, g0_xs, g0_ys, g0_zs, g0_us, g0_vs, g0_ws, g0_touchTick, g0_touchHalf, g0_powers, g0_worths])), (h1, .inl (k1, 200, .inl ru.2.2))]) A) ([.ref h0, .int a1, .long a2] : List Value).toArray s 0 0 A) (F0 m 0 ls []) := by
    clear hHe hLe
    refine lv_iload_n hx hb dX10_write_0 rfl (lv_at hl 1 rfl) ?_
    refine lv_i2l (v := a1.toInt64) hx hb dX10_write_1 rfl ?_
    refine lv_lconst (v := (1 : Int64)) hx hb dX10_write_2 (by decide) ?_
    refine lv_ldc2 (v := (8 : Int64)) hx hb hown (hts (.constantLong RX10 74 (8 : Int64)) (by decide +kernel)) dX10_write_3 ?_
    obtain ⟨q6, hc6, hrun⟩ := ob_e hrun
    refine wz_csz (va_runS (As := [.long a1.toInt64, .long (1 : Int64), .long (8 : Int64)]) (rest := []) ⟨hx, hb, hml, hown, hts⟩ (tX10_in l dC dI N a1.toInt64 ((1 : Int64)) ((8 : Int64)) q6 hc6) (va_cwS 3 hts gX10_write_X10_in rfl rfl rfl (by decide +kernel) ⟨Nat.le_of_ble_eq_true rfl, Nat.le_of_ble_eq_true rfl⟩) (wz_pSr (hP.sub (ws' := []) [] rfl) (hK.sub (tys' := []) [] rfl)) rfl rfl hl.1 rfl (lv_room (Nat.le_of_ble_eq_true rfl)) dX10_write_6 ⟨Nat.zero_le _, Nat.zero_le _⟩) (fun hz6 => ?_)
    refine lv_if_ne (tgt := 14) hx hb dX10_write_9 (by decide) (fun cc => ?_) (fun cc => ?_)
    · have hrun := oi_t hrun cc
      refine lv_aload_n hx hb dX10_write_14 rfl (lv_at hl 0 rfl) ?_
      refine va_get (D := (dC, dI)) (ci := 10) (v := .int v0_length) (C := RX10) (T := TX10) (N := 28) hx hb hts hinX10 hown hK hP 0 rfl rfl 0 (by decide) (hts (.fieldLink RX10 80 "WasItOutModel" "length" "I") (by decide +kernel)) (fun _ h9 => h9) rfl dX10_write_15 ?_
      refine lv_iload_n hx hb dX10_write_18 rfl (lv_at hl 1 rfl) ?_
      refine lv_iadd hx hb dX10_write_19 ?_
      refine lv_sipush (v := (200 : Int32)) hx hb dX10_write_20 (by decide) ?_
      refine lv_icmp_le (tgt := 29) hx hb dX10_write_23 (by decide) (fun cc => ?_) (fun cc => ?_)
      · have hrun := oi_t hrun cc
        refine lv_iload_n hx hb dX10_write_29 rfl (lv_at hl 1 rfl) ?_
        refine lv_iconst (v := (1 : Int32)) hx hb dX10_write_30 (by decide) ?_
        refine lv_isub hx hb dX10_write_31 ?_
        refine lv_istore (lv' := [(4, .int (a1 - (1 : Int32))), (0, .ref h0), (1, .int a1), (2, .long a2)]) hx hb dX10_write_32 hl (by decide) rfl (fun ls hl => ?_)
        obtain ⟨k76, ek76, hrun⟩ := jn_e hrun
        have J76 : ∀ (v0_length_76 : Int32) (c1_76 : Nat → Int32) (ls : Array Slot) (H : Heap) (locs : List Loc), k76 v0_length_76 c1_76 = some ru → va_P (dC, dI) vwCl [(h0, .inr (10, [.int v0_length_76, .ref h1, g0_itemMany, g0_items, g0_balls, g0_outs, g0_sightMany, g0_sights, g0_keptMany, g0_cameras, g0_callMany, g0_calls, g0_shares, g0_rights, g0_caseMany, g0_cases, g0_place, g0_numbers, g0_xs, g0_ys, g0_zs, g0_us, g0_vs, g0_ws, g0_touchTick, g0_touchHalf, g0_powers, g0_worths])), (h1, .inl (k1, 200, .inl c1_76))] H → va_D A [(h0, .inr (10, [.int v0_length_76, .ref h1, g0_itemMany, g0_items, g0_balls, g0_outs, g0_sightMany, g0_sights, g0_keptMany, g0_cameras, g0_callMany, g0_calls, g0_shares, g0_rights, g0_caseMany, g0_cases, g0_place, g0_numbers, g0_xs, g0_ys, g0_zs, g0_us, g0_vs, g0_ws, g0_touchTick, g0_touchHalf, g0_powers, g0_worths])), (h1, .inl (k1, 200, .inl c1_76))] → va_S A s.heap H locs → lv_has ls 5 [(0, .ref h0)] → W p l e (headSpec wsX10_write ({ frames := 1, cells := 0, slots := 0, locals := 25 } : Room)).room s m ([.ref h0, .int a1, .long a2] : List Value).toArray below meth c H locs 0 0 (MQ below (va_Qi (fun r (_ : Unit) => r = ru.1) (fun (_ : Unit) t => va_P (dC, dI) vwCl [(h0, .inr (10, [.int ru.2.1, .ref h1, g0_itemMany, g0_items, g0_balls, g0_outs, g0_sightMany, g0_sights, g0_keptMany, g0_cameras, g0_callMany, g0_calls, g0_shares, g0_rights, g0_caseMany, g0_cases, g0_place, g0_numbers, g0_xs, g0_ys, g0_zs, g0_us, g0_vs, g0_ws, g0_touchTick, g0_touchHalf, g0_powers, g0_worths])), (h1, .inl (k1, 200, .inl ru.2.2))] t.heap ∧ va_K (dC, dI) vwCl [(k1, .int)] t ∧ va_D A [(h0, .inr (10, [.int ru.2.1, .ref h1, g0_itemMany, g0_items, g0_balls, g0_outs, g0_sightMany, g0_sights, g0_keptMany, g0_cameras, g0_callMany, g0_calls, g0_shares, g0_rights, g0_caseMany, g0_cases, g0_place, g0_numbers, g0_xs, g0_ys, g0_zs, g0_us, g0_vs, g0_ws, g0_touchTick, g0_touchHalf, g0_powers, g0_worths])), (h1, .inl (k1, 200, .inl ru.2.2))]) A) ([.ref h0, .int a1, .long a2] : List Value).toArray s 0 0 A) (F0 m 76 ls []) := by
          intro v0_length_76 c1_76 ls H locs hrun hP hD hS hl
          rw [ek76] at hrun
          refine lv_aload_n hx hb dX10_write_76 rfl (lv_at hl 0 rfl) ?_
          refine va_get (D := (dC, dI)) (ci := 10) (v := .int v0_length_76) (C := RX10) (T := TX10) (N := 28) hx hb hts hinX10 hown hK hP 0 rfl rfl 0 (by decide) (hts (.fieldLink RX10 80 "WasItOutModel" "length" "I") (by decide +kernel)) (fun _ h9 => h9) rfl dX10_write_77 ?_
          cases hrun
          have hP9 : va_P (dC, dI) vwCl [(h0, .inr (10, [.int v0_length_76, .ref h1, g0_itemMany, g0_items, g0_balls, g0_outs, g0_sightMany, g0_sights, g0_keptMany, g0_cameras, g0_callMany, g0_calls, g0_shares, g0_rights, g0_caseMany, g0_cases, g0_place, g0_numbers, g0_xs, g0_ys, g0_zs, g0_us, g0_vs, g0_ws, g0_touchTick, g0_touchHalf, g0_powers, g0_worths])), (h1, .inl (k1, 200, .inl c1_76))] H := hP
          have hD9 : va_D A [(h0, .inr (10, [.int v0_length_76, .ref h1, g0_itemMany, g0_items, g0_balls, g0_outs, g0_sightMany, g0_sights, g0_keptMany, g0_cameras, g0_callMany, g0_calls, g0_shares, g0_rights, g0_caseMany, g0_cases, g0_place, g0_numbers, g0_xs, g0_ys, g0_zs, g0_us, g0_vs, g0_ws, g0_touchTick, g0_touchHalf, g0_powers, g0_worths])), (h1, .inl (k1, 200, .inl c1_76))] := hD
          exact W.iret hx hb hr (fun t ht hW => ⟨⟨_, (), rfl, rfl, by rw [ht]; exact hP9, va_K.moved hW.alike hK, hD9⟩, hS.F ht⟩) hS.2.2 dX10_write_80
        have L34 : ∀ (n : Nat) (x4_34 : Int32) (v0_length_34 : Int32) (c1_34 : Nat → Int32) (ls : Array Slot) (H : Heap) (locs : List Loc), fX10_write_p34 N a2 k76 n x4_34 v0_length_34 c1_34 = some ru → va_P (dC, dI) vwCl [(h0, .inr (10, [.int v0_length_34, .ref h1, g0_itemMany, g0_items, g0_balls, g0_outs, g0_sightMany, g0_sights, g0_keptMany, g0_cameras, g0_callMany, g0_calls, g0_shares, g0_rights, g0_caseMany, g0_cases, g0_place, g0_numbers, g0_xs, g0_ys, g0_zs, g0_us, g0_vs, g0_ws, g0_touchTick, g0_touchHalf, g0_powers, g0_worths])), (h1, .inl (k1, 200, .inl c1_34))] H → va_D A [(h0, .inr (10, [.int v0_length_34, .ref h1, g0_itemMany, g0_items, g0_balls, g0_outs, g0_sightMany, g0_sights, g0_keptMany, g0_cameras, g0_callMany, g0_calls, g0_shares, g0_rights, g0_caseMany, g0_cases, g0_place, g0_numbers, g0_xs, g0_ys, g0_zs, g0_us, g0_vs, g0_ws, g0_touchTick, g0_touchHalf, g0_powers, g0_worths])), (h1, .inl (k1, 200, .inl c1_34))] → va_S A s.heap H locs → lv_has ls 5 [(0, .ref h0), (2, .long a2), (4, .int x4_34)] → W p l e (headSpec wsX10_write ({ frames := 1, cells := 0, slots := 0, locals := 25 } : Room)).room s m ([.ref h0, .int a1, .long a2] : List Value).toArray below meth c H locs 0 0 (MQ below (va_Qi (fun r (_ : Unit) => r = ru.1) (fun (_ : Unit) t => va_P (dC, dI) vwCl [(h0, .inr (10, [.int ru.2.1, .ref h1, g0_itemMany, g0_items, g0_balls, g0_outs, g0_sightMany, g0_sights, g0_keptMany, g0_cameras, g0_callMany, g0_calls, g0_shares, g0_rights, g0_caseMany, g0_cases, g0_place, g0_numbers, g0_xs, g0_ys, g0_zs, g0_us, g0_vs, g0_ws, g0_touchTick, g0_touchHalf, g0_powers, g0_worths])), (h1, .inl (k1, 200, .inl ru.2.2))] t.heap ∧ va_K (dC, dI) vwCl [(k1, .int)] t ∧ va_D A [(h0, .inr (10, [.int ru.2.1, .ref h1, g0_itemMany, g0_items, g0_balls, g0_outs, g0_sightMany, g0_sights, g0_keptMany, g0_cameras, g0_callMany, g0_calls, g0_shares, g0_rights, g0_caseMany, g0_cases, g0_place, g0_numbers, g0_xs, g0_ys, g0_zs, g0_us, g0_vs, g0_ws, g0_touchTick, g0_touchHalf, g0_powers, g0_worths])), (h1, .inl (k1, 200, .inl ru.2.2))]) A) ([.ref h0, .int a1, .long a2] : List Value).toArray s 0 0 A) (F0 m 34 ls []) := by
          intro n
          induction n with
          | zero => intro x4_34 v0_length_34 c1_34 ls H locs hrun; rw [fX10_write_p34] at hrun; exact on_e hrun
          | succ n ih =>
            intro x4_34 v0_length_34 c1_34 ls H locs hrun hP hD hS hl
            rw [fX10_write_p34] at hrun
            refine lv_iload hx hb dX10_write_34 (lv_at hl 2 rfl) ?_
            refine lv_if_lt (tgt := 76) hx hb dX10_write_36 (by decide) (fun cc => ?_) (fun cc => ?_)
            · have hrun := oi_t hrun cc
              exact J76 v0_length_34 c1_34 ls H locs hrun hP hD hS (lv_sub hl [0] rfl)
            · have hrun := oi_f hrun cc
              refine lv_aload_n hx hb dX10_write_39 rfl (lv_at hl 0 rfl) ?_
              refine va_get (D := (dC, dI)) (ci := 10) (v := .ref h1) (C := RX10) (T := TX10) (N := 28) hx hb hts hinX10 hown hK hP 0 rfl rfl 1 (by decide) (hts (.fieldLink RX10 7 "WasItOutModel" "text" "[I") (by decide +kernel)) (fun _ h9 => h9) rfl dX10_write_40 ?_
              refine lv_aload_n hx hb dX10_write_43 rfl (lv_at hl 0 rfl) ?_
              refine va_get (D := (dC, dI)) (ci := 10) (v := .int v0_length_34) (C := RX10) (T := TX10) (N := 28) hx hb hts hinX10 hown hK hP 0 rfl rfl 0 (by decide) (hts (.fieldLink RX10 80 "WasItOutModel" "length" "I") (by decide +kernel)) (fun _ h9 => h9) rfl dX10_write_44 ?_
              refine lv_lload_n hx hb dX10_write_47 rfl (lv_at hl 1 rfl) ?_
              refine lv_bipush (v := (8 : Int32)) hx hb dX10_write_48 (by decide) ?_
              refine lv_iload hx hb dX10_write_50 (lv_at hl 2 rfl) ?_
              refine lv_imul hx hb dX10_write_52 ?_
              refine lv_lshr (v := (a2 >>> (((8 : Int32) * x4_34).toInt64 &&& 63))) hx hb dX10_write_53 rfl ?_
              refine lv_ldc2 (v := (255 : Int64)) hx hb hown (hts (.constantLong RX10 84 (255 : Int64)) (by decide +kernel)) dX10_write_54 ?_
              refine lv_land hx hb dX10_write_57 ?_
              refine lv_l2i (v := ((a2 >>> (((8 : Int32) * x4_34).toInt64 &&& 63)) &&& (255 : Int64)).toInt32) hx hb dX10_write_58 rfl ?_
              obtain ⟨hi, hrun⟩ := oi_x hrun
              refine va_iast hx hb hK hP hD hS 1 0 rfl rfl hi dX10_write_59 (fun H locs hP hD hS => ?_)
              have hP : va_P (dC, dI) vwCl [(h0, .inr (10, [.int v0_length_34, .ref h1, g0_itemMany, g0_items, g0_balls, g0_outs, g0_sightMany, g0_sights, g0_keptMany, g0_cameras, g0_callMany, g0_calls, g0_shares, g0_rights, g0_caseMany, g0_cases, g0_place, g0_numbers, g0_xs, g0_ys, g0_zs, g0_us, g0_vs, g0_ws, g0_touchTick, g0_touchHalf, g0_powers, g0_worths])), (h1, .inl (k1, 200, .inl (upd c1_34 v0_length_34.toNatClampNeg ((a2 >>> (((8 : Int32) * x4_34).toInt64 &&& 63)) &&& (255 : Int64)).toInt32)))] H := hP
              have hD : va_D A [(h0, .inr (10, [.int v0_length_34, .ref h1, g0_itemMany, g0_items, g0_balls, g0_outs, g0_sightMany, g0_sights, g0_keptMany, g0_cameras, g0_callMany, g0_calls, g0_shares, g0_rights, g0_caseMany, g0_cases, g0_place, g0_numbers, g0_xs, g0_ys, g0_zs, g0_us, g0_vs, g0_ws, g0_touchTick, g0_touchHalf, g0_powers, g0_worths])), (h1, .inl (k1, 200, .inl (upd c1_34 v0_length_34.toNatClampNeg ((a2 >>> (((8 : Int32) * x4_34).toInt64 &&& 63)) &&& (255 : Int64)).toInt32)))] := hD
              refine lv_aload_n hx hb dX10_write_60 rfl (lv_at hl 0 rfl) ?_
              refine lv_dup hx hb dX10_write_61 rfl ?_
              refine va_get (D := (dC, dI)) (ci := 10) (v := .int v0_length_34) (C := RX10) (T := TX10) (N := 28) hx hb hts hinX10 hown hK hP 0 rfl rfl 0 (by decide) (hts (.fieldLink RX10 80 "WasItOutModel" "length" "I") (by decide +kernel)) (fun _ h9 => h9) rfl dX10_write_62 ?_
              refine lv_iconst (v := (1 : Int32)) hx hb dX10_write_65 (by decide) ?_
              refine lv_iadd hx hb dX10_write_66 ?_
              refine va_put (D := (dC, dI)) (ci := 10) (v := .int (v0_length_34 + (1 : Int32))) (ty := .int) (C := RX10) (T := TX10) (N := 28) hx hb hts hinX10 tyX10 tyX10_ok nmX10 hown hK hP hD hS 0 rfl rfl 0 (by decide) (hts (.fieldLink RX10 80 "WasItOutModel" "length" "I") (by decide +kernel)) (fun _ h9 => h9) rfl (by decide +kernel) rfl rfl (Nat.le_of_ble_eq_true rfl) dX10_write_67 (fun H locs hP hD hS => ?_)
              have hP : va_P (dC, dI) vwCl [(h0, .inr (10, [.int (v0_length_34 + (1 : Int32)), .ref h1, g0_itemMany, g0_items, g0_balls, g0_outs, g0_sightMany, g0_sights, g0_keptMany, g0_cameras, g0_callMany, g0_calls, g0_shares, g0_rights, g0_caseMany, g0_cases, g0_place, g0_numbers, g0_xs, g0_ys, g0_zs, g0_us, g0_vs, g0_ws, g0_touchTick, g0_touchHalf, g0_powers, g0_worths])), (h1, .inl (k1, 200, .inl (upd c1_34 v0_length_34.toNatClampNeg ((a2 >>> (((8 : Int32) * x4_34).toInt64 &&& 63)) &&& (255 : Int64)).toInt32)))] H := hP
              have hD : va_D A [(h0, .inr (10, [.int (v0_length_34 + (1 : Int32)), .ref h1, g0_itemMany, g0_items, g0_balls, g0_outs, g0_sightMany, g0_sights, g0_keptMany, g0_cameras, g0_callMany, g0_calls, g0_shares, g0_rights, g0_caseMany, g0_cases, g0_place, g0_numbers, g0_xs, g0_ys, g0_zs, g0_us, g0_vs, g0_ws, g0_touchTick, g0_touchHalf, g0_powers, g0_worths])), (h1, .inl (k1, 200, .inl (upd c1_34 v0_length_34.toNatClampNeg ((a2 >>> (((8 : Int32) * x4_34).toInt64 &&& 63)) &&& (255 : Int64)).toInt32)))] := hD
              refine lv_iinc (v := (x4_34 + (-1 : Int32))) (lv' := [(4, .int (x4_34 + (-1 : Int32))), (0, .ref h0), (2, .long a2)]) hx hb dX10_write_70 hl (k := 2) rfl rfl (by decide) rfl (fun ls hl => ?_)
              refine lv_goto (tgt := 34) hx hb dX10_write_73 (by decide) ?_
              exact ih ((x4_34 + (-1 : Int32))) ((v0_length_34 + (1 : Int32))) ((upd c1_34 v0_length_34.toNatClampNeg ((a2 >>> (((8 : Int32) * x4_34).toInt64 &&& 63)) &&& (255 : Int64)).toInt32)) ls H locs hrun hP hD hS (lv_sub hl [1, 2, 0] rfl)
        exact L34 N ((a1 - (1 : Int32))) v0_length c1 ls H locs hrun hP hD hS (lv_sub hl [1, 3, 0] rfl)
      · have hrun := oi_f hrun cc
        refine lv_bipush (v := (-3 : Int32)) hx hb dX10_write_26 (by decide) ?_
        cases hrun
        have hP9 : va_P (dC, dI) vwCl [(h0, .inr (10, [.int v0_length, .ref h1, g0_itemMany, g0_items, g0_balls, g0_outs, g0_sightMany, g0_sights, g0_keptMany, g0_cameras, g0_callMany, g0_calls, g0_shares, g0_rights, g0_caseMany, g0_cases, g0_place, g0_numbers, g0_xs, g0_ys, g0_zs, g0_us, g0_vs, g0_ws, g0_touchTick, g0_touchHalf, g0_powers, g0_worths])), (h1, .inl (k1, 200, .inl c1))] H := hP
        have hD9 : va_D A [(h0, .inr (10, [.int v0_length, .ref h1, g0_itemMany, g0_items, g0_balls, g0_outs, g0_sightMany, g0_sights, g0_keptMany, g0_cameras, g0_callMany, g0_calls, g0_shares, g0_rights, g0_caseMany, g0_cases, g0_place, g0_numbers, g0_xs, g0_ys, g0_zs, g0_us, g0_vs, g0_ws, g0_touchTick, g0_touchHalf, g0_powers, g0_worths])), (h1, .inl (k1, 200, .inl c1))] := hD
        exact W.iret hx hb hr (fun t ht hW => ⟨⟨_, (), rfl, rfl, by rw [ht]; exact hP9, va_K.moved hW.alike hK, hD9⟩, hS.F ht⟩) hS.2.2 dX10_write_28
    · have hrun := oi_n hrun cc
      refine lv_iconst (v := (-1 : Int32)) hx hb dX10_write_12 (by decide) ?_
      cases hrun
      have hP9 : va_P (dC, dI) vwCl [(h0, .inr (10, [.int v0_length, .ref h1, g0_itemMany, g0_items, g0_balls, g0_outs, g0_sightMany, g0_sights, g0_keptMany, g0_cameras, g0_callMany, g0_calls, g0_shares, g0_rights, g0_caseMany, g0_cases, g0_place, g0_numbers, g0_xs, g0_ys, g0_zs, g0_us, g0_vs, g0_ws, g0_touchTick, g0_touchHalf, g0_powers, g0_worths])), (h1, .inl (k1, 200, .inl c1))] H := hP
      have hD9 : va_D A [(h0, .inr (10, [.int v0_length, .ref h1, g0_itemMany, g0_items, g0_balls, g0_outs, g0_sightMany, g0_sights, g0_keptMany, g0_cameras, g0_callMany, g0_calls, g0_shares, g0_rights, g0_caseMany, g0_cases, g0_place, g0_numbers, g0_xs, g0_ys, g0_zs, g0_us, g0_vs, g0_ws, g0_touchTick, g0_touchHalf, g0_powers, g0_worths])), (h1, .inl (k1, 200, .inl c1))] := hD
      exact W.iret hx hb hr (fun t ht hW => ⟨⟨_, (), rfl, rfl, by rw [ht]; exact hP9, va_K.moved hW.alike hK, hD9⟩, hS.F ht⟩) hS.2.2 dX10_write_13
  rw [hHe, hLe] at key
  exact key
