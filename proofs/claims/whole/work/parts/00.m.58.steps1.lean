theorem st_write (N : Nat) (hN : 2000 < N) : St_write N (RelW N) := by
  intro a1 a2 a3 v0_keptCount v1_length c2 v3_kind c4 v5_lineCount v5_wicketStands v5_wicketX v5_wicketSide v5_wicketHigh v5_items c6 c7 c8 v9_kind c10 v11_amount v11_left c12 c13 v14_amount v14_left c15 c16 v17_amount v17_left c18 c19 c20 v21_flown v21_touchYsKnown v21_sideV v21_touchTick v21_touchX v21_touchLine v21_half c22 c23 c24 c25 c26 c27 v28_known v28_stale c29 c30 v31_amount c32 c33 c34 v35_known c36 c37 c38 c39 v40_amount c41 c42 v43_length v43_keptMany v43_callMany v43_caseMany v43_place v43_touchTick v43_touchHalf c44 c45 c46 c47 c48 c49 c50 c51 c52 c53 c54 c55 c56 c57 c58 c59 c60 c61 c62 c63 c64 h
  obtain ⟨hT, hL, hW, hC, hF, hV, hJ, hA, hK⟩ := h
  obtain ⟨q, z, e1, e2, e3, e4⟩ := write_eq N (by omega) a1 _ hT
  unfold fL_write
  rw [e1, Option.bind_some, e2, Option.bind_some, if_pos e3]
  exact ⟨_, rfl, e4, hL, hW, hC, hF, hV, hJ, hA, hK⟩
theorem st_wipe (N : Nat) (hN : 2000 < N) : St_wipe N (RelW N) := by
  intro v0_keptCount v1_length c2 v3_kind c4 v5_lineCount v5_wicketStands v5_wicketX v5_wicketSide v5_wicketHigh v5_items c6 c7 c8 v9_kind c10 v11_amount v11_left c12 c13 v14_amount v14_left c15 c16 v17_amount v17_left c18 c19 c20 v21_flown v21_touchYsKnown v21_sideV v21_touchTick v21_touchX v21_touchLine v21_half c22 c23 c24 c25 c26 c27 v28_known v28_stale c29 c30 v31_amount c32 c33 c34 v35_known c36 c37 c38 c39 v40_amount c41 c42 v43_length v43_keptMany v43_callMany v43_caseMany v43_place v43_touchTick v43_touchHalf c44 c45 c46 c47 c48 c49 c50 c51 c52 c53 c54 c55 c56 c57 c58 c59 c60 c61 c62 c63 c64 h
  obtain ⟨hT, hL, hW, hC, hF, hV, hJ, hA, hK⟩ := h
  obtain ⟨q, z, e1, e2, e3, e4⟩ := wipe_eq N hT
  unfold fL_wipe
  rw [e1, Option.bind_some, e2, Option.bind_some, if_pos e3]
  exact ⟨_, rfl, e4, hL, hW, hC, hF, hV, hJ, hA, hK⟩
theorem st_fault (N : Nat) (hN : 2000 < N) : St_fault N (RelW N) := by
  intro v0_keptCount v1_length c2 v3_kind c4 v5_lineCount v5_wicketStands v5_wicketX v5_wicketSide v5_wicketHigh v5_items c6 c7 c8 v9_kind c10 v11_amount v11_left c12 c13 v14_amount v14_left c15 c16 v17_amount v17_left c18 c19 c20 v21_flown v21_touchYsKnown v21_sideV v21_touchTick v21_touchX v21_touchLine v21_half c22 c23 c24 c25 c26 c27 v28_known v28_stale c29 c30 v31_amount c32 c33 c34 v35_known c36 c37 c38 c39 v40_amount c41 c42 v43_length v43_keptMany v43_callMany v43_caseMany v43_place v43_touchTick v43_touchHalf c44 c45 c46 c47 c48 c49 c50 c51 c52 c53 c54 c55 c56 c57 c58 c59 c60 c61 c62 c63 c64 h
  obtain ⟨hT, hL, hW, hC, hF, hV, hJ, hA, hK⟩ := h
  obtain ⟨q, z, e1, e2, e3, e4, e5⟩ := fault_eq N (by omega) hT v3_kind v43_place c4 c45 c46 c56
  unfold fL_fault
  rw [e1, Option.bind_some, e2, Option.bind_some, if_pos e3]
  exact ⟨_, rfl, hT, RL_cong e4 e5 hL, hW, hC, hF, hV, hJ, hA, hK⟩
theorem st_lay (N : Nat) (hN : 2000 < N) : St_lay N (RelW N) := by
  intro v0_keptCount v1_length c2 v3_kind c4 v5_lineCount v5_wicketStands v5_wicketX v5_wicketSide v5_wicketHigh v5_items c6 c7 c8 v9_kind c10 v11_amount v11_left c12 c13 v14_amount v14_left c15 c16 v17_amount v17_left c18 c19 c20 v21_flown v21_touchYsKnown v21_sideV v21_touchTick v21_touchX v21_touchLine v21_half c22 c23 c24 c25 c26 c27 v28_known v28_stale c29 c30 v31_amount c32 c33 c34 v35_known c36 c37 c38 c39 v40_amount c41 c42 v43_length v43_keptMany v43_callMany v43_caseMany v43_place v43_touchTick v43_touchHalf c44 c45 c46 c47 c48 c49 c50 c51 c52 c53 c54 c55 c56 c57 c58 c59 c60 c61 c62 c63 c64 h
  obtain ⟨hT, hL, hW, hC, hF, hV, hJ, hA, hK⟩ := h
  obtain ⟨q, z, e1, e2, e3, e4, e5⟩ := lay_eq N (by omega) hT hL v21_flown v21_touchYsKnown v9_kind v3_kind v28_known v28_stale v43_place c10 c4 c56
  unfold fL_lay
  rw [e1, Option.bind_some, e2, Option.bind_some, if_pos e3]
  refine ⟨_, rfl, hT, e4, hW, hC, ?_, ?_, hJ, hA, hK⟩
  · dsimp only
    rcases e5 with ⟨w1, w2, w3, w4, w5, w6, w7⟩ | ⟨w1, w2, w3⟩
    · rw [w1, w2, w3, w4, w5, w6]; exact hF
    · rw [w1, w2]; exact rf_new _ _ _ _ _ _ _ _ _ _ _ _ _ _ _
  · dsimp only
    rcases e5 with ⟨w1, w2, w3, w4, w5, w6, w7⟩ | ⟨w1, w2, w3⟩
    · rw [w4, w7]; exact hV
    · rw [w3]
      obtain ⟨a, ha, e, -⟩ := hV
      exact ⟨a, ha, e, rv_new _ _ _ _ _ _ _⟩
theorem st_law (N : Nat) (hN : 2000 < N) : St_law N (RelW N) := by
  intro a1 v0_keptCount v1_length c2 v3_kind c4 v5_lineCount v5_wicketStands v5_wicketX v5_wicketSide v5_wicketHigh v5_items c6 c7 c8 v9_kind c10 v11_amount v11_left c12 c13 v14_amount v14_left c15 c16 v17_amount v17_left c18 c19 c20 v21_flown v21_touchYsKnown v21_sideV v21_touchTick v21_touchX v21_touchLine v21_half c22 c23 c24 c25 c26 c27 v28_known v28_stale c29 c30 v31_amount c32 c33 c34 v35_known c36 c37 c38 c39 v40_amount c41 c42 v43_length v43_keptMany v43_callMany v43_caseMany v43_place v43_touchTick v43_touchHalf c44 c45 c46 c47 c48 c49 c50 c51 c52 c53 c54 c55 c56 c57 c58 c59 c60 c61 c62 c63 c64 h
  obtain ⟨hT, hL, hW, hC, hF, hV, hJ, hA, hK⟩ := h
  obtain ⟨r, e1, e2⟩ := law_eq N (by omega) a1 hL
  unfold fL_law
  rw [e1, Option.bind_some, e2, Option.bind_some, if_pos rfl]
  exact ⟨_, rfl, hT, hL, hW, hC, hF, hV, hJ, hA, hK⟩
theorem st_line (N : Nat) (hN : 2000 < N) : St_line N (RelW N) := by
  intro a1 v0_keptCount v1_length c2 v3_kind c4 v5_lineCount v5_wicketStands v5_wicketX v5_wicketSide v5_wicketHigh v5_items c6 c7 c8 v9_kind c10 v11_amount v11_left c12 c13 v14_amount v14_left c15 c16 v17_amount v17_left c18 c19 c20 v21_flown v21_touchYsKnown v21_sideV v21_touchTick v21_touchX v21_touchLine v21_half c22 c23 c24 c25 c26 c27 v28_known v28_stale c29 c30 v31_amount c32 c33 c34 v35_known c36 c37 c38 c39 v40_amount c41 c42 v43_length v43_keptMany v43_callMany v43_caseMany v43_place v43_touchTick v43_touchHalf c44 c45 c46 c47 c48 c49 c50 c51 c52 c53 c54 c55 c56 c57 c58 c59 c60 c61 c62 c63 c64 h
  obtain ⟨hT, hL, hW, hC, hF, hV, hJ, hA, hK⟩ := h
  obtain ⟨r, e1, e2⟩ := line_eq N (by omega) a1 hL
  unfold fL_line
  rw [e1, Option.bind_some, e2, Option.bind_some, if_pos rfl]
  exact ⟨_, rfl, hT, hL, hW, hC, hF, hV, hJ, hA, hK⟩
theorem st_ball (N : Nat) (hN : 2000 < N) : St_ball N (RelW N) := by
  intro a1 a2 v0_keptCount v1_length c2 v3_kind c4 v5_lineCount v5_wicketStands v5_wicketX v5_wicketSide v5_wicketHigh v5_items c6 c7 c8 v9_kind c10 v11_amount v11_left c12 c13 v14_amount v14_left c15 c16 v17_amount v17_left c18 c19 c20 v21_flown v21_touchYsKnown v21_sideV v21_touchTick v21_touchX v21_touchLine v21_half c22 c23 c24 c25 c26 c27 v28_known v28_stale c29 c30 v31_amount c32 c33 c34 v35_known c36 c37 c38 c39 v40_amount c41 c42 v43_length v43_keptMany v43_callMany v43_caseMany v43_place v43_touchTick v43_touchHalf c44 c45 c46 c47 c48 c49 c50 c51 c52 c53 c54 c55 c56 c57 c58 c59 c60 c61 c62 c63 c64 h
  obtain ⟨hT, hL, hW, hC, hF, hV, hJ, hA, hK⟩ := h
  have hB : ∀ k, k < 6 → c47 k = c12 k := fun k hk => by
    obtain ⟨-, ⟨a', ha', r1, r2, r3, r4, r5, r6, r7⟩, -, -⟩ := hW
    have := r5 k hk
    rw [Nat.mul_zero, Nat.zero_add] at this
    exact this
  obtain ⟨q, z, e1, e2, e3, e4⟩ := ball_eq N a1 a2 v21_flown v21_touchYsKnown v28_known v28_stale c12 c47 hB
  unfold fL_ball
  rw [e1, Option.bind_some, e2, Option.bind_some, if_pos e3]
  rcases e4 with ⟨w1, w2⟩ | ⟨w, hw, hv, w1, w2⟩
  · rw [w1, w2]
    exact ⟨_, rfl, hT, hL, hW, hC, hF, hV, hJ, hA, hK⟩
  · rw [w1, w2]
    obtain ⟨hk, w0, w1', w2'⟩ := hW
    obtain ⟨a, ha, e, -⟩ := hV
    exact ⟨_, rfl, hT, hL, ⟨hk, RW_ball hw hv w0, RW_bl (by decide) hw w1', RW_bl (by decide) hw w2'⟩, hC, rf_new _ _ _ _ _ _ _ _ _ _ _ _ _ _ _, ⟨a, ha, e, rv_new _ _ _ _ _ _ _⟩, hJ, hA, hK⟩
theorem st_at (N : Nat) (hN : 2000 < N) : St_at N (RelW N) := by
  intro a1 a2 a3 v0_keptCount v1_length c2 v3_kind c4 v5_lineCount v5_wicketStands v5_wicketX v5_wicketSide v5_wicketHigh v5_items c6 c7 c8 v9_kind c10 v11_amount v11_left c12 c13 v14_amount v14_left c15 c16 v17_amount v17_left c18 c19 c20 v21_flown v21_touchYsKnown v21_sideV v21_touchTick v21_touchX v21_touchLine v21_half c22 c23 c24 c25 c26 c27 v28_known v28_stale c29 c30 v31_amount c32 c33 c34 v35_known c36 c37 c38 c39 v40_amount c41 c42 v43_length v43_keptMany v43_callMany v43_caseMany v43_place v43_touchTick v43_touchHalf c44 c45 c46 c47 c48 c49 c50 c51 c52 c53 c54 c55 c56 c57 c58 c59 c60 c61 c62 c63 c64 h
  obtain ⟨hT, hL, hW, hC, hF, hV, hJ, hA, hK⟩ := h
  have hB : ∀ k, k < 6 → c47 k = c12 k := fun k hk => by
    obtain ⟨-, ⟨a', ha', r1, r2, r3, r4, r5, r6, r7⟩, -, -⟩ := hW
    have := r5 k hk
    rw [Nat.mul_zero, Nat.zero_add] at this
    exact this
  obtain ⟨q, z, e1, e2, e3, e4⟩ := at_eq N (by omega) a1 a2 a3 hL hB hF v21_sideV c26 v43_touchTick v43_touchHalf c60 c61 c62 c57 c58 c59
  unfold fL_at
  rw [e1, Option.bind_some, e2, Option.bind_some, if_pos e3]
  exact ⟨_, rfl, hT, hL, hW, hC, e4, hV, hJ, hA, hK⟩
theorem st_touch (N : Nat) (hN : 2000 < N) : St_touch N (RelW N) := by
  intro a1 a2 v0_keptCount v1_length c2 v3_kind c4 v5_lineCount v5_wicketStands v5_wicketX v5_wicketSide v5_wicketHigh v5_items c6 c7 c8 v9_kind c10 v11_amount v11_left c12 c13 v14_amount v14_left c15 c16 v17_amount v17_left c18 c19 c20 v21_flown v21_touchYsKnown v21_sideV v21_touchTick v21_touchX v21_touchLine v21_half c22 c23 c24 c25 c26 c27 v28_known v28_stale c29 c30 v31_amount c32 c33 c34 v35_known c36 c37 c38 c39 v40_amount c41 c42 v43_length v43_keptMany v43_callMany v43_caseMany v43_place v43_touchTick v43_touchHalf c44 c45 c46 c47 c48 c49 c50 c51 c52 c53 c54 c55 c56 c57 c58 c59 c60 c61 c62 c63 c64 h
  obtain ⟨hT, hL, hW, hC, hF, hV, hJ, hA, hK⟩ := h
  have hB : ∀ k, k < 6 → c47 k = c12 k := fun k hk => by
    obtain ⟨-, ⟨a', ha', r1, r2, r3, r4, r5, r6, r7⟩, -, -⟩ := hW
    have := r5 k hk
    rw [Nat.mul_zero, Nat.zero_add] at this
    exact this
  obtain ⟨q, z, e1, e2, e3, e4⟩ := touch_eq N (by omega) a1 a2 hL hB hF v21_sideV c26 v43_touchTick v43_touchHalf c60 c61 c62 c57 c58 c59
  unfold fL_touch
  rw [e1, Option.bind_some, e2, Option.bind_some, if_pos e3]
  exact ⟨_, rfl, hT, hL, hW, hC, e4, hV, hJ, hA, hK⟩
theorem st_camera (N : Nat) (hN : 2000 < N) : St_camera N (RelW N) := by
  intro a1 a2 a3 v0_keptCount v1_length c2 v3_kind c4 v5_lineCount v5_wicketStands v5_wicketX v5_wicketSide v5_wicketHigh v5_items c6 c7 c8 v9_kind c10 v11_amount v11_left c12 c13 v14_amount v14_left c15 c16 v17_amount v17_left c18 c19 c20 v21_flown v21_touchYsKnown v21_sideV v21_touchTick v21_touchX v21_touchLine v21_half c22 c23 c24 c25 c26 c27 v28_known v28_stale c29 c30 v31_amount c32 c33 c34 v35_known c36 c37 c38 c39 v40_amount c41 c42 v43_length v43_keptMany v43_callMany v43_caseMany v43_place v43_touchTick v43_touchHalf c44 c45 c46 c47 c48 c49 c50 c51 c52 c53 c54 c55 c56 c57 c58 c59 c60 c61 c62 c63 c64 h
  obtain ⟨hT, hL, hW, hC, hF, hV, hJ, hA, hK⟩ := h
  subst hC
  obtain ⟨q, z, e1, e2, e3, e4, e5⟩ := camera_eq N a1 a2 a3 c51 v28_known v28_stale
  unfold fL_camera
  rw [e1, Option.bind_some, e2, Option.bind_some, if_pos e3]
  refine ⟨_, rfl, hT, hL, hW, e4.symm, hF, ?_, hJ, hA, hK⟩
  dsimp only
  rcases e5 with ⟨w1, w2⟩ | w2
  · rw [w1, w2]; exact hV
  · rw [w2]
    obtain ⟨a, ha, e, -⟩ := hV
    exact ⟨a, ha, e, rv_new _ _ _ _ _ _ _⟩
theorem st_blur (N : Nat) (hN : 2000 < N) : St_blur N (RelW N) := by
  intro a1 a2 a3 a4 v0_keptCount v1_length c2 v3_kind c4 v5_lineCount v5_wicketStands v5_wicketX v5_wicketSide v5_wicketHigh v5_items c6 c7 c8 v9_kind c10 v11_amount v11_left c12 c13 v14_amount v14_left c15 c16 v17_amount v17_left c18 c19 c20 v21_flown v21_touchYsKnown v21_sideV v21_touchTick v21_touchX v21_touchLine v21_half c22 c23 c24 c25 c26 c27 v28_known v28_stale c29 c30 v31_amount c32 c33 c34 v35_known c36 c37 c38 c39 v40_amount c41 c42 v43_length v43_keptMany v43_callMany v43_caseMany v43_place v43_touchTick v43_touchHalf c44 c45 c46 c47 c48 c49 c50 c51 c52 c53 c54 c55 c56 c57 c58 c59 c60 c61 c62 c63 c64 h
  obtain ⟨hT, hL, hW, hC, hF, hV, hJ, hA, hK⟩ := h
  have w0 := hW.2.1
  obtain ⟨q, z, e1, e2, e3, e4⟩ := blur_eq N a1 a2 a3 a4 w0
  unfold fL_blur
  rw [e1, Option.bind_some, e2, Option.bind_some, if_pos e3]
  rcases e4 with ⟨y1, y2, y3, y4⟩ | ⟨a, x0, x1, x2, x3, x4, x5, u0, u1, u2, u3, u4, u5, ha, y0, y1, y2, y3, y4, hS⟩
  · rw [y1, y2, y3, y4]
    exact ⟨_, rfl, hT, hL, hW, hC, hF, hV, hJ, hA, hK⟩
  · rw [y1, y2, y3, y4]
    obtain ⟨hk, w0', w1', w2'⟩ := hW
    obtain ⟨a', ha', e, hV⟩ := hV
    have ee : a = a' := (nI_eq (by omega) (by omega)).mp (y0.symm.trans e)
    subst ee
    rw [y0] at w0'
    exact ⟨_, rfl, hT, hL, ⟨hk, RW_add ha w0' hS, RW_add2 ha (by decide) w1', RW_add2 ha (by decide) w2'⟩, hC, hF, ⟨a + 1, by omega, rfl, RV_more (by omega) (fun i hi j hj => up6_out (by omega)) hV⟩, hJ, hA, hK⟩
theorem st_mark (N : Nat) (hN : 2000 < N) : St_mark N (RelW N) := by
  intro a1 a2 a3 v0_keptCount v1_length c2 v3_kind c4 v5_lineCount v5_wicketStands v5_wicketX v5_wicketSide v5_wicketHigh v5_items c6 c7 c8 v9_kind c10 v11_amount v11_left c12 c13 v14_amount v14_left c15 c16 v17_amount v17_left c18 c19 c20 v21_flown v21_touchYsKnown v21_sideV v21_touchTick v21_touchX v21_touchLine v21_half c22 c23 c24 c25 c26 c27 v28_known v28_stale c29 c30 v31_amount c32 c33 c34 v35_known c36 c37 c38 c39 v40_amount c41 c42 v43_length v43_keptMany v43_callMany v43_caseMany v43_place v43_touchTick v43_touchHalf c44 c45 c46 c47 c48 c49 c50 c51 c52 c53 c54 c55 c56 c57 c58 c59 c60 c61 c62 c63 c64 h
  obtain ⟨hT, hL, hW, hC, hF, hV, hJ, hA, hK⟩ := h
  have w0 := hW.2.1
  obtain ⟨q, z, e1, e2, e3, e4⟩ := mark_eq N a1 a2 a3 w0
  unfold fL_mark
  rw [e1, Option.bind_some, e2, Option.bind_some, if_pos e3]
  rcases e4 with ⟨y1, y2, y3, y4⟩ | ⟨a, x0, x1, x2, x3, x4, x5, u0, u1, u2, u3, u4, u5, ha, y0, y1, y2, y3, y4, hS⟩
  · rw [y1, y2, y3, y4]
    exact ⟨_, rfl, hT, hL, hW, hC, hF, hV, hJ, hA, hK⟩
  · rw [y1, y2, y3, y4]
    obtain ⟨hk, w0', w1', w2'⟩ := hW
    obtain ⟨a', ha', e, hV⟩ := hV
    have ee : a = a' := (nI_eq (by omega) (by omega)).mp (y0.symm.trans e)
    subst ee
    rw [y0] at w0'
    exact ⟨_, rfl, hT, hL, ⟨hk, RW_add ha w0' hS, RW_add2 ha (by decide) w1', RW_add2 ha (by decide) w2'⟩, hC, hF, ⟨a + 1, by omega, rfl, RV_more (by omega) (fun i hi j hj => up6_out (by omega)) hV⟩, hJ, hA, hK⟩
theorem st_heard (N : Nat) (hN : 2000 < N) : St_heard N (RelW N) := by
  intro a1 a2 a3 a4 a5 v0_keptCount v1_length c2 v3_kind c4 v5_lineCount v5_wicketStands v5_wicketX v5_wicketSide v5_wicketHigh v5_items c6 c7 c8 v9_kind c10 v11_amount v11_left c12 c13 v14_amount v14_left c15 c16 v17_amount v17_left c18 c19 c20 v21_flown v21_touchYsKnown v21_sideV v21_touchTick v21_touchX v21_touchLine v21_half c22 c23 c24 c25 c26 c27 v28_known v28_stale c29 c30 v31_amount c32 c33 c34 v35_known c36 c37 c38 c39 v40_amount c41 c42 v43_length v43_keptMany v43_callMany v43_caseMany v43_place v43_touchTick v43_touchHalf c44 c45 c46 c47 c48 c49 c50 c51 c52 c53 c54 c55 c56 c57 c58 c59 c60 c61 c62 c63 c64 h
  obtain ⟨hT, hL, hW, hC, hF, hV, hJ, hA, hK⟩ := h
  have w0 := hW.2.1
  obtain ⟨q, z, e1, e2, e3, e4⟩ := heard_eq N a1 a2 a3 a4 a5 w0
  unfold fL_heard
  rw [e1, Option.bind_some, e2, Option.bind_some, if_pos e3]
  rcases e4 with ⟨y1, y2, y3, y4⟩ | ⟨a, x0, x1, x2, x3, x4, x5, u0, u1, u2, u3, u4, u5, ha, y0, y1, y2, y3, y4, hS⟩
  · rw [y1, y2, y3, y4]
    exact ⟨_, rfl, hT, hL, hW, hC, hF, hV, hJ, hA, hK⟩
  · rw [y1, y2, y3, y4]
    obtain ⟨hk, w0', w1', w2'⟩ := hW
    obtain ⟨a', ha', e, hV⟩ := hV
    have ee : a = a' := (nI_eq (by omega) (by omega)).mp (y0.symm.trans e)
    subst ee
    rw [y0] at w0'
    exact ⟨_, rfl, hT, hL, ⟨hk, RW_add ha w0' hS, RW_add2 ha (by decide) w1', RW_add2 ha (by decide) w2'⟩, hC, hF, ⟨a + 1, by omega, rfl, RV_more (by omega) (fun i hi j hj => up6_out (by omega)) hV⟩, hJ, hA, hK⟩
theorem st_noSights (N : Nat) (hN : 2000 < N) : St_noSights N (RelW N) := by
  intro v0_keptCount v1_length c2 v3_kind c4 v5_lineCount v5_wicketStands v5_wicketX v5_wicketSide v5_wicketHigh v5_items c6 c7 c8 v9_kind c10 v11_amount v11_left c12 c13 v14_amount v14_left c15 c16 v17_amount v17_left c18 c19 c20 v21_flown v21_touchYsKnown v21_sideV v21_touchTick v21_touchX v21_touchLine v21_half c22 c23 c24 c25 c26 c27 v28_known v28_stale c29 c30 v31_amount c32 c33 c34 v35_known c36 c37 c38 c39 v40_amount c41 c42 v43_length v43_keptMany v43_callMany v43_caseMany v43_place v43_touchTick v43_touchHalf c44 c45 c46 c47 c48 c49 c50 c51 c52 c53 c54 c55 c56 c57 c58 c59 c60 c61 c62 c63 c64 h
  obtain ⟨hT, hL, hW, hC, hF, hV, hJ, hA, hK⟩ := h
  obtain ⟨hk, w0', w1', w2'⟩ := hW
  obtain ⟨q, z, e1, e2, e3, e4, e5, e6⟩ := noS_eq N v28_known v28_stale w0'
  unfold fL_noSights
  rw [e1, Option.bind_some, e2, Option.bind_some, if_pos e3, e4, e5]
  exact ⟨_, rfl, hT, hL, ⟨hk, e6, RW_sm (by decide) w1', RW_sm (by decide) w2'⟩, hC, hF, ⟨0, by decide, rfl, rv_new _ _ _ _ _ _ _⟩, hJ, hA, hK⟩
theorem st_leave (N : Nat) (hN : 2000 < N) : St_leave N (RelW N) := by
  intro a1 v0_keptCount v1_length c2 v3_kind c4 v5_lineCount v5_wicketStands v5_wicketX v5_wicketSide v5_wicketHigh v5_items c6 c7 c8 v9_kind c10 v11_amount v11_left c12 c13 v14_amount v14_left c15 c16 v17_amount v17_left c18 c19 c20 v21_flown v21_touchYsKnown v21_sideV v21_touchTick v21_touchX v21_touchLine v21_half c22 c23 c24 c25 c26 c27 v28_known v28_stale c29 c30 v31_amount c32 c33 c34 v35_known c36 c37 c38 c39 v40_amount c41 c42 v43_length v43_keptMany v43_callMany v43_caseMany v43_place v43_touchTick v43_touchHalf c44 c45 c46 c47 c48 c49 c50 c51 c52 c53 c54 c55 c56 c57 c58 c59 c60 c61 c62 c63 c64 h
  obtain ⟨hT, hL, hW, hC, hF, hV, hJ, hA, hK⟩ := h
  obtain ⟨hk, w0', w1', w2'⟩ := hW
  obtain ⟨q, z, e1, e2, e3, e4⟩ := leave_eq N a1 (show v11_left = c48 0 by obtain ⟨a', ha', r1, r2, r3, -⟩ := w0'; exact r3)
  unfold fL_leave
  rw [e1, Option.bind_some, e2, Option.bind_some, if_pos e3]
  rcases e4 with ⟨y1, y2⟩ | ⟨m, hm, y1, y2⟩
  · rw [y1, y2]
    exact ⟨_, rfl, hT, hL, ⟨hk, w0', w1', w2'⟩, hC, hF, hV, hJ, hA, hK⟩
  · rw [y1, y2]
    exact ⟨_, rfl, hT, hL, ⟨hk, RW_leave hm w0', RW_ou (by decide) w1', RW_ou (by decide) w2'⟩, hC, hF, hV, hJ, hA, hK⟩
theorem st_fits (N : Nat) (hN : 2000 < N) : St_fits N (RelW N) := by
  intro a1 a2 v0_keptCount v1_length c2 v3_kind c4 v5_lineCount v5_wicketStands v5_wicketX v5_wicketSide v5_wicketHigh v5_items c6 c7 c8 v9_kind c10 v11_amount v11_left c12 c13 v14_amount v14_left c15 c16 v17_amount v17_left c18 c19 c20 v21_flown v21_touchYsKnown v21_sideV v21_touchTick v21_touchX v21_touchLine v21_half c22 c23 c24 c25 c26 c27 v28_known v28_stale c29 c30 v31_amount c32 c33 c34 v35_known c36 c37 c38 c39 v40_amount c41 c42 v43_length v43_keptMany v43_callMany v43_caseMany v43_place v43_touchTick v43_touchHalf c44 c45 c46 c47 c48 c49 c50 c51 c52 c53 c54 c55 c56 c57 c58 c59 c60 c61 c62 c63 c64 h
  obtain ⟨hT, hL, hW, hC, hF, hV, hJ, hA, hK⟩ := h
  subst hC
  obtain ⟨a, ha, e, hP⟩ := pv_of hL hW hF hV
  obtain ⟨q, z, e1, e2, e3, e4⟩ := fits_eq N (by omega) a1 a2 hP v21_sideV c26 v43_touchTick v43_touchHalf c60 c61 c62 c57 c58 c59
  unfold fL_fits
  rw [e1, Option.bind_some, e2, Option.bind_some, if_pos e3]
  exact ⟨_, rfl, hT, hL, hW, rfl, e4.1, ⟨a, ha, e, e4.2⟩, hJ, hA, hK⟩
theorem st_fitting (N : Nat) (hN : 2000 < N) : St_fitting N (RelW N) := by
  intro a1 v0_keptCount v1_length c2 v3_kind c4 v5_lineCount v5_wicketStands v5_wicketX v5_wicketSide v5_wicketHigh v5_items c6 c7 c8 v9_kind c10 v11_amount v11_left c12 c13 v14_amount v14_left c15 c16 v17_amount v17_left c18 c19 c20 v21_flown v21_touchYsKnown v21_sideV v21_touchTick v21_touchX v21_touchLine v21_half c22 c23 c24 c25 c26 c27 v28_known v28_stale c29 c30 v31_amount c32 c33 c34 v35_known c36 c37 c38 c39 v40_amount c41 c42 v43_length v43_keptMany v43_callMany v43_caseMany v43_place v43_touchTick v43_touchHalf c44 c45 c46 c47 c48 c49 c50 c51 c52 c53 c54 c55 c56 c57 c58 c59 c60 c61 c62 c63 c64 h
  obtain ⟨hT, hL, hW, hC, hF, hV, hJ, hA, hK⟩ := h
  subst hC
  obtain ⟨a, ha, e, hP⟩ := pv_of hL hW hF hV
  obtain ⟨q, z, e1, e2, e3, e4⟩ := fitting_eq N (by omega) a1 hP v21_sideV c26 v43_touchTick v43_touchHalf c60 c61 c62 c57 c58 c59
  unfold fL_fitting
  rw [e1, Option.bind_some, e2, Option.bind_some, if_pos e3]
  exact ⟨_, rfl, hT, hL, hW, rfl, e4.1, ⟨a, ha, e, e4.2⟩, hJ, hA, hK⟩
