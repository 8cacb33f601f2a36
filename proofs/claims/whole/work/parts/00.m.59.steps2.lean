theorem st_odds (N : Nat) (hN : 2000 < N) : St_odds N (RelW N) := by
  intro a1 v0_keptCount v1_length c2 v3_kind c4 v5_lineCount v5_wicketStands v5_wicketX v5_wicketSide v5_wicketHigh v5_items c6 c7 c8 v9_kind c10 v11_amount v11_left c12 c13 v14_amount v14_left c15 c16 v17_amount v17_left c18 c19 c20 v21_flown v21_touchYsKnown v21_sideV v21_touchTick v21_touchX v21_touchLine v21_half c22 c23 c24 c25 c26 c27 v28_known v28_stale c29 c30 v31_amount c32 c33 c34 v35_known c36 c37 c38 c39 v40_amount c41 c42 v43_length v43_keptMany v43_callMany v43_caseMany v43_place v43_touchTick v43_touchHalf c44 c45 c46 c47 c48 c49 c50 c51 c52 c53 c54 c55 c56 c57 c58 c59 c60 c61 c62 c63 c64 h
  obtain ⟨hT, hL, hW, hC, hF, hV, hJ, hA, hK⟩ := h
  subst hC
  obtain ⟨a, ha, e, hP⟩ := pv_of hL hW hF hV
  obtain ⟨q, z, e1, e2, e3, e4⟩ := odds_eq N (by omega) a1 hP v21_sideV c26 v43_touchTick v43_touchHalf c60 c61 c62 c57 c58 c59
  unfold fL_odds
  rw [e1, Option.bind_some, e2, Option.bind_some, if_pos e3]
  exact ⟨_, rfl, hT, hL, hW, rfl, e4.1, ⟨a, ha, e, e4.2⟩, hJ, hA, hK⟩
theorem st_shown (N : Nat) (hN : 2000 < N) : St_shown N (RelW N) := by
  intro a1 v0_keptCount v1_length c2 v3_kind c4 v5_lineCount v5_wicketStands v5_wicketX v5_wicketSide v5_wicketHigh v5_items c6 c7 c8 v9_kind c10 v11_amount v11_left c12 c13 v14_amount v14_left c15 c16 v17_amount v17_left c18 c19 c20 v21_flown v21_touchYsKnown v21_sideV v21_touchTick v21_touchX v21_touchLine v21_half c22 c23 c24 c25 c26 c27 v28_known v28_stale c29 c30 v31_amount c32 c33 c34 v35_known c36 c37 c38 c39 v40_amount c41 c42 v43_length v43_keptMany v43_callMany v43_caseMany v43_place v43_touchTick v43_touchHalf c44 c45 c46 c47 c48 c49 c50 c51 c52 c53 c54 c55 c56 c57 c58 c59 c60 c61 c62 c63 c64 h
  obtain ⟨hT, hL, hW, hC, hF, hV, hJ, hA, hK⟩ := h
  subst hC
  obtain ⟨a, ha, e, hP⟩ := pv_of hL hW hF hV
  obtain ⟨q, z, e1, e2, e3, e4⟩ := shown_eq N (by omega) a1 hP v21_sideV c26 v43_touchTick v43_touchHalf c60 c61 c62 c57 c58 c59
  unfold fL_shown
  rw [e1, Option.bind_some, e2, Option.bind_some, if_pos e3]
  exact ⟨_, rfl, hT, hL, hW, rfl, e4.1, ⟨a, ha, e, e4.2⟩, hJ, hA, hK⟩
theorem st_apart (N : Nat) (hN : 2000 < N) : St_apart N (RelW N) := by
  intro a1 a2 v0_keptCount v1_length c2 v3_kind c4 v5_lineCount v5_wicketStands v5_wicketX v5_wicketSide v5_wicketHigh v5_items c6 c7 c8 v9_kind c10 v11_amount v11_left c12 c13 v14_amount v14_left c15 c16 v17_amount v17_left c18 c19 c20 v21_flown v21_touchYsKnown v21_sideV v21_touchTick v21_touchX v21_touchLine v21_half c22 c23 c24 c25 c26 c27 v28_known v28_stale c29 c30 v31_amount c32 c33 c34 v35_known c36 c37 c38 c39 v40_amount c41 c42 v43_length v43_keptMany v43_callMany v43_caseMany v43_place v43_touchTick v43_touchHalf c44 c45 c46 c47 c48 c49 c50 c51 c52 c53 c54 c55 c56 c57 c58 c59 c60 c61 c62 c63 c64 h
  obtain ⟨hT, hL, hW, hC, hF, hV, hJ, hA, hK⟩ := h
  have hB : ∀ k, k < 6 → c47 k = c12 k := fun k hk => by
    obtain ⟨-, ⟨a', ha', r1, r2, r3, r4, r5, r6, r7⟩, -, -⟩ := hW
    have := r5 k hk
    rw [Nat.mul_zero, Nat.zero_add] at this
    exact this
  have hb : BD c12 := by
    obtain ⟨-, ⟨a', ha', r1, r2, r3, r4, r5, r6, r7⟩, -, -⟩ := hW
    exact r6
  obtain ⟨q, z, e1, e2, e3, e4⟩ := apart_eq N (by omega) a1 a2 hL hB hb.1 hb.2 hF v21_sideV c26 v43_touchTick v43_touchHalf c60 c61 c62 c57 c58 c59
  unfold fL_apart
  rw [e1, Option.bind_some, e2, Option.bind_some, if_pos e3]
  exact ⟨_, rfl, hT, hL, hW, hC, e4, hV, hJ, hA, hK⟩
theorem st_moved (N : Nat) (hN : 2000 < N) : St_moved N (RelW N) := by
  intro v0_keptCount v1_length c2 v3_kind c4 v5_lineCount v5_wicketStands v5_wicketX v5_wicketSide v5_wicketHigh v5_items c6 c7 c8 v9_kind c10 v11_amount v11_left c12 c13 v14_amount v14_left c15 c16 v17_amount v17_left c18 c19 c20 v21_flown v21_touchYsKnown v21_sideV v21_touchTick v21_touchX v21_touchLine v21_half c22 c23 c24 c25 c26 c27 v28_known v28_stale c29 c30 v31_amount c32 c33 c34 v35_known c36 c37 c38 c39 v40_amount c41 c42 v43_length v43_keptMany v43_callMany v43_caseMany v43_place v43_touchTick v43_touchHalf c44 c45 c46 c47 c48 c49 c50 c51 c52 c53 c54 c55 c56 c57 c58 c59 c60 c61 c62 c63 c64 h
  obtain ⟨hT, hL, hW, hC, hF, hV, hJ, hA, hK⟩ := h
  subst hC
  obtain ⟨a, ha, e, hP⟩ := pv_of hL hW hF hV
  obtain ⟨q, z, e1, e2, e3, e4⟩ := moved_eq N (by omega) hP v21_sideV c26 v43_touchTick v43_touchHalf c60 c61 c62 c57 c58 c59
  unfold fL_moved
  rw [e1, Option.bind_some, e2, Option.bind_some, if_pos e3]
  exact ⟨_, rfl, hT, hL, hW, rfl, e4.1, ⟨a, ha, e, e4.2⟩, hJ, hA, hK⟩
theorem st_whose (N : Nat) (hN : 2000 < N) : St_whose N (RelW N) := by
  intro a1 v0_keptCount v1_length c2 v3_kind c4 v5_lineCount v5_wicketStands v5_wicketX v5_wicketSide v5_wicketHigh v5_items c6 c7 c8 v9_kind c10 v11_amount v11_left c12 c13 v14_amount v14_left c15 c16 v17_amount v17_left c18 c19 c20 v21_flown v21_touchYsKnown v21_sideV v21_touchTick v21_touchX v21_touchLine v21_half c22 c23 c24 c25 c26 c27 v28_known v28_stale c29 c30 v31_amount c32 c33 c34 v35_known c36 c37 c38 c39 v40_amount c41 c42 v43_length v43_keptMany v43_callMany v43_caseMany v43_place v43_touchTick v43_touchHalf c44 c45 c46 c47 c48 c49 c50 c51 c52 c53 c54 c55 c56 c57 c58 c59 c60 c61 c62 c63 c64 h
  obtain ⟨hT, hL, hW, hC, hF, hV, hJ, hA, hK⟩ := h
  subst hC
  obtain ⟨a, ha, e, hP⟩ := pv_of hL hW hF hV
  obtain ⟨q, z, e1, e2, e3, e4⟩ := whose_eq N (by omega) a1 hP v21_sideV c26 v43_touchTick v43_touchHalf c60 c61 c62 c57 c58 c59
  unfold fL_whose
  rw [e1, Option.bind_some, e2, Option.bind_some, if_pos e3]
  exact ⟨_, rfl, hT, hL, hW, rfl, e4.1, ⟨a, ha, e, e4.2⟩, hJ, hA, hK⟩
theorem st_would (N : Nat) (hN : 2000 < N) : St_would N (RelW N) := by
  intro a1 v0_keptCount v1_length c2 v3_kind c4 v5_lineCount v5_wicketStands v5_wicketX v5_wicketSide v5_wicketHigh v5_items c6 c7 c8 v9_kind c10 v11_amount v11_left c12 c13 v14_amount v14_left c15 c16 v17_amount v17_left c18 c19 c20 v21_flown v21_touchYsKnown v21_sideV v21_touchTick v21_touchX v21_touchLine v21_half c22 c23 c24 c25 c26 c27 v28_known v28_stale c29 c30 v31_amount c32 c33 c34 v35_known c36 c37 c38 c39 v40_amount c41 c42 v43_length v43_keptMany v43_callMany v43_caseMany v43_place v43_touchTick v43_touchHalf c44 c45 c46 c47 c48 c49 c50 c51 c52 c53 c54 c55 c56 c57 c58 c59 c60 c61 c62 c63 c64 h
  obtain ⟨hT, hL, hW, hC, hF, hV, hJ, hA, hK⟩ := h
  subst hC
  obtain ⟨a, ha, e, hP⟩ := pv_of hL hW hF hV
  obtain ⟨q, z, e1, e2, e3, e4⟩ := would_eq N (by omega) a1 hP v21_sideV c26 v43_touchTick v43_touchHalf c60 c61 c62 c57 c58 c59
  unfold fL_would
  rw [e1, Option.bind_some, e2, Option.bind_some, if_pos e3]
  exact ⟨_, rfl, hT, hL, hW, rfl, e4.1, ⟨a, ha, e, e4.2⟩, hJ, hA, hK⟩
theorem st_call (N : Nat) (hN : 2000 < N) : St_call N (RelW N) := by
  intro a1 a2 a3 v0_keptCount v1_length c2 v3_kind c4 v5_lineCount v5_wicketStands v5_wicketX v5_wicketSide v5_wicketHigh v5_items c6 c7 c8 v9_kind c10 v11_amount v11_left c12 c13 v14_amount v14_left c15 c16 v17_amount v17_left c18 c19 c20 v21_flown v21_touchYsKnown v21_sideV v21_touchTick v21_touchX v21_touchLine v21_half c22 c23 c24 c25 c26 c27 v28_known v28_stale c29 c30 v31_amount c32 c33 c34 v35_known c36 c37 c38 c39 v40_amount c41 c42 v43_length v43_keptMany v43_callMany v43_caseMany v43_place v43_touchTick v43_touchHalf c44 c45 c46 c47 c48 c49 c50 c51 c52 c53 c54 c55 c56 c57 c58 c59 c60 c61 c62 c63 c64 h
  obtain ⟨hT, hL, hW, hC, hF, hV, hJ, hA, hK⟩ := h
  unfold fL_call
  by_cases d : a3 = 0
  · obtain ⟨q, z, e1, e2, e3, e4⟩ := call_eq N a1 a2 0 (Or.inl rfl) hJ
    rw [if_pos d, e1, Option.bind_some, if_pos d, e2, Option.bind_some, if_pos e3]
    exact ⟨_, rfl, hT, hL, hW, hC, hF, hV, e4, hA, hK⟩
  · obtain ⟨q, z, e1, e2, e3, e4⟩ := call_eq N a1 a2 1 (Or.inr rfl) hJ
    rw [if_neg d, e1, Option.bind_some, if_neg d, e2, Option.bind_some, if_pos e3]
    exact ⟨_, rfl, hT, hL, hW, hC, hF, hV, e4, hA, hK⟩
theorem st_lean (N : Nat) (hN : 2000 < N) : St_lean N (RelW N) := by
  intro a1 a2 v0_keptCount v1_length c2 v3_kind c4 v5_lineCount v5_wicketStands v5_wicketX v5_wicketSide v5_wicketHigh v5_items c6 c7 c8 v9_kind c10 v11_amount v11_left c12 c13 v14_amount v14_left c15 c16 v17_amount v17_left c18 c19 c20 v21_flown v21_touchYsKnown v21_sideV v21_touchTick v21_touchX v21_touchLine v21_half c22 c23 c24 c25 c26 c27 v28_known v28_stale c29 c30 v31_amount c32 c33 c34 v35_known c36 c37 c38 c39 v40_amount c41 c42 v43_length v43_keptMany v43_callMany v43_caseMany v43_place v43_touchTick v43_touchHalf c44 c45 c46 c47 c48 c49 c50 c51 c52 c53 c54 c55 c56 c57 c58 c59 c60 c61 c62 c63 c64 h
  obtain ⟨hT, hL, hW, hC, hF, hV, hJ, hA, hK⟩ := h
  obtain ⟨r, e1, e2⟩ : ∃ r, fX9_lean N a1 a2 v31_amount c32 c34 c33 = some r ∧ fX10_lean N a1 a2 v43_callMany c52 = some r := by
    obtain ⟨a, ha, r1, r2, r3, r4, r5⟩ := hJ
    rw [r1, r2]
    exact lean_eq N a ha (by omega) a1 a2 c32 c34 c33 c52 (funext r3) (funext r4) (funext r5)
  unfold fL_lean
  rw [e1, Option.bind_some, e2, Option.bind_some, if_pos rfl]
  exact ⟨_, rfl, hT, hL, hW, hC, hF, hV, hJ, hA, hK⟩
theorem st_sort (N : Nat) (hN : 2000 < N) : St_sort N (RelW N) := by
  intro a1 a2 a3 v0_keptCount v1_length c2 v3_kind c4 v5_lineCount v5_wicketStands v5_wicketX v5_wicketSide v5_wicketHigh v5_items c6 c7 c8 v9_kind c10 v11_amount v11_left c12 c13 v14_amount v14_left c15 c16 v17_amount v17_left c18 c19 c20 v21_flown v21_touchYsKnown v21_sideV v21_touchTick v21_touchX v21_touchLine v21_half c22 c23 c24 c25 c26 c27 v28_known v28_stale c29 c30 v31_amount c32 c33 c34 v35_known c36 c37 c38 c39 v40_amount c41 c42 v43_length v43_keptMany v43_callMany v43_caseMany v43_place v43_touchTick v43_touchHalf c44 c45 c46 c47 c48 c49 c50 c51 c52 c53 c54 c55 c56 c57 c58 c59 c60 c61 c62 c63 c64 h
  obtain ⟨hT, hL, hW, hC, hF, hV, hJ, hA, hK⟩ := h
  obtain ⟨q, z, e1, e2, e3, e4⟩ := sort_eq N a1 a2 a3 hA
  unfold fL_sort
  rw [e1, Option.bind_some, e2, Option.bind_some, if_pos e3]
  exact ⟨_, rfl, hT, hL, hW, hC, hF, hV, hJ, e4, hK⟩
theorem st_worth (N : Nat) (hN : 2000 < N) : St_worth N (RelW N) := by
  intro a1 a2 a3 v0_keptCount v1_length c2 v3_kind c4 v5_lineCount v5_wicketStands v5_wicketX v5_wicketSide v5_wicketHigh v5_items c6 c7 c8 v9_kind c10 v11_amount v11_left c12 c13 v14_amount v14_left c15 c16 v17_amount v17_left c18 c19 c20 v21_flown v21_touchYsKnown v21_sideV v21_touchTick v21_touchX v21_touchLine v21_half c22 c23 c24 c25 c26 c27 v28_known v28_stale c29 c30 v31_amount c32 c33 c34 v35_known c36 c37 c38 c39 v40_amount c41 c42 v43_length v43_keptMany v43_callMany v43_caseMany v43_place v43_touchTick v43_touchHalf c44 c45 c46 c47 c48 c49 c50 c51 c52 c53 c54 c55 c56 c57 c58 c59 c60 c61 c62 c63 c64 h
  obtain ⟨hT, hL, hW, hC, hF, hV, hJ, hA, hK⟩ := h
  obtain ⟨q, z, e1, e2, e3, e4⟩ := worth_eq N (by omega) a1 a2 a3 (powers := c63) (worths2 := c64) hA
  unfold fL_worth
  have e5 : lg_cmp q.1 z.1 = 0 := by rw [e3]; unfold lg_cmp; rw [if_neg (show ¬ z.1 > z.1 from fun y => by have y2 : z.1 < z.1 := y; rw [fa_lt64] at y2; omega), if_pos rfl]
  rw [e1, Option.bind_some, e2, Option.bind_some, if_pos e5]
  exact ⟨_, rfl, hT, hL, hW, hC, hF, hV, hJ, e4, hK⟩
theorem st_when (N : Nat) (hN : 2000 < N) : St_when N (RelW N) := by
  intro a1 a2 a3 v0_keptCount v1_length c2 v3_kind c4 v5_lineCount v5_wicketStands v5_wicketX v5_wicketSide v5_wicketHigh v5_items c6 c7 c8 v9_kind c10 v11_amount v11_left c12 c13 v14_amount v14_left c15 c16 v17_amount v17_left c18 c19 c20 v21_flown v21_touchYsKnown v21_sideV v21_touchTick v21_touchX v21_touchLine v21_half c22 c23 c24 c25 c26 c27 v28_known v28_stale c29 c30 v31_amount c32 c33 c34 v35_known c36 c37 c38 c39 v40_amount c41 c42 v43_length v43_keptMany v43_callMany v43_caseMany v43_place v43_touchTick v43_touchHalf c44 c45 c46 c47 c48 c49 c50 c51 c52 c53 c54 c55 c56 c57 c58 c59 c60 c61 c62 c63 c64 h
  obtain ⟨hT, hL, hW, hC, hF, hV, hJ, hA, hK⟩ := h
  obtain ⟨q, z, e1, e2, e3, e4⟩ := when_eq N (by omega) a1 a2 a3 (powers := c63) (worths2 := c64) hA
  unfold fL_when
  rw [e1, Option.bind_some, e2, Option.bind_some, if_pos e3]
  exact ⟨_, rfl, hT, hL, hW, hC, hF, hV, hJ, e4, hK⟩
theorem st_truly (N : Nat) (hN : 2000 < N) : St_truly N (RelW N) := by
  intro a1 a2 v0_keptCount v1_length c2 v3_kind c4 v5_lineCount v5_wicketStands v5_wicketX v5_wicketSide v5_wicketHigh v5_items c6 c7 c8 v9_kind c10 v11_amount v11_left c12 c13 v14_amount v14_left c15 c16 v17_amount v17_left c18 c19 c20 v21_flown v21_touchYsKnown v21_sideV v21_touchTick v21_touchX v21_touchLine v21_half c22 c23 c24 c25 c26 c27 v28_known v28_stale c29 c30 v31_amount c32 c33 c34 v35_known c36 c37 c38 c39 v40_amount c41 c42 v43_length v43_keptMany v43_callMany v43_caseMany v43_place v43_touchTick v43_touchHalf c44 c45 c46 c47 c48 c49 c50 c51 c52 c53 c54 c55 c56 c57 c58 c59 c60 c61 c62 c63 c64 h
  obtain ⟨hT, hL, hW, hC, hF, hV, hJ, hA, hK⟩ := h
  unfold fL_truly
  by_cases d : a2 = 0
  · obtain ⟨q, z, e1, e2, e3, e4⟩ := truly_eq N a1 0 (Or.inl rfl) hK
    rw [if_pos d, e1, Option.bind_some, if_pos d, e2, Option.bind_some, if_pos e3]
    exact ⟨_, rfl, hT, hL, hW, hC, hF, hV, hJ, hA, e4⟩
  · obtain ⟨q, z, e1, e2, e3, e4⟩ := truly_eq N a1 1 (Or.inr rfl) hK
    rw [if_neg d, e1, Option.bind_some, if_neg d, e2, Option.bind_some, if_pos e3]
    exact ⟨_, rfl, hT, hL, hW, hC, hF, hV, hJ, hA, e4⟩
theorem st_bestSure (N : Nat) (hN : 2000 < N) : St_bestSure N (RelW N) := by
  intro a1 v0_keptCount v1_length c2 v3_kind c4 v5_lineCount v5_wicketStands v5_wicketX v5_wicketSide v5_wicketHigh v5_items c6 c7 c8 v9_kind c10 v11_amount v11_left c12 c13 v14_amount v14_left c15 c16 v17_amount v17_left c18 c19 c20 v21_flown v21_touchYsKnown v21_sideV v21_touchTick v21_touchX v21_touchLine v21_half c22 c23 c24 c25 c26 c27 v28_known v28_stale c29 c30 v31_amount c32 c33 c34 v35_known c36 c37 c38 c39 v40_amount c41 c42 v43_length v43_keptMany v43_callMany v43_caseMany v43_place v43_touchTick v43_touchHalf c44 c45 c46 c47 c48 c49 c50 c51 c52 c53 c54 c55 c56 c57 c58 c59 c60 c61 c62 c63 c64 h
  obtain ⟨hT, hL, hW, hC, hF, hV, hJ, hA, hK⟩ := h
  obtain ⟨r, e1, e2⟩ := best_eq N (by omega) a1 hK
  unfold fL_bestSure
  rw [e1, Option.bind_some, e2, Option.bind_some, if_pos rfl]
  exact ⟨_, rfl, hT, hL, hW, hC, hF, hV, hJ, hA, hK⟩
theorem st_keep (N : Nat) (hN : 2000 < N) : St_keep N (RelW N) := by
  intro v0_keptCount v1_length c2 v3_kind c4 v5_lineCount v5_wicketStands v5_wicketX v5_wicketSide v5_wicketHigh v5_items c6 c7 c8 v9_kind c10 v11_amount v11_left c12 c13 v14_amount v14_left c15 c16 v17_amount v17_left c18 c19 c20 v21_flown v21_touchYsKnown v21_sideV v21_touchTick v21_touchX v21_touchLine v21_half c22 c23 c24 c25 c26 c27 v28_known v28_stale c29 c30 v31_amount c32 c33 c34 v35_known c36 c37 c38 c39 v40_amount c41 c42 v43_length v43_keptMany v43_callMany v43_caseMany v43_place v43_touchTick v43_touchHalf c44 c45 c46 c47 c48 c49 c50 c51 c52 c53 c54 c55 c56 c57 c58 c59 c60 c61 c62 c63 c64 h
  obtain ⟨hT, hL, hW, hC, hF, hV, hJ, hA, hK⟩ := h
  obtain ⟨q, z, e1, e2, e3, e4⟩ := keep_eq N (by omega) hW
  unfold fL_keep
  rw [e1, Option.bind_some, e2, Option.bind_some, if_pos e3]
  exact ⟨_, rfl, hT, hL, e4, hC, hF, hV, hJ, hA, hK⟩
theorem st_back (N : Nat) (hN : 2000 < N) : St_back N (RelW N) := by
  intro v0_keptCount v1_length c2 v3_kind c4 v5_lineCount v5_wicketStands v5_wicketX v5_wicketSide v5_wicketHigh v5_items c6 c7 c8 v9_kind c10 v11_amount v11_left c12 c13 v14_amount v14_left c15 c16 v17_amount v17_left c18 c19 c20 v21_flown v21_touchYsKnown v21_sideV v21_touchTick v21_touchX v21_touchLine v21_half c22 c23 c24 c25 c26 c27 v28_known v28_stale c29 c30 v31_amount c32 c33 c34 v35_known c36 c37 c38 c39 v40_amount c41 c42 v43_length v43_keptMany v43_callMany v43_caseMany v43_place v43_touchTick v43_touchHalf c44 c45 c46 c47 c48 c49 c50 c51 c52 c53 c54 c55 c56 c57 c58 c59 c60 c61 c62 c63 c64 h
  obtain ⟨hT, hL, hW, hC, hF, hV, hJ, hA, hK⟩ := h
  obtain ⟨q, z, e1, e2, e3, e4, e5⟩ := back_eq N (by omega) v21_flown v21_touchYsKnown v28_known v28_stale hW
  unfold fL_back
  rw [e1, Option.bind_some, e2, Option.bind_some, if_pos e3]
  refine ⟨_, rfl, hT, hL, e4, hC, ?_, ?_, hJ, hA, hK⟩
  · dsimp only
    rcases e5 with ⟨w1, w2, w3, w4, w5, w6, w7, -⟩ | ⟨w1, w2, w3⟩
    · rw [w1, w2, w6]; exact hF
    · rw [w1, w2]; exact rf_new _ _ _ _ _ _ _ _ _ _ _ _ _ _ _
  · dsimp only
    rcases e5 with ⟨w1, w2, w3, w4, w5, w6, w7, -⟩ | ⟨w1, w2, w3⟩
    · rw [w3, w5, w6, w7]; exact hV
    · rw [w3]
      obtain ⟨-, ⟨a, ha, r1, -⟩, -, -⟩ := e4
      exact ⟨a, ha, r1, rv_new _ _ _ _ _ _ _⟩
theorem st_count (N : Nat) (hN : 2000 < N) : St_count N (RelW N) := by
  intro a1 v0_keptCount v1_length c2 v3_kind c4 v5_lineCount v5_wicketStands v5_wicketX v5_wicketSide v5_wicketHigh v5_items c6 c7 c8 v9_kind c10 v11_amount v11_left c12 c13 v14_amount v14_left c15 c16 v17_amount v17_left c18 c19 c20 v21_flown v21_touchYsKnown v21_sideV v21_touchTick v21_touchX v21_touchLine v21_half c22 c23 c24 c25 c26 c27 v28_known v28_stale c29 c30 v31_amount c32 c33 c34 v35_known c36 c37 c38 c39 v40_amount c41 c42 v43_length v43_keptMany v43_callMany v43_caseMany v43_place v43_touchTick v43_touchHalf c44 c45 c46 c47 c48 c49 c50 c51 c52 c53 c54 c55 c56 c57 c58 c59 c60 c61 c62 c63 c64 h
  obtain ⟨hT, hL, hW, hC, hF, hV, hJ, hA, hK⟩ := h
  have t1 : v1_length = v43_length := by obtain ⟨n, hn, y1, y2, -⟩ := hT; rw [y1, y2]
  have t2 : v5_items = c45 0 := by obtain ⟨n, ln, -, -, y1, y2, -⟩ := hL; rw [y1, y2]
  have t3 : v11_amount = c49 0 := by obtain ⟨-, ⟨a', ha', r1, r2, -⟩, -, -⟩ := hW; rw [r1, r2]
  have t4 : v31_amount = v43_callMany := by obtain ⟨a, ha, r1, r2, -⟩ := hJ; rw [r1, r2]
  have t5 : v40_amount = v43_caseMany := by obtain ⟨a, ha, r1, r2, -⟩ := hK; rw [r1, r2]
  have t6 : v0_keptCount = v43_keptMany := by obtain ⟨⟨k, hk, r1, r2⟩, -⟩ := hW; rw [r1, r2]
  have key : ∃ r, fX9_count N a1 v0_keptCount v40_amount v31_amount v5_items v11_amount v1_length = some r ∧ fX10_count N a1 v43_length v43_keptMany v43_callMany v43_caseMany c45 c49 = some r := by
    unfold fX9_count fX10_count fX6_size fX5_itemCount fX8_sightCount fX4_size fX1_size
    simp only [Option.bind_some, sb_cl0]
    rw [t1, t2, t3, t4, t5, t6]
    by_cases d0 : a1 = 0
    · rw [if_pos d0]; exact ⟨_, rfl, rfl⟩
    rw [if_neg d0]
    by_cases d1 : a1 = 1
    · rw [if_pos d1]; exact ⟨_, rfl, rfl⟩
    rw [if_neg d1]
    by_cases d2 : a1 = 2
    · rw [if_pos d2]; exact ⟨_, rfl, rfl⟩
    rw [if_neg d2]
    by_cases d3 : a1 = 3
    · rw [if_pos d3]; exact ⟨_, rfl, rfl⟩
    rw [if_neg d3]
    by_cases d4 : a1 = 4
    · rw [if_pos d4]; exact ⟨_, rfl, rfl⟩
    rw [if_neg d4]
    by_cases d5 : a1 = 5
    · rw [if_pos d5]; exact ⟨_, rfl, rfl⟩
    rw [if_neg d5]
    exact ⟨_, rfl, rfl⟩
  obtain ⟨r, e1, e2⟩ := key
  unfold fL_count
  rw [e1, Option.bind_some, e2, Option.bind_some, if_pos rfl]
  exact ⟨_, rfl, hT, hL, hW, hC, hF, hV, hJ, hA, hK⟩
theorem st_all (N : Nat) (hN : 2000 < N) : St_all N (RelW N) := ⟨st_write N hN, st_wipe N hN, st_fault N hN, st_lay N hN, st_law N hN, st_line N hN, st_ball N hN, st_at N hN, st_touch N hN, st_camera N hN, st_blur N hN, st_mark N hN, st_heard N hN, st_noSights N hN, st_leave N hN, st_fits N hN, st_fitting N hN, st_odds N hN, st_shown N hN, st_apart N hN, st_moved N hN, st_whose N hN, st_would N hN, st_call N hN, st_lean N hN, st_sort N hN, st_worth N hN, st_when N hN, st_truly N hN, st_bestSure N hN, st_keep N hN, st_back N hN, st_count N hN⟩
