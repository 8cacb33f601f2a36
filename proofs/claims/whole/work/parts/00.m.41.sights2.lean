theorem wi_no {v a b : Int32} (h : wi v a b = 0) : v < a ∨ b < v := by
  unfold wi at h
  by_cases c1 : v < a
  · exact Or.inl c1
  · rw [if_neg c1] at h
    by_cases c2 : b < v
    · exact Or.inr c2
    · rw [if_neg c2] at h; exact absurd h (by decide)
theorem wi_yes {v a b : Int32} (h : ¬ wi v a b = 0) : a.toInt ≤ v.toInt ∧ v.toInt ≤ b.toInt := by
  unfold wi at h
  by_cases c1 : v < a
  · rw [if_pos c1] at h; exact absurd rfl h
  · rw [if_neg c1] at h
    by_cases c2 : b < v
    · rw [if_pos c2] at h; exact absurd rfl h
    · rw [fa_lt] at c1 c2
      omega
theorem wi_01 (v a b : Int32) : wi v a b = 0 ∨ wi v a b = 1 := by
  unfold wi
  by_cases c1 : v < a
  · rw [if_pos c1]; exact Or.inl rfl
  · rw [if_neg c1]
    by_cases c2 : b < v
    · rw [if_pos c2]; exact Or.inl rfl
    · rw [if_neg c2]; exact Or.inr rfl
def loW (w : Nat) : Int32 := if w < 2 then -100000 else if w = 2 then 0 else -2000
def hiW (w : Nat) : Int32 := if w < 3 then 100000 else 2000
theorem ball_eq (N : Nat) (a1 a2 fl kn v1 v2 : Int32) (st bl : Nat → Int32) (hB : ∀ k, k < 6 → bl k = st k) : ∃ q z, fX9_ball N a1 a2 fl kn st v1 v2 = some q ∧ fX10_ball N a1 a2 bl = some z ∧ q.1 = z.1 ∧ ((q.2 = (fl, kn, st, v1, v2) ∧ z.2 = bl) ∨ (∃ w, w < 6 ∧ ¬ wi a2 (loW w) (hiW w) = 0 ∧ q.2 = (0, 0, upd st w a2, 0, 1) ∧ z.2 = upd bl w a2)) := by
  unfold fX9_ball fX10_ball fX8_mayBegin fX9_forgetFlight fX2_forget fX7_forget
  simp only [jn, Option.bind_some, in_def N a1 0 5 0 5 rfl rfl, in_def N a2 0 100000 0 100000 rfl rfl, in_def N a2 (-100000) 100000 (-100000) 100000 rfl rfl, in_def N a2 (-2000) 2000 (-2000) 2000 rfl rfl]
  by_cases c1 : wi a1 0 5 = 0
  · have hr : (if a1 < 0 then some (0 : Int32) else if (6 : Int32) ≤ a1 then some 0 else if (6 : Int32) ≤ a1 then some 0 else if ixb a1 6 = true then if ixb a1 6 = true then (fX9_within N a2 (tb_World_LOWEST a1.toNatClampNeg) (tb_World_HIGHEST a1.toNatClampNeg)).bind fun q31 => if q31 = 0 then some 0 else some 1 else none else none) = some 0 := by
      rcases wi_no c1 with q | q
      · rw [if_pos q]
      · have q6 : (6 : Int32) ≤ a1 := by
          rw [fa_lt] at q; rw [fa_le]
          have : (5 : Int32).toInt = 5 := rfl
          have : (6 : Int32).toInt = 6 := rfl
          omega
        by_cases q0 : a1 < 0
        · rw [if_pos q0]
        · rw [if_neg q0, if_pos q6]
    rw [hr, Option.bind_some, if_neg (fun z => z rfl)]
    simp only [if_pos c1]
    refine ⟨_, (-1000000, bl), rfl, ?_, rfl, Or.inl ⟨rfl, rfl⟩⟩
    by_cases d1 : (2 : Int32) ≤ a1
    · rw [if_pos d1]
      by_cases d2 : a1 = 2
      · rw [if_neg (fun z => z d2)]
      · rw [if_pos d2]
    · rw [if_neg d1]
  · obtain ⟨w, hw, rfl⟩ := wi_ok (m := 5) (by decide) c1
    rw [if_neg (nI_pos (by omega)), if_neg (show ¬ (6 : Int32) ≤ nI w from nI_ge (b := 6) (by omega) (by decide)), if_neg (show ¬ (6 : Int32) ≤ nI w from nI_ge (b := 6) (by omega) (by decide)), if_pos (ixb_nI (by omega) (by decide)), if_pos (ixb_nI (by omega) (by decide)), nI_clamp (by omega), wi_def, Option.bind_some]
    simp only [if_neg c1, ixb_nI (show w < 18 by omega) (by decide), if_true]
    have key : (if (2 : Int32) ≤ nI w then (if ¬ nI w = 2 then (if ¬ wi a2 (-2000) 2000 = 0 then some (bl w, upd bl w a2) else some (-1000000, bl)) else (if ¬ wi a2 0 100000 = 0 then some (bl w, upd bl w a2) else some (-1000000, bl))) else (if ¬ wi a2 (-100000) 100000 = 0 then some (bl w, upd bl w a2) else some (-1000000, bl))) = (if ¬ wi a2 (loW w) (hiW w) = 0 then some (bl w, upd bl w a2) else some ((-1000000 : Int32), bl)) ∧ tb_World_LOWEST w = loW w ∧ tb_World_HIGHEST w = hiW w := by
      rcases (show w = 0 ∨ w = 1 ∨ w = 2 ∨ w = 3 ∨ w = 4 ∨ w = 5 by omega) with rfl | rfl | rfl | rfl | rfl | rfl <;> exact ⟨rfl, rfl, rfl⟩
    rw [key.1, key.2.1, key.2.2]
    by_cases c2 : wi a2 (loW w) (hiW w) = 0
    · rw [if_pos c2, Option.bind_some, if_neg (fun z => z rfl), if_neg (fun z => z c2)]
      exact ⟨_, _, rfl, rfl, rfl, Or.inl ⟨rfl, rfl⟩⟩
    · rw [if_neg c2, Option.bind_some, if_pos (by decide), if_pos c2]
      unfold fX8_begin
      rw [start_c N w (by omega), Option.bind_some, if_neg (nI_pos (by omega)), if_neg (show ¬ (6 : Int32) ≤ nI w from nI_ge (b := 6) (by omega) (by decide)), if_pos (ixb_nI (by omega) (by decide)), nI_clamp (by omega)]
      exact ⟨_, _, rfl, rfl, (hB w (by omega)).symm, Or.inr ⟨w, by omega, c2, rfl, rfl⟩⟩
theorem RW_ball {w : Nat} (hw : w < 6) {v : Int32} (hv : ¬ wi v (loW w) (hiW w) = 0) {am lf : Int32} {st rows bl ou sm sg : Nat → Int32} (h : RW 0 am lf st rows bl ou sm sg) : RW 0 am lf (upd st w v) rows (upd bl w v) ou sm sg := by
  obtain ⟨n, ha, r1, r2, r3, r4, r5, r6, r7⟩ := h
  refine ⟨n, ha, r1, r2, r3, r4, fun k hk => ?_, ?_, r7⟩
  · rw [Nat.mul_zero, Nat.zero_add]
    have := r5 k hk
    rw [Nat.mul_zero, Nat.zero_add] at this
    by_cases q : k = w
    · subst q; rw [pk_us, pk_us]
    · rw [pk_un q, pk_un q]; exact this
  · obtain ⟨b1, b2⟩ := r6
    have b := wi_yes hv
    refine ⟨?_, ?_⟩
    · by_cases q : 1 = w
      · subst q; rw [pk_us]; exact b
      · rw [pk_un q]; exact b1
    · by_cases q : 4 = w
      · subst q; rw [pk_us]; exact b
      · rw [pk_un q]; exact b2
theorem up6_at {f : Nat → Int32} {b : Nat} {x0 x1 x2 x3 x4 x5 : Int32} : up6 f b x0 x1 x2 x3 x4 x5 b = x0 ∧ up6 f b x0 x1 x2 x3 x4 x5 (b + 1) = x1 ∧ up6 f b x0 x1 x2 x3 x4 x5 (b + 2) = x2 ∧ up6 f b x0 x1 x2 x3 x4 x5 (b + 3) = x3 ∧ up6 f b x0 x1 x2 x3 x4 x5 (b + 4) = x4 ∧ up6 f b x0 x1 x2 x3 x4 x5 (b + 5) = x5 := by
  unfold up6
  refine ⟨?_, ?_, ?_, ?_, ?_, ?_⟩ <;> (repeat (first | rw [pk_us] | rw [pk_un (by omega)]))
theorem up6_out {f : Nat → Int32} {b j : Nat} {x0 x1 x2 x3 x4 x5 : Int32} (h : j < b ∨ b + 6 ≤ j) : up6 f b x0 x1 x2 x3 x4 x5 j = f j := by
  unfold up6
  rw [pk_un (by omega), pk_un (by omega), pk_un (by omega), pk_un (by omega), pk_un (by omega), pk_un (by omega)]
theorem RW_add {a : Nat} (ha : a < 30) {lf : Int32} {st rows bl ou sm sg : Nat → Int32} (h : RW 0 (nI a) lf st rows bl ou sm sg) {x0 x1 x2 x3 x4 x5 y0 y1 y2 y3 y4 y5 : Int32} (hS : SR x0 x1 x2 x3 x4 x5 y0 y1 y2 y3 y4 y5) : RW 0 (nI (a + 1)) lf st (up6 rows (6 * a) x0 x1 x2 x3 x4 x5) bl ou (upd sm 0 (nI (a + 1))) (up6 sg (6 * a) y0 y1 y2 y3 y4 y5) := by
  obtain ⟨n, hn, r1, r2, r3, r4, r5, r6, r7⟩ := h
  have e : a = n := (nI_eq (by omega) (by omega)).mp r1
  subst e
  refine ⟨a + 1, by omega, rfl, pk_us, r3, r4, r5, r6, fun i hi => ?_⟩
  rcases Nat.lt_or_ge i a with q | q
  · refine SRw_cong (fun k hk => ?_) (fun k hk => ?_) (r7 i q)
    · exact up6_out (by omega)
    · exact up6_out (by omega)
  · have : i = a := by omega
    subst this
    rw [Nat.mul_zero, Nat.zero_add]
    unfold SRw
    obtain ⟨e0, e1, e2, e3, e4, e5⟩ := up6_at (f := rows) (b := 6 * i) (x0 := x0) (x1 := x1) (x2 := x2) (x3 := x3) (x4 := x4) (x5 := x5)
    obtain ⟨f0, f1, f2, f3, f4, f5⟩ := up6_at (f := sg) (b := 6 * i) (x0 := y0) (x1 := y1) (x2 := y2) (x3 := y3) (x4 := y4) (x5 := y5)
    rw [e0, e1, e2, e3, e4, e5, f0, f1, f2, f3, f4, f5]
    exact hS
theorem RW_add2 {a w : Nat} (ha : a < 30) (hw : 0 < w) {am lf x : Int32} {st rows bl ou sm sg : Nat → Int32} (h : RW w am lf st rows bl ou sm sg) {y0 y1 y2 y3 y4 y5 : Int32} : RW w am lf st rows bl ou (upd sm 0 x) (up6 sg (6 * a) y0 y1 y2 y3 y4 y5) := by
  refine RW_cong (fun _ _ => rfl) rfl (pk_un (by omega)) (fun k hk => up6_out (by omega)) h
/-- what a sight that is told does: nothing, or a row behind the others -/
def AD (am : Int32) (rows sm sg : Nat → Int32) (am' : Int32) (rows' sm' sg' : Nat → Int32) : Prop := (am' = am ∧ rows' = rows ∧ sm' = sm ∧ sg' = sg) ∨ (∃ (a : Nat) (x0 x1 x2 x3 x4 x5 y0 y1 y2 y3 y4 y5 : Int32), a < 30 ∧ am = nI a ∧ am' = nI (a + 1) ∧ rows' = up6 rows (6 * a) x0 x1 x2 x3 x4 x5 ∧ sm' = upd sm 0 (nI (a + 1)) ∧ sg' = up6 sg (6 * a) y0 y1 y2 y3 y4 y5 ∧ SR x0 x1 x2 x3 x4 x5 y0 y1 y2 y3 y4 y5)
theorem put_eq (N : Nat) {am lf : Int32} {st rows bl ou sm sg : Nat → Int32} (h : RW 0 am lf st rows bl ou sm sg) {x0 x1 x2 x3 x4 x5 y0 y1 y2 y3 y4 y5 : Int32} (hS : SR x0 x1 x2 x3 x4 x5 y0 y1 y2 y3 y4 y5) : ∃ q z, fX8_addSight N x0 x1 x2 x3 x4 x5 am rows = some q ∧ fX10_note N y0 y1 y2 y3 y4 y5 sm sg = some z ∧ q.1 = z.1 ∧ AD am rows sm sg q.2.1 q.2.2 z.2.1 z.2.2 := by
  obtain ⟨n, hn, rfl, r2, -⟩ := h
  rcases Nat.lt_or_ge n 30 with q | q
  · rw [add_c N n q, note_r N n q _ _ _ _ _ _ sm sg r2]
    exact ⟨_, _, rfl, rfl, rfl, Or.inr ⟨n, x0, x1, x2, x3, x4, x5, y0, y1, y2, y3, y4, y5, q, rfl, rfl, rfl, rfl, rfl, hS⟩⟩
  · have e : n = 30 := by omega
    subst e
    rw [add_full N, note_full N _ _ _ _ _ _ sm sg r2]
    exact ⟨_, _, rfl, rfl, rfl, Or.inl ⟨rfl, rfl, rfl, rfl⟩⟩
theorem doubt_d (N : Nat) (a : Int32) : fX9_isDoubt N a = some (wi a 0 1000) ∧ fX10_isDoubt N a = some (wi a 0 1000) := by
  unfold fX9_isDoubt fX10_isDoubt
  rw [wi_def, in_def N a 0 1000 0 1000 rfl rfl]
  exact ⟨rfl, rfl⟩
theorem field_d (N : Nat) (a : Int32) : fX9_onField N a = some (wi a (-100000) 100000) := by
  unfold fX9_onField
  rw [wi_def]
  rfl
theorem place_d (N : Nat) (a b : Int32) : fX10_isPlace N a b = some (if wi a (-100000) 100000 = 0 then 0 else wi b (-100000) 100000) := by
  unfold fX10_isPlace
  rw [in_def N a (-100000) 100000 (-100000) 100000 rfl rfl, in_def N b (-100000) 100000 (-100000) 100000 rfl rfl, Option.bind_some, Option.bind_some]
  by_cases c : wi a (-100000) 100000 = 0
  · rw [if_pos c, if_pos c]
  · rw [if_neg c, if_neg c]
    rcases wi_01 b (-100000) 100000 with q | q
    · rw [q]; rfl
    · rw [q]; rfl
theorem AD_no {am : Int32} {rows sm sg : Nat → Int32} : AD am rows sm sg am rows sm sg := Or.inl ⟨rfl, rfl, rfl, rfl⟩
theorem blur_eq (N : Nat) (a1 a2 a3 a4 : Int32) {am lf : Int32} {st rows bl ou sm sg : Nat → Int32} (h : RW 0 am lf st rows bl ou sm sg) : ∃ q z, fX9_blur N a1 a2 a3 a4 am rows = some q ∧ fX10_blur N a1 a2 a3 a4 sm sg = some z ∧ q.1 = z.1 ∧ AD am rows sm sg q.2.1 q.2.2 z.2.1 z.2.2 := by
  unfold fX9_blur fX10_blur fX9_isCamera
  rw [wi_def, tick_d, wi_def, (doubt_d N a4).1, (doubt_d N a4).2, in_def N a1 0 3 0 3 rfl rfl, in_def N a2 0 600 0 600 rfl rfl, in_def N a3 (-1000000) 1000000 (-1000000) 1000000 rfl rfl]
  simp only [Option.bind_some]
  by_cases c1 : wi a1 0 3 = 0
  · rw [if_pos c1, if_pos c1]; exact ⟨_, _, rfl, rfl, rfl, AD_no⟩
  · rw [if_neg c1, if_neg c1]
    by_cases c2 : wi a2 0 600 = 0
    · rw [if_pos c2, if_pos c2]; exact ⟨_, _, rfl, rfl, rfl, AD_no⟩
    · rw [if_neg c2, if_neg c2]
      by_cases c3 : wi a3 (-1000000) 1000000 = 0
      · rw [if_pos c3, if_pos c3]; exact ⟨_, _, rfl, rfl, rfl, AD_no⟩
      · rw [if_neg c3, if_neg c3]
        by_cases c4 : wi a4 0 1000 = 0
        · rw [if_neg (fun z => z c4), if_pos c4]; exact ⟨_, _, rfl, rfl, rfl, AD_no⟩
        · rw [if_pos c4, if_neg c4]
          obtain ⟨q, z, e1, e2, e3, e4⟩ := put_eq N h (x0 := 0) (x1 := a1) (x2 := a3) (x3 := a2) (x4 := a4) (x5 := 1) (y0 := 0) (y1 := a1) (y2 := a2) (y3 := a3) (y4 := a4) (y5 := 0) ⟨rfl, wi_yes c4, Or.inl ⟨rfl, rfl, rfl, rfl, rfl, wi_ok (m := 3) (by decide) c1, wi_ok (m := 600) (by decide) c2⟩⟩
          rw [e1, e2]
          exact ⟨_, _, rfl, rfl, e3, e4⟩
theorem mark_eq (N : Nat) (a1 a2 a3 : Int32) {am lf : Int32} {st rows bl ou sm sg : Nat → Int32} (h : RW 0 am lf st rows bl ou sm sg) : ∃ q z, fX9_mark N a1 a2 a3 am rows = some q ∧ fX10_mark N a1 a2 a3 sm sg = some z ∧ q.1 = z.1 ∧ AD am rows sm sg q.2.1 q.2.2 z.2.1 z.2.2 := by
  unfold fX9_mark fX10_mark
  rw [field_d, field_d, (doubt_d N a3).1, (doubt_d N a3).2, place_d]
  simp only [Option.bind_some]
  by_cases c1 : wi a1 (-100000) 100000 = 0
  · rw [if_pos c1, if_pos (if_pos c1)]; exact ⟨_, _, rfl, rfl, rfl, AD_no⟩
  · rw [if_neg c1, if_neg c1]
    by_cases c2 : wi a2 (-100000) 100000 = 0
    · rw [if_pos c2, if_pos c2]; exact ⟨_, _, rfl, rfl, rfl, AD_no⟩
    · rw [if_neg c2, if_neg c2]
      by_cases c4 : wi a3 0 1000 = 0
      · rw [if_neg (fun z => z c4), if_pos c4]; exact ⟨_, _, rfl, rfl, rfl, AD_no⟩
      · rw [if_pos c4, if_neg c4]
        obtain ⟨q, z, e1, e2, e3, e4⟩ := put_eq N h (x0 := 1) (x1 := a1) (x2 := a2) (x3 := 0) (x4 := a3) (x5 := 1) (y0 := 1) (y1 := a1) (y2 := a2) (y3 := 0) (y4 := a3) (y5 := 0) ⟨rfl, wi_yes c4, Or.inr (Or.inl ⟨rfl, rfl, rfl, rfl⟩)⟩
        rw [e1, e2]
        exact ⟨_, _, rfl, rfl, e3, e4⟩
theorem heard_eq (N : Nat) (a1 a2 a3 a4 a5 : Int32) {am lf : Int32} {st rows bl ou sm sg : Nat → Int32} (h : RW 0 am lf st rows bl ou sm sg) : ∃ q z, fX9_heard N a1 a2 a3 a4 a5 am rows = some q ∧ fX10_heard N a1 a2 a3 a4 a5 sm sg = some z ∧ q.1 = z.1 ∧ AD am rows sm sg q.2.1 q.2.2 z.2.1 z.2.2 := by
  unfold fX9_heard fX10_heard
  rw [field_d, field_d, tick_d, (doubt_d N a4).1, (doubt_d N a4).2, place_d, wi_def, in_def N a3 0 600 0 600 rfl rfl, in_def N a5 1 500 1 500 rfl rfl]
  simp only [Option.bind_some]
  by_cases c1 : wi a1 (-100000) 100000 = 0
  · rw [if_pos c1, if_pos (if_pos c1)]; exact ⟨_, _, rfl, rfl, rfl, AD_no⟩
  · rw [if_neg c1, if_neg c1]
    by_cases c2 : wi a2 (-100000) 100000 = 0
    · rw [if_pos c2, if_pos c2]; exact ⟨_, _, rfl, rfl, rfl, AD_no⟩
    · rw [if_neg c2, if_neg c2]
      by_cases c3 : wi a3 0 600 = 0
      · rw [if_pos c3, if_pos c3]; exact ⟨_, _, rfl, rfl, rfl, AD_no⟩
      · rw [if_neg c3, if_neg c3]
        by_cases c4 : wi a4 0 1000 = 0
        · rw [if_pos c4, if_pos c4]; exact ⟨_, _, rfl, rfl, rfl, AD_no⟩
        · rw [if_neg c4, if_neg c4]
          by_cases c5 : wi a5 1 500 = 0
          · rw [if_neg (fun z => z c5), if_pos c5]; exact ⟨_, _, rfl, rfl, rfl, AD_no⟩
          · rw [if_pos c5, if_neg c5]
            obtain ⟨s, hs, e5⟩ := wi_ok1 (m := 500) (by decide) c5
            obtain ⟨q, z, e1, e2, e3, e4⟩ := put_eq N h (x0 := 2) (x1 := a1) (x2 := a2) (x3 := a3) (x4 := a4) (x5 := a5) (y0 := 2) (y1 := a1) (y2 := a2) (y3 := a3) (y4 := a4) (y5 := a5) ⟨rfl, wi_yes c4, Or.inr (Or.inr ⟨rfl, rfl, rfl, rfl, rfl, rfl, s + 1, by omega, by omega, e5⟩)⟩
            rw [e1, e2]
            exact ⟨_, _, rfl, rfl, e3, e4⟩
theorem noS_eq (N : Nat) (v1 v2 : Int32) {am lf : Int32} {st rows bl ou sm sg : Nat → Int32} (h : RW 0 am lf st rows bl ou sm sg) : ∃ q z, fX9_noSights N am v1 v2 = some q ∧ fX10_noSights N sm = some z ∧ q.1 = z.1 ∧ q.2 = (0, 0, 1) ∧ z.2 = upd sm 0 0 ∧ RW 0 0 lf st rows bl ou (upd sm 0 0) sg := by
  obtain ⟨n, hn, rfl, r2, r3, r4, r5, r6, r7⟩ := h
  refine ⟨_, _, rfl, rfl, r2.symm, rfl, rfl, 0, by decide, rfl, pk_us, r3, r4, r5, r6, fun i hi => absurd hi (Nat.not_lt_zero i)⟩
theorem RW_sm {w : Nat} (hw : 0 < w) {am lf x : Int32} {st rows bl ou sm sg : Nat → Int32} (h : RW w am lf st rows bl ou sm sg) : RW w am lf st rows bl ou (upd sm 0 x) sg := RW_cong (fun _ _ => rfl) rfl (pk_un (by omega)) (fun _ _ => rfl) h
theorem RW_ou {w : Nat} (hw : 0 < w) {am lf x : Int32} {st rows bl ou sm sg : Nat → Int32} (h : RW w am lf st rows bl ou sm sg) : RW w am lf st rows bl (upd ou 0 x) sm sg := RW_cong (fun _ _ => rfl) (pk_un (by omega)) rfl (fun _ _ => rfl) h
theorem RW_bl {w j : Nat} (hw : 0 < w) (hj : j < 6) {am lf x : Int32} {st rows bl ou sm sg : Nat → Int32} (h : RW w am lf st rows bl ou sm sg) : RW w am lf st rows (upd bl j x) ou sm sg := RW_cong (fun k _ => pk_un (by omega)) rfl rfl (fun _ _ => rfl) h
theorem RW_leave {m : Nat} (hm : m ≤ 15) {am lf : Int32} {st rows bl ou sm sg : Nat → Int32} (h : RW 0 am lf st rows bl ou sm sg) : RW 0 am (nI m) st rows bl (upd ou 0 (nI m)) sm sg := by
  obtain ⟨n, hn, r1, r2, r3, r4, r5, r6, r7⟩ := h
  exact ⟨n, hn, r1, r2, pk_us.symm, ⟨m, hm, rfl⟩, r5, r6, r7⟩
