/-! where the ball is, where it touches -/
def paG (N : Nat) (lc : Int32) (lf ly : Nat → Int32) (x : Int32) : Int32 := (fX5_paintedAt N x lc lf ly).getD 0
theorem rl_pa {N : Nat} (hN : 100 < N) {lc ws wx wd wh items : Int32} {nb lf ly im it : Nat → Int32} (hR : RLw lc ws wx wd wh items nb lf ly im it) (x : Int32) : fX5_paintedAt N x lc lf ly = some (paG N lc lf ly x) ∧ fX10_lineAt N x im it = some (paG N lc lf ly x) := by
  obtain ⟨n, ln, hn, hl, -, h0, rfl, -, h2, -⟩ := hR
  have e := pa_def N ln hl hN x lf ly
  have e2 : paG N (nI ln) lf ly x = lnY (paV lf ly x ln) := by unfold paG; rw [e]; rfl
  rw [e2, e, la_def N n hn hN x im it h0, h2]
  exact ⟨rfl, rfl⟩
theorem rl_law {N : Nat} (hN : 100 < N) {lc ws wx wd wh items : Int32} {nb lf ly im it : Nat → Int32} (hR : RLw lc ws wx wd wh items nb lf ly im it) : ∀ k, k < 6 → fX10_lawOf N (nI k) im it = some (nb k) := by
  obtain ⟨n, ln, hn, hl, -, h0, -, h1, -⟩ := hR
  intro k hk
  rw [lawOf_def N n hn hN im it h0 k hk, h1 k hk]
/-- the flight that the class keeps is right, where it says that it is known -/
def RF (N : Nat) (lc : Int32) (lf ly L B : Nat → Int32) (flown kn tt tx tl hf : Int32) (xs zs us ws tys : Nat → Int32) : Prop := (flown = 0 ∨ flown = 1) ∧ (kn = 0 ∨ kn = 1) ∧ (kn = 1 → flown = 1 ∧ ∀ c, c < 189 → tys c = (sd L B c (fT L B).1).2) ∧ (flown = 1 → FL L B (paG N lc lf ly) tt tx tl hf us ws xs zs)
theorem rf_new (N : Nat) (lc : Int32) (lf ly L B : Nat → Int32) (tt tx tl hf : Int32) (xs zs us ws tys : Nat → Int32) : RF N lc lf ly L B 0 0 tt tx tl hf xs zs us ws tys := ⟨Or.inl rfl, Or.inl rfl, fun h => absurd h (by decide), fun h => absurd h (by decide)⟩
theorem fly_rf {N : Nat} (hN : 1000 < N) {lc w1 wx wd wh items : Int32} {nb lf ly im it : Nat → Int32} (hR : RLw lc w1 wx wd wh items nb lf ly im it) {B xs zs us ws tys : Nat → Int32} {flown kn tt tx tl hf : Int32} (hF : RF N lc lf ly nb B flown kn tt tx tl hf xs zs us ws tys) : ∃ ru, fX2_fly N flown tt tx tl hf lc lf ly nb B us ws xs zs = some ru ∧ ru.1 = 1 ∧ FL nb B (paG N lc lf ly) ru.2.1 ru.2.2.1 ru.2.2.2.1 ru.2.2.2.2.1 ru.2.2.2.2.2.1 ru.2.2.2.2.2.2.1 ru.2.2.2.2.2.2.2.1 ru.2.2.2.2.2.2.2.2 ∧ RF N lc lf ly nb B ru.1 kn ru.2.1 ru.2.2.1 ru.2.2.2.1 ru.2.2.2.2.1 ru.2.2.2.2.2.2.2.1 ru.2.2.2.2.2.2.2.2 ru.2.2.2.2.2.1 ru.2.2.2.2.2.2.1 tys := by
  obtain ⟨f1, f2, f3, f4⟩ := hF
  rcases f1 with rfl | rfl
  · obtain ⟨ru, h1, h2, h3⟩ := fly_c N hN nb B (paG N lc lf ly) lc lf ly (fun x => (rl_pa (by omega) hR x).1) tt tx tl hf us ws xs zs
    refine ⟨ru, h1, h2, h3, Or.inr h2, f2, fun h => ?_, fun _ => h3⟩
    exact absurd (f3 h).1 (by decide)
  · refine ⟨(1, tt, tx, tl, hf, us, ws, xs, zs), ?_, rfl, f4 rfl, Or.inr rfl, f2, f3, f4⟩
    unfold fX2_fly
    rw [if_neg (by decide)]
theorem touches_c (N m : Nat) (h : m < 2 ^ 31) : fX2_touches N (nI m) = some (if m = 0 then 0 else 1) := by
  unfold fX2_touches
  by_cases c : m = 0
  · subst c; rfl
  · rw [if_neg (nI_nle (by omega) h), if_neg c]
theorem curve_d (N : Nat) (a : Int32) : fX9_isCurve N a = some (wi a 0 188) ∧ fX10_isCurve N a = some (wi a 0 188) := by
  unfold fX9_isCurve fX10_isCurve
  rw [wi_def, in_def N a 0 188 0 188 rfl rfl]
  exact ⟨rfl, rfl⟩
theorem tick_d (N : Nat) (a : Int32) : fX9_isTick N a = some (wi a 0 600) := by
  unfold fX9_isTick
  rw [wi_def]
  rfl
theorem at_eq (N : Nat) (hN : 1000 < N) (a1 a2 a3 : Int32) {lc w1 wx wd wh items : Int32} {nb lf ly im it : Nat → Int32} (hR : RLw lc w1 wx wd wh items nb lf ly im it) {B bl xs zs us ws tys : Nat → Int32} (hB : ∀ k, k < 6 → bl k = B k) {flown kn tt tx tl hf : Int32} (hF : RF N lc lf ly nb B flown kn tt tx tl hf xs zs us ws tys) (sv : Int32) (ys : Nat → Int32) (rt rh : Int32) (r1 r2 r3 r4 r5 r6 : Nat → Int32) : ∃ q z, fX9_at N a1 a2 a3 flown sv tt tx tl hf us ws xs ys zs lc lf ly nb B = some q ∧ fX10_at N a1 a2 a3 rt rh bl im it r1 r2 r3 r4 r5 r6 = some z ∧ q.1 = z.1 ∧ RF N lc lf ly nb B q.2.1 kn q.2.2.2.1 q.2.2.2.2.1 q.2.2.2.2.2.1 q.2.2.2.2.2.2.1 q.2.2.2.2.2.2.2.2.2.1 q.2.2.2.2.2.2.2.2.2.2.2 q.2.2.2.2.2.2.2.1 q.2.2.2.2.2.2.2.2.1 tys := by
  unfold fX9_at fX10_at
  rw [(curve_d N a1).1, (curve_d N a1).2, Option.bind_some, Option.bind_some]
  by_cases c1 : wi a1 0 188 = 0
  · rw [if_pos c1, if_pos c1]; exact ⟨_, _, rfl, rfl, rfl, hF⟩
  · rw [if_neg c1, if_neg c1, tick_d, in_def N a2 0 600 0 600 rfl rfl, Option.bind_some, Option.bind_some]
    by_cases c2 : wi a2 0 600 = 0
    · rw [if_pos c2, if_pos c2]; exact ⟨_, _, rfl, rfl, rfl, hF⟩
    · rw [if_neg c2, if_neg c2, wi_def, in_def N a3 0 5 0 5 rfl rfl, Option.bind_some, Option.bind_some]
      by_cases c3 : wi a3 0 5 = 0
      · rw [if_neg (fun z => z c3), if_neg (fun z => z c3)]; exact ⟨_, _, rfl, rfl, rfl, hF⟩
      · rw [if_pos c3, if_pos c3]
        obtain ⟨c, hc, rfl⟩ := wi_ok (m := 188) (by decide) c1
        obtain ⟨t, ht, rfl⟩ := wi_ok (m := 600) (by decide) c2
        obtain ⟨w, hw, rfl⟩ := wi_ok (m := 5) (by decide) c3
        obtain ⟨ru, g1, g2, ⟨-, -, g5⟩, g4⟩ := fly_rf hN hR hF
        obtain ⟨rv, l1, -, -, l2⟩ := lay_r N hN nb B c im it bl (rl_law (by omega) hR) hB rt rh r1 r2 r3 r4 r5 r6
        obtain ⟨rs, d1, d2, d3⟩ := side_c N hN nb B c t ht sv ys
        have l2 := l2 t ht
        have g5 := g5 t ht
        have d3 := d3 t (Nat.le_refl t)
        rw [g1, l1, Option.bind_some, Option.bind_some]
        unfold fX2_stateOf
        rw [part_c N t ht, part_c N t ht, part_c N t ht, part_c N t ht, d1]
        simp only [Option.bind_some, ixb_nI (show t < 601 by omega) (by decide), if_true, nI_clamp (show t < 2 ^ 31 by omega)]
        rcases (show w = 0 ∨ w = 1 ∨ w = 2 ∨ w = 3 ∨ w = 4 ∨ w = 5 by omega) with rfl | rfl | rfl | rfl | rfl | rfl
        · exact ⟨_, _, rfl, rfl, g5.1.trans l2.1.symm, g4⟩
        · rw [show fX2_partAt N 601 (nI t) rs.2 = some (rs.2 t) from part_c N t ht rs.2]
          exact ⟨_, _, rfl, rfl, d3.trans l2.2.2.2.2.2.symm, g4⟩
        · exact ⟨_, _, rfl, rfl, g5.2.1.trans l2.2.1.symm, g4⟩
        · exact ⟨_, _, rfl, rfl, g5.2.2.1.trans l2.2.2.1.symm, g4⟩
        · exact ⟨_, _, rfl, rfl, d2.trans l2.2.2.2.2.1.symm, g4⟩
        · exact ⟨_, _, rfl, rfl, g5.2.2.2.trans l2.2.2.2.1.symm, g4⟩
theorem isOut_r {N : Nat} (hN : 1000 < N) {lc w1 wx wd wh items : Int32} {nb lf ly im it : Nat → Int32} (hR : RLw lc w1 wx wd wh items nb lf ly im it) {B us vs ws xs ys zs : Nat → Int32} {c : Nat} {tt th : Int32} (hL : LC nb B c tt th us vs ws xs ys zs) : fX10_isOut N tt th im it xs ys = some (if (fT nb B).1 = 0 then 0 else if (sd nb B c (fT nb B).1).2 - (fT nb B).2 ≤ paG N lc lf ly (fsq nb B (fT nb B).1).1 then 0 else 1) := by
  obtain ⟨rfl, rfl, h3⟩ := hL
  unfold fX10_isOut
  have hle := fT_le nb B
  by_cases c0 : (fT nb B).1 = 0
  · rw [tk_0 c0, if_pos rfl, if_pos c0]
  · obtain ⟨e1, -, -, -, -, e2⟩ := h3 _ hle
    rw [if_neg (tk_n c0 (by omega)), tk_p c0, if_pos (ixb_nI (by omega) (by decide)), if_pos (ixb_nI (by omega) (by decide)), nI_clamp (by omega), (rl_pa (by omega) hR _).2, Option.bind_some, if_neg c0, e1, e2]
    by_cases c1 : (sd nb B c (fT nb B).1).2 - (fT nb B).2 ≤ paG N lc lf ly (fsq nb B (fT nb B).1).1
    · rw [if_pos c1, if_pos c1]
    · rw [if_neg c1, if_neg c1]
theorem isOut_c {N : Nat} {pa : Int32 → Int32} {L B us ws xs zs : Nat → Int32} {tt tx tl hf : Int32} (hF : FL L B pa tt tx tl hf us ws xs zs) (y : Int32) : fX2_isOutWith N y tt tl hf = some (if (fT L B).1 = 0 then 0 else if y - (fT L B).2 ≤ pa (fsq L B (fT L B).1).1 then 0 else 1) := by
  obtain ⟨rfl, h2, -⟩ := hF
  have hle := fT_le L B
  unfold fX2_isOutWith
  rw [touches_c N _ (by omega), Option.bind_some]
  by_cases c0 : (fT L B).1 = 0
  · rw [if_pos c0, if_pos c0]; rfl
  · obtain ⟨-, e2, e3⟩ := h2 c0
    rw [if_neg c0, if_neg c0, if_neg (by decide), e2, e3]
    by_cases c1 : y - (fT L B).2 ≤ pa (fsq L B (fT L B).1).1
    · rw [if_pos c1, if_pos c1]
    · rw [if_neg c1, if_neg c1]
theorem touch_eq (N : Nat) (hN : 1000 < N) (a1 a2 : Int32) {lc w1 wx wd wh items : Int32} {nb lf ly im it : Nat → Int32} (hR : RLw lc w1 wx wd wh items nb lf ly im it) {B bl xs zs us ws tys : Nat → Int32} (hB : ∀ k, k < 6 → bl k = B k) {flown kn tt tx tl hf : Int32} (hF : RF N lc lf ly nb B flown kn tt tx tl hf xs zs us ws tys) (sv : Int32) (ys : Nat → Int32) (rt rh : Int32) (r1 r2 r3 r4 r5 r6 : Nat → Int32) : ∃ q z, fX9_touch N a1 a2 flown sv tt tx tl hf us ws xs ys zs lc lf ly nb B = some q ∧ fX10_touch N a1 a2 rt rh bl im it r1 r2 r3 r4 r5 r6 = some z ∧ q.1 = z.1 ∧ RF N lc lf ly nb B q.2.1 kn q.2.2.2.1 q.2.2.2.2.1 q.2.2.2.2.2.1 q.2.2.2.2.2.2.1 q.2.2.2.2.2.2.2.2.2.1 q.2.2.2.2.2.2.2.2.2.2.2 q.2.2.2.2.2.2.2.1 q.2.2.2.2.2.2.2.2.1 tys := by
  unfold fX9_touch fX10_touch
  rw [(curve_d N a1).1, (curve_d N a1).2, Option.bind_some, Option.bind_some]
  by_cases c1 : wi a1 0 188 = 0
  · rw [if_pos c1, if_pos c1]; exact ⟨_, _, rfl, rfl, rfl, hF⟩
  · rw [if_neg c1, if_neg c1, wi_def, in_def N a2 0 4 0 4 rfl rfl, Option.bind_some, Option.bind_some]
    by_cases c2 : wi a2 0 4 = 0
    · rw [if_neg (fun z => z c2), if_neg (fun z => z c2)]; exact ⟨_, _, rfl, rfl, rfl, hF⟩
    · rw [if_pos c2, if_pos c2]
      obtain ⟨c, hc, rfl⟩ := wi_ok (m := 188) (by decide) c1
      obtain ⟨w, hw, rfl⟩ := wi_ok (m := 4) (by decide) c2
      obtain ⟨ru, g1, g2, g3, g4⟩ := fly_rf hN hR hF
      obtain ⟨rv, l1, l2⟩ := lay_r N hN nb B c im it bl (rl_law (by omega) hR) hB rt rh r1 r2 r3 r4 r5 r6
      have hle := fT_le nb B
      have o1 := isOut_r hN hR l2
      have o2 := fun y => isOut_c (N := N) g3 y
      obtain ⟨k1, k2, -⟩ := g3
      obtain ⟨m1, m2, m3⟩ := l2
      rw [g1, l1, Option.bind_some, Option.bind_some]
      rw [o1]
      unfold fX2_touchPart
      simp only [o2]
      rw [k1, touches_c N _ (by omega), Option.bind_some]
      by_cases c0 : (fT nb B).1 = 0
      · rw [if_pos c0, if_pos rfl, m1, tk_0 c0, if_neg (fun z => z rfl)]
        refine ⟨_, _, rfl, rfl, rfl, ?_⟩
        rw [k1] at g4
        exact g4
      · obtain ⟨e1, e2, e3⟩ := k2 c0
        have m4 := m3 _ hle
        obtain ⟨sv', ys', ty⟩ := tY_c N hN nb B c _ hle sv ys
        rw [if_neg c0, if_neg (by decide), m1, if_pos (tk_n c0 (by omega)), tk_p c0, ty, e1, e3]
        simp only [Option.bind_some, ixb_nI (show (fT nb B).1 < 601 by omega) (by decide), if_true, nI_clamp (show (fT nb B).1 < 2 ^ 31 by omega)]
        rw [k1, e1, e3] at g4
        rcases (show w = 0 ∨ w = 1 ∨ w = 2 ∨ w = 3 ∨ w = 4 by omega) with rfl | rfl | rfl | rfl | rfl
        · exact ⟨_, _, rfl, rfl, rfl, g4⟩
        · exact ⟨_, _, rfl, rfl, m4.1.symm, g4⟩
        · exact ⟨_, _, rfl, rfl, m4.2.2.2.2.2.symm, g4⟩
        · exact ⟨_, _, rfl, rfl, m2.symm, g4⟩
        · simp only [if_neg c0]
          by_cases cc : (sd nb B c (fT nb B).1).2 - (fT nb B).2 ≤ paG N lc lf ly (fsq nb B (fT nb B).1).1
          · simp only [if_pos cc]
            exact ⟨_, _, rfl, rfl, rfl, g4⟩
          · simp only [if_neg cc]
            exact ⟨_, _, rfl, rfl, rfl, g4⟩
