/-- a tick of the touch as the reference tells it -/
def tk (n : Nat) : Int32 := if n = 0 then -4 else nI n
theorem tk_0 {n : Nat} (h : n = 0) : tk n = -4 := by subst h; rfl
theorem tk_p {n : Nat} (h : n ≠ 0) : tk n = nI n := if_neg h
theorem tk_n {n : Nat} (h : n ≠ 0) (h2 : n < 2 ^ 31) : ¬ tk n = -4 := by
  rw [tk_p h]
  exact fun q => nI_pos h2 (by rw [q]; decide)
/-- what the reference lays of a curve -/
def LC (L B : Nat → Int32) (c : Nat) (tt th : Int32) (us vs ws xs ys zs : Nat → Int32) : Prop := tt = tk (fT L B).1 ∧ th = (fT L B).2 ∧ ∀ j, j ≤ 600 → xs j = (fsq L B j).1 ∧ zs j = (fsq L B j).2.1 ∧ us j = (fsq L B j).2.2.1 ∧ ws j = (fsq L B j).2.2.2 ∧ vs j = (sd L B c j).1 ∧ ys j = (sd L B c j).2
theorem lay_r (N : Nat) (hN : 1000 < N) (L B : Nat → Int32) (c : Nat) (im it bl : Nat → Int32) (hL : ∀ k, k < 6 → fX10_lawOf N (nI k) im it = some (L k)) (hB : ∀ k, k < 6 → bl k = B k) (tt th : Int32) (us vs ws xs ys zs : Nat → Int32) : ∃ ru, fX10_layCurve N (nI c) tt th bl im it us vs ws xs ys zs = some ru ∧ LC L B c ru.1 ru.2.1 ru.2.2.1 ru.2.2.2.1 ru.2.2.2.2.1 ru.2.2.2.2.2.1 ru.2.2.2.2.2.2.1 ru.2.2.2.2.2.2.2 := by
  unfold fX10_layCurve
  have n0 := hL 0 (by decide)
  have n1 := hL 1 (by decide)
  have n2 := hL 2 (by decide)
  have n3 := hL 3 (by decide)
  have n4 := hL 4 (by decide)
  rw [show nI 0 = (0 : Int32) from rfl] at n0
  rw [show nI 1 = (1 : Int32) from rfl] at n1
  rw [show nI 2 = (2 : Int32) from rfl] at n2
  rw [show nI 3 = (3 : Int32) from rfl] at n3
  rw [show nI 4 = (4 : Int32) from rfl] at n4
  have b0 := hB 0 (by decide)
  have b1 := hB 1 (by decide)
  have b2 := hB 2 (by decide)
  have b3 := hB 3 (by decide)
  have b4 := hB 4 (by decide)
  have b5 := hB 5 (by decide)
  rw [n0, Option.bind_some, n1, Option.bind_some, n2, Option.bind_some, n3, Option.bind_some, n4, Option.bind_some]
  simp only [jn]
  rw [show (0 : Int32).toNatClampNeg = 0 from rfl, show (1 : Int32).toNatClampNeg = 1 from rfl, show (2 : Int32).toNatClampNeg = 2 from rfl, show (3 : Int32).toNatClampNeg = 3 from rfl, show (4 : Int32).toNatClampNeg = 4 from rfl, show (5 : Int32).toNatClampNeg = 5 from rfl, b0, b1, b2, b3, b4, b5]
  refine loopR (fun m (q : Int32 × Int32 × (Nat → Int32) × (Nat → Int32) × (Nat → Int32) × (Nat → Int32) × (Nat → Int32) × (Nat → Int32)) i => fX10_layCurve_p135 N (L 0) (L 1) (L 2) (L 3) (L 4) (((nI c - nI c / (9 : Int32) * (9 : Int32)) - (4 : Int32))) (fun (v0_touchTick_387 : Int32) (v0_touchHalf_387 : Int32) (c4_387 : Nat → Int32) (c5_387 : Nat → Int32) (c6_387 : Nat → Int32) (c7_387 : Nat → Int32) (c8_387 : Nat → Int32) (c9_387 : Nat → Int32) => some (v0_touchTick_387, v0_touchHalf_387, c4_387, c5_387, c6_387, c7_387, c8_387, c9_387)) m (nI i) q.1 q.2.1 q.2.2.1 q.2.2.2.1 q.2.2.2.2.1 q.2.2.2.2.2.1 q.2.2.2.2.2.2.1 q.2.2.2.2.2.2.2)
    (fun i q => ∃ t, i = t + 1 ∧ q.1 = tk (ft L B t).1 ∧ q.2.1 = (ft L B t).2 ∧ ∀ j, j ≤ t → q.2.2.2.2.2.1 j = (fsq L B j).1 ∧ q.2.2.2.2.2.2.2 j = (fsq L B j).2.1 ∧ q.2.2.1 j = (fsq L B j).2.2.1 ∧ q.2.2.2.2.1 j = (fsq L B j).2.2.2 ∧ q.2.2.2.1 j = (sd L B c j).1 ∧ q.2.2.2.2.2.2.1 j = (sd L B c j).2)
    601 (fun o => ∃ ru, o = some ru ∧ LC L B c ru.1 ru.2.1 ru.2.2.1 ru.2.2.2.1 ru.2.2.2.2.1 ru.2.2.2.2.2.1 ru.2.2.2.2.2.2.1 ru.2.2.2.2.2.2.2)
    (fun m q hI => ?_) (fun m q i hi hI => ?_) N 1 (-4, 0, upd us 0 (B 3), upd vs 0 ((B 4 + nI c / (9 : Int32)) - (10 : Int32)), upd ws 0 (B 5), upd xs 0 (B 0), upd ys 0 (B 1), upd zs 0 (B 2)) (by decide) (by omega) ⟨0, rfl, rfl, rfl, fun j hj => ?_⟩
  · obtain ⟨t, ht, h5, h6, h7⟩ := hI
    have e : t = 600 := by omega
    subst e
    rw [fX10_layCurve_p135, if_pos (show (600 : Int32) < nI (600 + 1) by decide)]
    rw [← fT_eq] at h5 h6
    exact ⟨_, rfl, h5, h6, h7⟩
  · obtain ⟨tt', th', us', vs', ws', xs', ys', zs'⟩ := q
    obtain ⟨t, rfl, h5, h6, h7⟩ := hI
    dsimp only at h5 h6 h7
    subst h5 h6
    obtain ⟨hx, hz, hu, hw, hv, hy⟩ := h7 t (Nat.le_refl t)
    have enw : (fsq L B t).2.2.2 - (fsq L B t).2.2.2 * L 0 / (1000 : Int32) - L 1 = fnw L (fsq L B t) := rfl
    have enu : (fsq L B t).2.2.1 - (fsq L B t).2.2.1 * L 0 / (1000 : Int32) = fnu L (fsq L B t) := rfl
    have enx : (fsq L B t).1 + fnu L (fsq L B t) = fnx L (fsq L B t) := rfl
    have enz : (fsq L B t).2.1 + fnw L (fsq L B t) = fnz L (fsq L B t) := rfl
    have env : (sd L B c t).1 - (sd L B c t).1 * L 0 / (1000 : Int32) + (nI c - nI c / (9 : Int32) * (9 : Int32) - (4 : Int32)) = (sd L B c (t + 1)).1 := rfl
    have eny : (sd L B c t).2 + (sd L B c (t + 1)).1 = (sd L B c (t + 1)).2 := rfl
    have arr : ∀ (x1 z1 u1 w1 : Int32), fsq L B (t + 1) = (x1, z1, u1, w1) → ∀ j, j ≤ t + 1 → upd xs' (t + 1) x1 j = (fsq L B j).1 ∧ upd zs' (t + 1) z1 j = (fsq L B j).2.1 ∧ upd us' (t + 1) u1 j = (fsq L B j).2.2.1 ∧ upd ws' (t + 1) w1 j = (fsq L B j).2.2.2 ∧ upd vs' (t + 1) (sd L B c (t + 1)).1 j = (sd L B c j).1 ∧ upd ys' (t + 1) (sd L B c (t + 1)).2 j = (sd L B c j).2 := fun x1 z1 u1 w1 e j hj => by
      rcases Nat.lt_or_ge t j with k | k
      · have : j = t + 1 := by omega
        subst this
        rw [pk_us, pk_us, pk_us, pk_us, pk_us, pk_us, e]
        exact ⟨rfl, rfl, rfl, rfl, rfl, rfl⟩
      · rw [pk_un (by omega), pk_un (by omega), pk_un (by omega), pk_un (by omega), pk_un (by omega), pk_un (by omega)]
        exact h7 j k
    rw [fX10_layCurve_p135, if_neg (show ¬ (600 : Int32) < nI (t + 1) from nI_nlt (a := 600) (b := t + 1) (by omega) (by decide))]
    simp only [jn, nI_pred, ixb_nI (show t < 601 by omega) (by decide), ixb_nI (show t + 1 < 601 by omega) (by decide), if_true, nI_clamp (show t < 2 ^ 31 by omega), nI_clamp (show t + 1 < 2 ^ 31 by omega), hx, hz, hu, hw, hv, hy, enw, enu, enx, enz, env, eny, nI_1]
    have hle := ft_le L B t
    by_cases c1 : 0 < fnz L (fsq L B t)
    · have ef : fsq L B (t + 1) = (fnx L (fsq L B t), fnz L (fsq L B t), fnu L (fsq L B t), fnw L (fsq L B t)) := by rw [fsq, fsS, if_pos c1]
      have eg : ft L B (t + 1) = ft L B t := by rw [ft, if_pos c1]
      rw [if_pos c1]
      refine ⟨(tk (ft L B t).1, (ft L B t).2, upd us' (t + 1) (fnu L (fsq L B t)), upd vs' (t + 1) (sd L B c (t + 1)).1, upd ws' (t + 1) (fnw L (fsq L B t)), upd xs' (t + 1) (fnx L (fsq L B t)), upd ys' (t + 1) (sd L B c (t + 1)).2, upd zs' (t + 1) (fnz L (fsq L B t))), ?_, rfl⟩
      refine ⟨t + 1, rfl, ?_, ?_, arr _ _ _ _ ef⟩
      · rw [eg]
      · rw [eg]
    · rw [if_neg c1]
      by_cases c2 : 0 ≤ fnw L (fsq L B t)
      · have ef : fsq L B (t + 1) = (fnx L (fsq L B t), fnz L (fsq L B t), fnu L (fsq L B t), fnw L (fsq L B t)) := by rw [fsq, fsS, if_neg c1, if_pos c2]
        have eg : ft L B (t + 1) = ft L B t := by rw [ft, if_neg c1, if_pos c2]
        rw [if_pos c2]
        refine ⟨(tk (ft L B t).1, (ft L B t).2, upd us' (t + 1) (fnu L (fsq L B t)), upd vs' (t + 1) (sd L B c (t + 1)).1, upd ws' (t + 1) (fnw L (fsq L B t)), upd xs' (t + 1) (fnx L (fsq L B t)), upd ys' (t + 1) (sd L B c (t + 1)).2, upd zs' (t + 1) (fnz L (fsq L B t))), ?_, rfl⟩
        refine ⟨t + 1, rfl, ?_, ?_, arr _ _ _ _ ef⟩
        · rw [eg]
        · rw [eg]
      · have ef : fsq L B (t + 1) = (fnx L (fsq L B t), 0, fnu L (fsq L B t) * L 3 / (1000 : Int32), (-(fnw L (fsq L B t))) * L 2 / (1000 : Int32)) := by rw [fsq, fsS, if_neg c1, if_neg c2]
        rw [if_neg c2]
        by_cases c3 : (ft L B t).1 = 0
        · have eg : ft L B (t + 1) = (t + 1, L 4 * (-(fnw L (fsq L B t))) / (10 : Int32)) := by rw [ft, if_neg c1, if_neg c2, if_pos c3]
          rw [tk_0 c3, if_neg (fun k => k rfl)]
          refine ⟨(nI (t + 1), L 4 * (-(fnw L (fsq L B t))) / (10 : Int32), upd us' (t + 1) (fnu L (fsq L B t) * L 3 / (1000 : Int32)), upd vs' (t + 1) (sd L B c (t + 1)).1, upd ws' (t + 1) ((-(fnw L (fsq L B t))) * L 2 / (1000 : Int32)), upd xs' (t + 1) (fnx L (fsq L B t)), upd ys' (t + 1) (sd L B c (t + 1)).2, upd zs' (t + 1) 0), ?_, rfl⟩
          refine ⟨t + 1, rfl, ?_, ?_, arr _ _ _ _ ef⟩
          · rw [eg]; exact (tk_p (Nat.succ_ne_zero t)).symm
          · rw [eg]
        · have eg : ft L B (t + 1) = ft L B t := by rw [ft, if_neg c1, if_neg c2, if_neg c3]
          rw [if_pos (tk_n c3 (by omega))]
          refine ⟨(tk (ft L B t).1, (ft L B t).2, upd us' (t + 1) (fnu L (fsq L B t) * L 3 / (1000 : Int32)), upd vs' (t + 1) (sd L B c (t + 1)).1, upd ws' (t + 1) ((-(fnw L (fsq L B t))) * L 2 / (1000 : Int32)), upd xs' (t + 1) (fnx L (fsq L B t)), upd ys' (t + 1) (sd L B c (t + 1)).2, upd zs' (t + 1) 0), ?_, rfl⟩
          refine ⟨t + 1, rfl, ?_, ?_, arr _ _ _ _ ef⟩
          · rw [eg]
          · rw [eg]
  · have : j = 0 := by omega
    subst this
    exact ⟨rfl, rfl, rfl, rfl, rfl, rfl⟩
theorem side_c (N : Nat) (hN : 1000 < N) (L B : Nat → Int32) (c m : Nat) (hm : m ≤ 600) (sv : Int32) (ys : Nat → Int32) : ∃ ru, fX2_runSide N (nI c) (nI m) sv L B ys = some ru ∧ ru.1 = (sd L B c m).1 ∧ ∀ j, j ≤ m → ru.2 j = (sd L B c j).2 := by
  unfold fX2_runSide
  have n0 := num_c N 0 (by decide) L
  have s1 := start_c N 1 (by decide) B
  have s4 := start_c N 4 (by decide) B
  rw [show nI 0 = (0 : Int32) from rfl] at n0
  rw [show nI 1 = (1 : Int32) from rfl] at s1
  rw [show nI 4 = (4 : Int32) from rfl] at s4
  rw [s4, Option.bind_some, s1, Option.bind_some, n0, Option.bind_some]
  simp only [jn]
  refine loopR (fun k (q : Int32 × Int32 × (Nat → Int32)) i => fX2_runSide_p56 N (nI m) ((nI c - nI c / (9 : Int32) * (9 : Int32)) - (4 : Int32)) (L 0) (fun (x4_114 : Int32) (c5_114 : Nat → Int32) => some (x4_114, c5_114)) k q.1 q.2.1 (nI i) q.2.2)
    (fun i q => ∃ t, i = t + 1 ∧ q.1 = (sd L B c t).1 ∧ q.2.1 = (sd L B c t).2 ∧ ∀ j, j ≤ t → q.2.2 j = (sd L B c j).2)
    (m + 1) (fun o => ∃ ru, o = some ru ∧ ru.1 = (sd L B c m).1 ∧ ∀ j, j ≤ m → ru.2 j = (sd L B c j).2)
    (fun k q hI => ?_) (fun k q i hi hI => ?_) N 1 ((B 4 + nI c / (9 : Int32)) - (10 : Int32), B 1, upd ys 0 (B 1)) (by omega) (by omega) ⟨0, rfl, rfl, rfl, fun j hj => ?_⟩
  · obtain ⟨t, ht, h5, h6, h7⟩ := hI
    have e : t = m := by omega
    subst e
    rw [fX2_runSide_p56, if_pos (nI_lt (Nat.lt_succ_self t) (by omega))]
    exact ⟨_, rfl, h5, h7⟩
  · obtain ⟨v, y, ys'⟩ := q
    obtain ⟨t, rfl, h5, h6, h7⟩ := hI
    dsimp only at h5 h6 h7
    subst h5 h6
    have env : (sd L B c t).1 - (sd L B c t).1 * L 0 / (1000 : Int32) + (nI c - nI c / (9 : Int32) * (9 : Int32) - (4 : Int32)) = (sd L B c (t + 1)).1 := rfl
    have eny : (sd L B c t).2 + (sd L B c (t + 1)).1 = (sd L B c (t + 1)).2 := rfl
    rw [fX2_runSide_p56, if_neg (nI_nlt (a := m) (b := t + 1) (by omega) (by omega)), if_neg (show ¬ (601 : Int32) ≤ nI (t + 1) from nI_ge (b := 601) (by omega) (by decide)), if_pos (ixb_nI (by omega) (by decide)), env, eny, nI_1, nI_clamp (by omega)]
    refine ⟨((sd L B c (t + 1)).1, (sd L B c (t + 1)).2, upd ys' (t + 1) (sd L B c (t + 1)).2), ?_, rfl⟩
    refine ⟨t + 1, rfl, rfl, rfl, fun j hj => ?_⟩
    rcases Nat.lt_or_ge t j with k | k
    · have : j = t + 1 := by omega
      subst this
      exact pk_us
    · exact (pk_un (by omega)).trans (h7 j k)
  · have : j = 0 := by omega
    subst this
    rfl
theorem part_c (N t : Nat) (ht : t ≤ 600) (f : Nat → Int32) : fX2_partAt N 601 (nI t) f = some (f t) := by
  unfold fX2_partAt
  rw [if_neg (nI_pos (by omega)), if_neg (show ¬ Int32.ofNat 601 ≤ nI t from nI_ge (b := 601) (by omega) (by decide)), if_pos (ixb_nI (by omega) (by decide)), nI_clamp (by omega)]
theorem tY_c (N : Nat) (hN : 1000 < N) (L B : Nat → Int32) (c m : Nat) (hm : m ≤ 600) (sv : Int32) (ys : Nat → Int32) : ∃ sv' ys', fX2_touchY N (nI c) sv (nI m) L B ys = some ((sd L B c m).2, sv', ys') := by
  obtain ⟨ru, h1, h2, h3⟩ := side_c N hN L B c m hm sv ys
  unfold fX2_touchY
  rw [h1, Option.bind_some, part_c N m hm, Option.bind_some, h3 m (Nat.le_refl m)]
  exact ⟨_, _, rfl⟩
theorem know_c (N : Nat) (hN : 1000 < N) (L B : Nat → Int32) (m : Nat) (hm : m ≤ 600) (kn sv : Int32) (hk : kn = 0 ∨ kn = 1) (tys ys : Nat → Int32) (hK : kn = 1 → ∀ c, c < 189 → tys c = (sd L B c m).2) : ∃ ru, fX2_knowTouchYs N kn sv (nI m) L B tys ys = some ru ∧ ru.1 = 1 ∧ ∀ c, c < 189 → ru.2.2.1 c = (sd L B c m).2 := by
  unfold fX2_knowTouchYs
  rcases hk with rfl | rfl
  · rw [if_pos rfl]
    simp only [jn]
    refine loopR (fun k (q : Int32 × (Nat → Int32) × (Nat → Int32)) i => fX2_knowTouchYs_p10 N (nI m) L B (fun (v0_sideV_36 : Int32) (c5_36 : Nat → Int32) (c6_36 : Nat → Int32) => some ((1 : Int32), v0_sideV_36, c5_36, c6_36)) k (nI i) q.1 q.2.1 q.2.2)
      (fun i q => ∀ c, c < i → q.2.1 c = (sd L B c m).2)
      189 (fun o => ∃ ru, o = some ru ∧ ru.1 = 1 ∧ ∀ c, c < 189 → ru.2.2.1 c = (sd L B c m).2)
      (fun k q hI => ?_) (fun k q i hi hI => ?_) N 0 (sv, tys, ys) (by decide) (by omega) (fun c hc => absurd hc (Nat.not_lt_zero c))
    · rw [fX2_knowTouchYs_p10, if_pos (show (189 : Int32) ≤ nI 189 by decide)]
      exact ⟨_, rfl, rfl, hI⟩
    · obtain ⟨sv', ys', h⟩ := tY_c N hN L B i m hm q.1 q.2.2
      rw [fX2_knowTouchYs_p10, if_neg (show ¬ (189 : Int32) ≤ nI i from nI_ge (b := 189) hi (by decide)), h, Option.bind_some, if_pos (ixb_nI hi (by decide)), nI_1, nI_clamp (by omega)]
      refine ⟨(sv', upd q.2.1 i (sd L B i m).2, ys'), fun c hc => ?_, rfl⟩
      rcases Nat.lt_or_ge c i with k | k
      · exact (pk_un (by omega)).trans (hI c k)
      · have : c = i := by omega
        subst this
        exact pk_us
  · rw [if_neg (by decide)]
    exact ⟨_, rfl, rfl, hK rfl⟩
