/-! how the ball goes: one sequence for what all curves share, one for each curve's side -/
theorem loopR {α R : Type} (F : Nat → α → Nat → R) (I : Nat → α → Prop) (a : Nat) (Q : R → Prop) (hx : ∀ n x, I a x → Q (F (n + 1) x a)) (hs : ∀ n x i, i < a → I i x → ∃ y, I (i + 1) y ∧ F (n + 1) x i = F n y (i + 1)) : ∀ (n i : Nat) (x : α), i ≤ a → a - i < n → I i x → Q (F n x i)
  | 0, _, _, _, h2, _ => absurd h2 (Nat.not_lt_zero _)
  | n + 1, i, x, h1, h2, h3 => by
    rcases Nat.lt_or_ge i a with q | q
    · obtain ⟨y, y1, y2⟩ := hs n x i q h3
      rw [y2]
      exact loopR F I a Q hx hs n (i + 1) y q (by omega) y1
    · have e : i = a := by omega
      subst e
      exact hx n x h3
def aR (v air : Int32) : Int32 := v - (v * air) / (1000 : Int32)
def fnu (L : Nat → Int32) (s : Int32 × Int32 × Int32 × Int32) : Int32 := aR s.2.2.1 (L 0)
def fnw (L : Nat → Int32) (s : Int32 × Int32 × Int32 × Int32) : Int32 := aR s.2.2.2 (L 0) - L 1
def fnx (L : Nat → Int32) (s : Int32 × Int32 × Int32 × Int32) : Int32 := s.1 + fnu L s
def fnz (L : Nat → Int32) (s : Int32 × Int32 × Int32 × Int32) : Int32 := s.2.1 + fnw L s
def fhit (L : Nat → Int32) (s : Int32 × Int32 × Int32 × Int32) : Prop := ¬ 0 < fnz L s ∧ ¬ 0 ≤ fnw L s
theorem fhit_dec (L : Nat → Int32) (s : Int32 × Int32 × Int32 × Int32) : fhit L s ∨ ¬ fhit L s := Classical.em _
def fsS (L : Nat → Int32) (s : Int32 × Int32 × Int32 × Int32) : Int32 × Int32 × Int32 × Int32 := if 0 < fnz L s then (fnx L s, fnz L s, fnu L s, fnw L s) else if 0 ≤ fnw L s then (fnx L s, fnz L s, fnu L s, fnw L s) else (fnx L s, 0, fnu L s * L 3 / (1000 : Int32), (-(fnw L s)) * L 2 / (1000 : Int32))
def fsq (L B : Nat → Int32) : Nat → Int32 × Int32 × Int32 × Int32
  | 0 => (B 0, B 2, B 3, B 5)
  | t + 1 => fsS L (fsq L B t)
def ft (L B : Nat → Int32) : Nat → Nat × Int32
  | 0 => (0, 0)
  | t + 1 => if 0 < fnz L (fsq L B t) then ft L B t else if 0 ≤ fnw L (fsq L B t) then ft L B t else if (ft L B t).1 = 0 then (t + 1, L 4 * (-(fnw L (fsq L B t))) / (10 : Int32)) else ft L B t
theorem ft_le (L B : Nat → Int32) : ∀ t, (ft L B t).1 ≤ t
  | 0 => Nat.le_refl 0
  | t + 1 => by
    have h := ft_le L B t
    rw [ft]
    (repeat' split) <;> first | omega | exact Nat.le_refl _
noncomputable def fT (L B : Nat → Int32) : Nat × Int32 := Classical.choose (⟨ft L B 600, rfl⟩ : ∃ T, T = ft L B 600)
theorem fT_eq (L B : Nat → Int32) : fT L B = ft L B 600 := Classical.choose_spec (⟨ft L B 600, rfl⟩ : ∃ T, T = ft L B 600)
theorem fT_le (L B : Nat → Int32) : (fT L B).1 ≤ 600 := by rw [fT_eq]; exact ft_le L B 600
def spn (c : Nat) : Int32 := (nI c - nI c / (9 : Int32) * (9 : Int32)) - (4 : Int32)
def sd (L B : Nat → Int32) (c : Nat) : Nat → Int32 × Int32
  | 0 => ((B 4 + nI c / (9 : Int32)) - (10 : Int32), B 1)
  | t + 1 => (aR (sd L B c t).1 (L 0) + spn c, (sd L B c t).2 + (aR (sd L B c t).1 (L 0) + spn c))
/-- what the class keeps of a flight -/
def FL (L B : Nat → Int32) (pa : Int32 → Int32) (tt tx tl hf : Int32) (us ws xs zs : Nat → Int32) : Prop := tt = nI (fT L B).1 ∧ ((fT L B).1 ≠ 0 → tx = (fsq L B (fT L B).1).1 ∧ tl = pa (fsq L B (fT L B).1).1 ∧ hf = (fT L B).2) ∧ ∀ j, j ≤ 600 → xs j = (fsq L B j).1 ∧ zs j = (fsq L B j).2.1 ∧ us j = (fsq L B j).2.2.1 ∧ ws j = (fsq L B j).2.2.2
theorem note_c (N t : Nat) (ht : t ≤ 600) (x z u w : Int32) (us ws xs zs : Nat → Int32) : fX2_note N (nI t) x z u w us ws xs zs = some (upd us t u, upd ws t w, upd xs t x, upd zs t z) := by
  unfold fX2_note
  rw [if_neg (nI_pos (by omega)), if_pos (show nI t ≤ (600 : Int32) from nI_le (b := 600) ht (by decide)), if_pos (ixb_nI (by omega) (by decide)), if_pos (ixb_nI (by omega) (by decide)), if_pos (ixb_nI (by omega) (by decide)), if_pos (ixb_nI (by omega) (by decide)), nI_clamp (by omega)]
theorem fly_c (N : Nat) (hN : 1000 < N) (L B : Nat → Int32) (pa : Int32 → Int32) (lc : Int32) (lf ly : Nat → Int32) (hp : ∀ x, fX5_paintedAt N x lc lf ly = some (pa x)) (tt tx tl hf : Int32) (us ws xs zs : Nat → Int32) : ∃ ru, fX2_fly N 0 tt tx tl hf lc lf ly L B us ws xs zs = some ru ∧ ru.1 = 1 ∧ FL L B pa ru.2.1 ru.2.2.1 ru.2.2.2.1 ru.2.2.2.2.1 ru.2.2.2.2.2.1 ru.2.2.2.2.2.2.1 ru.2.2.2.2.2.2.2.1 ru.2.2.2.2.2.2.2.2 := by
  unfold fX2_fly
  rw [if_pos rfl]
  have n0 := num_c N 0 (by decide) L
  have n1 := num_c N 1 (by decide) L
  have n2 := num_c N 2 (by decide) L
  have n3 := num_c N 3 (by decide) L
  have n4 := num_c N 4 (by decide) L
  have s0 := start_c N 0 (by decide) B
  have s2 := start_c N 2 (by decide) B
  have s3 := start_c N 3 (by decide) B
  have s5 := start_c N 5 (by decide) B
  have m0 := note_c N 0 (by decide) (B 0) (B 2) (B 3) (B 5) us ws xs zs
  rw [show nI 0 = (0 : Int32) from rfl] at n0 s0 m0
  rw [show nI 1 = (1 : Int32) from rfl] at n1
  rw [show nI 2 = (2 : Int32) from rfl] at n2 s2
  rw [show nI 3 = (3 : Int32) from rfl] at n3 s3
  rw [show nI 4 = (4 : Int32) from rfl] at n4
  rw [show nI 5 = (5 : Int32) from rfl] at s5
  rw [n0, Option.bind_some, n1, Option.bind_some, n2, Option.bind_some, n3, Option.bind_some, s0, Option.bind_some, s2, Option.bind_some, s3, Option.bind_some, s5, Option.bind_some, m0, Option.bind_some]
  simp only [jn]
  refine loopR (fun m (q : Int32 × Int32 × Int32 × Int32 × Int32 × Int32 × Int32 × Int32 × (Nat → Int32) × (Nat → Int32) × (Nat → Int32) × (Nat → Int32)) i => fX2_fly_p111 N (L 0) (L 1) (L 2) (L 3) lc lf ly L (fun (v0_touchTick_230 : Int32) (v0_touchX_230 : Int32) (v0_touchLine_230 : Int32) (v0_half_230 : Int32) (c7_230 : Nat → Int32) (c8_230 : Nat → Int32) (c9_230 : Nat → Int32) (c10_230 : Nat → Int32) => some ((1 : Int32), v0_touchTick_230, v0_touchX_230, v0_touchLine_230, v0_half_230, c7_230, c8_230, c9_230, c10_230)) m q.1 q.2.1 q.2.2.1 q.2.2.2.1 (nI i) q.2.2.2.2.1 q.2.2.2.2.2.1 q.2.2.2.2.2.2.1 q.2.2.2.2.2.2.2.1 q.2.2.2.2.2.2.2.2.1 q.2.2.2.2.2.2.2.2.2.1 q.2.2.2.2.2.2.2.2.2.2.1 q.2.2.2.2.2.2.2.2.2.2.2)
    (fun i q => ∃ t, i = t + 1 ∧ q.1 = (fsq L B t).1 ∧ q.2.1 = (fsq L B t).2.1 ∧ q.2.2.1 = (fsq L B t).2.2.1 ∧ q.2.2.2.1 = (fsq L B t).2.2.2 ∧ q.2.2.2.2.1 = nI (ft L B t).1 ∧ ((ft L B t).1 ≠ 0 → q.2.2.2.2.2.1 = (fsq L B (ft L B t).1).1 ∧ q.2.2.2.2.2.2.1 = pa (fsq L B (ft L B t).1).1 ∧ q.2.2.2.2.2.2.2.1 = (ft L B t).2) ∧ ∀ j, j ≤ t → q.2.2.2.2.2.2.2.2.2.2.1 j = (fsq L B j).1 ∧ q.2.2.2.2.2.2.2.2.2.2.2 j = (fsq L B j).2.1 ∧ q.2.2.2.2.2.2.2.2.1 j = (fsq L B j).2.2.1 ∧ q.2.2.2.2.2.2.2.2.2.1 j = (fsq L B j).2.2.2)
    601 (fun o => ∃ ru, o = some ru ∧ ru.1 = 1 ∧ FL L B pa ru.2.1 ru.2.2.1 ru.2.2.2.1 ru.2.2.2.2.1 ru.2.2.2.2.2.1 ru.2.2.2.2.2.2.1 ru.2.2.2.2.2.2.2.1 ru.2.2.2.2.2.2.2.2)
    (fun m q hI => ?_) (fun m q i hi hI => ?_) N 1 (B 0, B 2, B 3, B 5, 0, tx, tl, hf, upd us 0 (B 3), upd ws 0 (B 5), upd xs 0 (B 0), upd zs 0 (B 2)) (by decide) (by omega) ⟨0, rfl, rfl, rfl, rfl, rfl, rfl, fun h => absurd rfl h, fun j hj => ?_⟩
  · obtain ⟨t, ht, -, -, -, -, h5, h6, h7⟩ := hI
    have e : t = 600 := by omega
    subst e
    rw [fX2_fly_p111, if_pos (show (600 : Int32) < nI (600 + 1) by decide)]
    rw [← fT_eq] at h5 h6
    exact ⟨_, rfl, rfl, h5, h6, h7⟩
  · obtain ⟨x, z, u, w, tt', tx', tl', hf', us', ws', xs', zs'⟩ := q
    obtain ⟨t, rfl, h1, h2, h3, h4, h5, h6, h7⟩ := hI
    dsimp only at h1 h2 h3 h4 h5 h6 h7
    subst h1 h2 h3 h4 h5
    have enw : (fsq L B t).2.2.2 - (fsq L B t).2.2.2 * L 0 / (1000 : Int32) - L 1 = fnw L (fsq L B t) := rfl
    have enu : (fsq L B t).2.2.1 - (fsq L B t).2.2.1 * L 0 / (1000 : Int32) = fnu L (fsq L B t) := rfl
    have enx : (fsq L B t).1 + fnu L (fsq L B t) = fnx L (fsq L B t) := rfl
    have enz : (fsq L B t).2.1 + fnw L (fsq L B t) = fnz L (fsq L B t) := rfl
    have arr : ∀ (x1 z1 u1 w1 : Int32), fsq L B (t + 1) = (x1, z1, u1, w1) → ∀ j, j ≤ t + 1 → upd xs' (t + 1) x1 j = (fsq L B j).1 ∧ upd zs' (t + 1) z1 j = (fsq L B j).2.1 ∧ upd us' (t + 1) u1 j = (fsq L B j).2.2.1 ∧ upd ws' (t + 1) w1 j = (fsq L B j).2.2.2 := fun x1 z1 u1 w1 e j hj => by
      rcases Nat.lt_or_ge t j with k | k
      · have : j = t + 1 := by omega
        subst this
        rw [pk_us, pk_us, pk_us, pk_us, e]
        exact ⟨rfl, rfl, rfl, rfl⟩
      · rw [pk_un (by omega), pk_un (by omega), pk_un (by omega), pk_un (by omega)]
        exact h7 j k
    simp only []
    rw [fX2_fly_p111, if_neg (show ¬ (600 : Int32) < nI (t + 1) from nI_nlt (a := 600) (b := t + 1) (by omega) (by decide))]
    simp only [jn, enw, enu, enx, enz, note_c N (t + 1) (show t + 1 ≤ 600 by omega), Option.bind_some, nI_1]
    by_cases c1 : 0 < fnz L (fsq L B t)
    · have ef : fsq L B (t + 1) = (fnx L (fsq L B t), fnz L (fsq L B t), fnu L (fsq L B t), fnw L (fsq L B t)) := by rw [fsq, fsS, if_pos c1]
      have eg : ft L B (t + 1) = ft L B t := by rw [ft, if_pos c1]
      rw [if_pos c1]
      refine ⟨(fnx L (fsq L B t), fnz L (fsq L B t), fnu L (fsq L B t), fnw L (fsq L B t), nI (ft L B t).1, tx', tl', hf', upd us' (t + 1) (fnu L (fsq L B t)), upd ws' (t + 1) (fnw L (fsq L B t)), upd xs' (t + 1) (fnx L (fsq L B t)), upd zs' (t + 1) (fnz L (fsq L B t))), ?_, rfl⟩
      refine ⟨t + 1, rfl, ?_, ?_, ?_, ?_, ?_, ?_, arr _ _ _ _ ef⟩
      · rw [ef]
      · rw [ef]
      · rw [ef]
      · rw [ef]
      · rw [eg]
      · rw [eg]; exact h6
    · rw [if_neg c1]
      by_cases c2 : 0 ≤ fnw L (fsq L B t)
      · have ef : fsq L B (t + 1) = (fnx L (fsq L B t), fnz L (fsq L B t), fnu L (fsq L B t), fnw L (fsq L B t)) := by rw [fsq, fsS, if_neg c1, if_pos c2]
        have eg : ft L B (t + 1) = ft L B t := by rw [ft, if_neg c1, if_pos c2]
        rw [if_pos c2]
        refine ⟨(fnx L (fsq L B t), fnz L (fsq L B t), fnu L (fsq L B t), fnw L (fsq L B t), nI (ft L B t).1, tx', tl', hf', upd us' (t + 1) (fnu L (fsq L B t)), upd ws' (t + 1) (fnw L (fsq L B t)), upd xs' (t + 1) (fnx L (fsq L B t)), upd zs' (t + 1) (fnz L (fsq L B t))), ?_, rfl⟩
        refine ⟨t + 1, rfl, ?_, ?_, ?_, ?_, ?_, ?_, arr _ _ _ _ ef⟩
        · rw [ef]
        · rw [ef]
        · rw [ef]
        · rw [ef]
        · rw [eg]
        · rw [eg]; exact h6
      · have ef : fsq L B (t + 1) = (fnx L (fsq L B t), 0, fnu L (fsq L B t) * L 3 / (1000 : Int32), (-(fnw L (fsq L B t))) * L 2 / (1000 : Int32)) := by rw [fsq, fsS, if_neg c1, if_neg c2]
        rw [if_neg c2]
        unfold fX2_noteTouch
        have hle := ft_le L B t
        by_cases c3 : (ft L B t).1 = 0
        · have eg : ft L B (t + 1) = (t + 1, L 4 * (-(fnw L (fsq L B t))) / (10 : Int32)) := by rw [ft, if_neg c1, if_neg c2, if_pos c3]
          rw [c3, if_neg (fun k => k (show nI 0 = (0 : Int32) from rfl)), hp, Option.bind_some, n4, Option.bind_some, Option.bind_some]
          refine ⟨(fnx L (fsq L B t), 0, fnu L (fsq L B t) * L 3 / (1000 : Int32), (-(fnw L (fsq L B t))) * L 2 / (1000 : Int32), nI (t + 1), fnx L (fsq L B t), pa (fnx L (fsq L B t)), L 4 * (-(fnw L (fsq L B t))) / (10 : Int32), upd us' (t + 1) (fnu L (fsq L B t) * L 3 / (1000 : Int32)), upd ws' (t + 1) ((-(fnw L (fsq L B t))) * L 2 / (1000 : Int32)), upd xs' (t + 1) (fnx L (fsq L B t)), upd zs' (t + 1) 0), ?_, rfl⟩
          refine ⟨t + 1, rfl, ?_, ?_, ?_, ?_, ?_, ?_, arr _ _ _ _ ef⟩
          · rw [ef]
          · rw [ef]
          · rw [ef]
          · rw [ef]
          · rw [eg]
          · rw [eg]; intro _; dsimp only; rw [ef]; exact ⟨rfl, rfl, rfl⟩
        · have eg : ft L B (t + 1) = ft L B t := by rw [ft, if_neg c1, if_neg c2, if_neg c3]
          rw [if_pos (nI_ne0 (by omega) (by omega)), Option.bind_some]
          refine ⟨(fnx L (fsq L B t), 0, fnu L (fsq L B t) * L 3 / (1000 : Int32), (-(fnw L (fsq L B t))) * L 2 / (1000 : Int32), nI (ft L B t).1, tx', tl', hf', upd us' (t + 1) (fnu L (fsq L B t) * L 3 / (1000 : Int32)), upd ws' (t + 1) ((-(fnw L (fsq L B t))) * L 2 / (1000 : Int32)), upd xs' (t + 1) (fnx L (fsq L B t)), upd zs' (t + 1) 0), ?_, rfl⟩
          refine ⟨t + 1, rfl, ?_, ?_, ?_, ?_, ?_, ?_, arr _ _ _ _ ef⟩
          · rw [ef]
          · rw [ef]
          · rw [ef]
          · rw [ef]
          · rw [eg]
          · rw [eg]; exact h6
  · have : j = 0 := by omega
    subst this
    exact ⟨rfl, rfl, rfl, rfl⟩
