/-! which sights a curve fits -/
def aI (x : Int32) : Int32 := if 0 ≤ x then x else -x
theorem aI_c (x : Int32) : (if 0 ≤ x then x else 0 - x) = aI x := by
  unfold aI
  rw [Int32.zero_sub]
def msk (p : Nat → Bool) : Nat → Nat
  | 0 => 0
  | m + 1 => msk p m ||| (if p m then 2 ^ m else 0)
theorem msk_bit (p : Nat → Bool) : ∀ m i, (msk p m).testBit i = (decide (i < m) && p i)
  | 0, i => by simp [msk]
  | m + 1, i => by
    rw [msk, Nat.testBit_or, msk_bit p m i]
    by_cases c : p m = true
    · rw [if_pos c, Nat.testBit_two_pow]
      by_cases e : m = i
      · subst e; simp [c]
      · have : decide (i < m) = decide (i < m + 1) := by
          by_cases q : i < m
          · simp [q]; omega
          · simp [q]; omega
        simp [e, this]
    · rw [if_neg c, Nat.zero_testBit, Bool.or_false]
      by_cases e : m = i
      · subst e; simp [c]
      · have : decide (i < m) = decide (i < m + 1) := by
          by_cases q : i < m
          · simp [q]; omega
          · simp [q]; omega
        rw [this]
theorem msk_lt (p : Nat → Bool) : ∀ m, msk p m < 2 ^ m
  | 0 => Nat.one_pos
  | m + 1 => by
    rw [msk]
    apply Nat.or_lt_two_pow
    · exact Nat.lt_trans (msk_lt p m) (Nat.pow_lt_pow_right (by decide) (Nat.lt_succ_self m))
    · split
      · exact Nat.pow_lt_pow_right (by decide) (Nat.lt_succ_self m)
      · exact Nat.two_pow_pos _
def obB (L B cam rows : Nat → Int32) (c i : Nat) : Int32 := aI (((cam (3 * (rows (6 * i + 1)).toNatClampNeg) * (fsq L B (rows (6 * i + 3)).toNatClampNeg).1 + cam (3 * (rows (6 * i + 1)).toNatClampNeg + 1) * (sd L B c (rows (6 * i + 3)).toNatClampNeg).2) + cam (3 * (rows (6 * i + 1)).toNatClampNeg + 2) * (fsq L B (rows (6 * i + 3)).toNatClampNeg).2.1) / (10 : Int32) - rows (6 * i + 2))
noncomputable def frB (L B rows : Nat → Int32) (c i : Nat) : Int32 := if aI ((fsq L B (fT L B).1).1 - rows (6 * i + 1)) < aI ((sd L B c (fT L B).1).2 - rows (6 * i + 2)) then aI ((sd L B c (fT L B).1).2 - rows (6 * i + 2)) else aI ((fsq L B (fT L B).1).1 - rows (6 * i + 1))
noncomputable def ltB (L B rows : Nat → Int32) (c i : Nat) : Int32 := aI ((nI (fT L B).1 + ((frB L B rows c i + rows (6 * i + 5)) - (1 : Int32)) / rows (6 * i + 5)) - rows (6 * i + 3))
noncomputable def fitB (L B cam rows : Nat → Int32) (c i : Nat) : Bool := if rows (6 * i) = 0 then decide (obB L B cam rows c i ≤ rows (6 * i + 4)) else if (fT L B).1 = 0 then false else if rows (6 * i) = 1 then decide (frB L B rows c i ≤ rows (6 * i + 4)) else decide (ltB L B rows c i ≤ rows (6 * i + 4))
def GR (rows : Nat → Int32) (i : Nat) : Prop := (0 ≤ (rows (6 * i + 4)).toInt ∧ (rows (6 * i + 4)).toInt ≤ 1000) ∧ ((rows (6 * i) = 0 ∧ (∃ c : Nat, c ≤ 3 ∧ rows (6 * i + 1) = nI c) ∧ (∃ j : Nat, j ≤ 600 ∧ rows (6 * i + 3) = nI j)) ∨ rows (6 * i) = 1 ∨ (rows (6 * i) = 2 ∧ ∃ j : Nat, 1 ≤ j ∧ j ≤ 500 ∧ rows (6 * i + 5) = nI j))
theorem pt_c (N i w a : Nat) (hi : i < a) (ha : a ≤ 30) (hw : w < 6) (rows : Nat → Int32) : fX8_part N (nI i) (nI w) (nI a) rows = some (rows (6 * i + w)) := by
  have e : nI i * (6 : Int32) + nI w = nI (6 * i + w) := by rw [show (6 : Int32) = nI 6 from rfl, pk_mul, nI_add, Nat.mul_comm]
  unfold fX8_part
  rw [if_neg (nI_pos (by omega)), if_neg (nI_ge hi (by omega)), e, if_neg (show ¬ (180 : Int32) ≤ nI (6 * i + w) from nI_ge (b := 180) (by omega) (by decide)), if_pos (ixb_nI (by omega) (by decide)), nI_clamp (by omega)]
theorem srow_c (N i a : Nat) (hi : i < a) (ha : a ≤ 30) (rows : Nat → Int32) : fX8_isBlur N (nI i) (nI a) rows = some (if rows (6 * i) = 0 then 1 else 0) ∧ fX8_kindOf N (nI i) (nI a) rows = some (rows (6 * i)) ∧ fX8_firstOf N (nI i) (nI a) rows = some (rows (6 * i + 1)) ∧ fX8_secondOf N (nI i) (nI a) rows = some (rows (6 * i + 2)) ∧ fX8_tickOf N (nI i) (nI a) rows = some (rows (6 * i + 3)) ∧ fX8_doubtOf N (nI i) (nI a) rows = some (rows (6 * i + 4)) ∧ fX8_speedOf N (nI i) (nI a) rows = some (rows (6 * i + 5)) := by
  have p0 := pt_c N i 0 a hi ha (by decide) rows
  have p1 := pt_c N i 1 a hi ha (by decide) rows
  have p2 := pt_c N i 2 a hi ha (by decide) rows
  have p3 := pt_c N i 3 a hi ha (by decide) rows
  have p4 := pt_c N i 4 a hi ha (by decide) rows
  have p5 := pt_c N i 5 a hi ha (by decide) rows
  rw [show nI 0 = (0 : Int32) from rfl, Nat.add_zero] at p0
  rw [show nI 1 = (1 : Int32) from rfl] at p1
  rw [show nI 2 = (2 : Int32) from rfl] at p2
  rw [show nI 3 = (3 : Int32) from rfl] at p3
  rw [show nI 4 = (4 : Int32) from rfl] at p4
  rw [show nI 5 = (5 : Int32) from rfl] at p5
  unfold fX8_isBlur fX8_kindOf fX8_firstOf fX8_secondOf fX8_tickOf fX8_doubtOf fX8_speedOf
  rw [p0, p1, p2, p3, p4, p5]
  refine ⟨?_, rfl, rfl, rfl, rfl, rfl, rfl⟩
  rw [Option.bind_some]
  by_cases c : rows (6 * i) = 0
  · rw [if_neg (fun z => z c), if_pos c]
  · rw [if_pos c, if_neg c]
theorem shl_1 : ∀ i : Nat, i < 30 → (1 : Int32) <<< (nI i &&& 31) = nI (2 ^ i) := by decide
theorem seen_c (N k t : Nat) (hk : k ≤ 3) (ht : t ≤ 600) (xs ys zs cam : Nat → Int32) : fX7_seen N (nI k) (nI t) xs ys zs cam = some (((cam (3 * k) * xs t + cam (3 * k + 1) * ys t) + cam (3 * k + 2) * zs t) / (10 : Int32)) := by
  have e0 : nI k * (3 : Int32) = nI (3 * k) := by rw [show (3 : Int32) = nI 3 from rfl, pk_mul, Nat.mul_comm]
  have e1 : nI (3 * k) + (1 : Int32) = nI (3 * k + 1) := nI_add _ 1
  have e2 : nI (3 * k) + (2 : Int32) = nI (3 * k + 2) := nI_add _ 2
  unfold fX7_seen fX2_xAt fX2_yAt fX2_zAt
  rw [e0, e1, e2, part_c N t ht, part_c N t ht, part_c N t ht, if_neg (nI_pos (by omega)), if_pos (show nI (3 * k + 2) < (12 : Int32) from nI_lt (b := 12) (by omega) (by decide))]
  simp only [Option.bind_some, ixb_nI (show 3 * k < 12 by omega) (by decide), ixb_nI (show 3 * k + 1 < 12 by omega) (by decide), ixb_nI (show 3 * k + 2 < 12 by omega) (by decide), if_true, nI_clamp (show 3 * k < 2 ^ 31 by omega), nI_clamp (show 3 * k + 1 < 2 ^ 31 by omega), nI_clamp (show 3 * k + 2 < 2 ^ 31 by omega)]
theorem kty_c (N c : Nat) (hc : c < 189) (f : Nat → Int32) : fX2_knownTouchY N (nI c) f = some (f c) := by
  unfold fX2_knownTouchY
  rw [if_neg (nI_pos (by omega)), if_neg (show ¬ (189 : Int32) ≤ nI c from nI_ge (b := 189) hc (by decide)), if_pos (ixb_nI hc (by decide)), nI_clamp (by omega)]
theorem cmp_c (N : Nat) {L B cam rows fb os tys xs ys zs : Nat → Int32} {c i a : Nat} (hc : c < 189) (hi : i < a) (ha : a ≤ 30) (hG : GR rows i) (tch tt tx : Int32)
    (hxs : ∀ j, j ≤ 600 → xs j = (fsq L B j).1 ∧ zs j = (fsq L B j).2.1)
    (hys : rows (6 * i) = 0 → ∀ j, rows (6 * i + 3) = nI j → j ≤ 600 → ys j = (sd L B c j).2)
    (htch : ¬ rows (6 * i) = 0 → (tch = 0 ∧ (fT L B).1 = 0) ∨ (¬ tch = 0 ∧ ¬ (fT L B).1 = 0 ∧ tt = nI (fT L B).1 ∧ tx = (fsq L B (fT L B).1).1 ∧ tys c = (sd L B c (fT L B).1).2)) :
    fX7_compare N (nI c) (nI i) tch fb tt tx tys xs ys zs cam (nI a) rows os = some (if fitB L B cam rows c i = true then upd fb c (fb c ||| nI (2 ^ i)) else fb, if rows (6 * i) = 0 then upd os (189 * (rows (6 * i + 1)).toNatClampNeg + c) (os (189 * (rows (6 * i + 1)).toNatClampNeg + c) + obB L B cam rows c i) else os) := by
  obtain ⟨p0, p1, p2, p3, p4, p5, p6⟩ := srow_c N i a hi ha rows
  obtain ⟨hE, hG⟩ := hG
  have fin : ∀ (off : Int32) (os' : Nat → Int32), (if rows (6 * i + 4) < off then some (fb, os') else (if nI c < 0 then some (fb, os') else (if (189 : Int32) ≤ nI c then some (fb, os') else (if ixb (nI c) 189 = true then (if ixb (nI c) 189 = true then some ((upd fb (nI c).toNatClampNeg ((fb (nI c).toNatClampNeg) ||| ((1 : Int32) <<< (nI i &&& 31)))), os') else none) else none)))) = some (if decide (off ≤ rows (6 * i + 4)) = true then upd fb c (fb c ||| nI (2 ^ i)) else fb, os') := fun off os' => by
    rw [if_neg (nI_pos (by omega)), if_neg (show ¬ (189 : Int32) ≤ nI c from nI_ge (b := 189) hc (by decide)), if_pos (ixb_nI hc (by decide)), if_pos (ixb_nI hc (by decide)), nI_clamp (by omega), shl_1 i (by omega)]
    by_cases q : off ≤ rows (6 * i + 4)
    · rw [if_neg (fun z => by rw [fa_lt] at z; rw [fa_le] at q; omega), if_pos (decide_eq_true q)]
    · rw [if_pos (fa_of_nle q), if_neg (by simp [q])]
  unfold fX7_compare
  rw [p0, p1, p2, p3, p4, p5]
  simp only [jn, Option.bind_some]
  by_cases k0 : rows (6 * i) = 0
  · simp only [if_pos k0]
    rcases hG with ⟨-, ⟨cc, hcc, ec⟩, ⟨t, ht, et⟩⟩ | q | ⟨q, -⟩
    · have hob : obB L B cam rows c i = aI (((cam (3 * cc) * (fsq L B t).1 + cam (3 * cc + 1) * (sd L B c t).2) + cam (3 * cc + 2) * (fsq L B t).2.1) / (10 : Int32) - rows (6 * i + 2)) := by
        unfold obB
        rw [ec, et, nI_clamp (by omega), nI_clamp (by omega)]
      have hfit : fitB L B cam rows c i = decide (obB L B cam rows c i ≤ rows (6 * i + 4)) := by
        unfold fitB
        rw [if_pos k0]
      have e9 : nI cc * (189 : Int32) + nI c = nI (189 * cc + c) := by rw [show (189 : Int32) = nI 189 from rfl, pk_mul, nI_add, Nat.mul_comm]
      rw [if_neg (show ¬ (1 : Int32) = 0 by decide), ec, et, seen_c N cc t hcc ht, (hxs t ht).1, (hxs t ht).2, hys k0 t et ht]
      simp only [Option.bind_some, aI_c]
      rw [← hob, e9, hfit]
      unfold fX7_addOff
      rw [if_neg (nI_pos (by omega)), if_neg (show ¬ (756 : Int32) ≤ nI (189 * cc + c) from nI_ge (b := 756) (by omega) (by decide)), if_pos (ixb_nI (by omega) (by decide)), if_pos (ixb_nI (by omega) (by decide)), nI_clamp (show 189 * cc + c < 2 ^ 31 by omega), Option.bind_some, nI_clamp (show cc < 2 ^ 31 by omega)]
      exact fin _ _
    · exact absurd (k0.symm.trans q) (by decide)
    · exact absurd (k0.symm.trans q) (by decide)
  · simp only [if_neg k0]
    rw [if_pos trivial]
    rcases htch k0 with ⟨h1, h2⟩ | ⟨h1, h2, h3, h4, h5⟩
    · rw [if_pos h1, if_pos (show rows (6 * i + 4) < (2000000000 : Int32) by
        rw [fa_lt]
        have : (2000000000 : Int32).toInt = 2000000000 := rfl
        omega)]
      have hfit : fitB L B cam rows c i = false := by
        unfold fitB
        rw [if_neg k0, if_pos h2]
      rw [hfit, if_neg (by decide)]
    · rw [if_neg h1]
      have hfar : fX7_howFar N (nI c) (nI i) tx tys (nI a) rows = some (frB L B rows c i) := by
        unfold fX7_howFar fX2_touchX frB
        rw [p2, p3, kty_c N c hc, h4, h5]
        simp only [Option.bind_some, aI_c]
      by_cases k1 : rows (6 * i) = 1
      · rw [if_neg (fun z => z k1), hfar]
        have hfit : fitB L B cam rows c i = decide (frB L B rows c i ≤ rows (6 * i + 4)) := by
          unfold fitB
          rw [if_neg k0, if_neg h2, if_pos k1]
        rw [hfit, Option.bind_some]
        exact fin _ _
      · rw [if_pos k1]
        rcases hG with ⟨q, -⟩ | q | ⟨q, s, hs1, hs2, es⟩
        · exact absurd q k0
        · exact absurd q k1
        · have hlate : fX7_howLate N (nI c) (nI i) tt tx tys (nI a) rows = some (ltB L B rows c i) := by
            unfold fX7_howLate fX2_touchTick ltB
            rw [p6, hfar, p4, h3, Option.bind_some, Option.bind_some, es, if_pos (show (1 : Int32) ≤ nI s from nI_le (a := 1) hs1 (by omega)), if_pos (nI_ne0 (by omega) (by omega))]
            simp only [Option.bind_some, aI_c]
          have hfit : fitB L B cam rows c i = decide (ltB L B rows c i ≤ rows (6 * i + 4)) := by
            unfold fitB
            rw [if_neg k0, if_neg h2, if_neg k1]
          rw [hlate, hfit, Option.bind_some]
          exact fin _ _
