/-! which sights are asked, and who fits them -/
def aq (rows : Nat → Int32) (lv : Int32) (i : Nat) : Bool := if rows (6 * i) = 0 then decide (((lv >>> (rows (6 * i + 1) &&& 31)) &&& (1 : Int32)) = 0) else true
def bq (rows : Nat → Int32) (lv : Int32) (i : Nat) : Bool := if rows (6 * i) = 0 then decide (((lv >>> (rows (6 * i + 1) &&& 31)) &&& (1 : Int32)) = 0) else false
def allB (q p : Nat → Bool) : Nat → Bool
  | 0 => true
  | m + 1 => allB q p m && (!q m || p m)
theorem allB_iff (q p : Nat → Bool) : ∀ m, allB q p m = true ↔ ∀ i, i < m → q i = true → p i = true
  | 0 => ⟨fun _ i h => absurd h (Nat.not_lt_zero i), fun _ => rfl⟩
  | m + 1 => by
    rw [allB, Bool.and_eq_true, allB_iff q p m]
    constructor
    · rintro ⟨h1, h2⟩ i hi hq
      by_cases e : i = m
      · subst e; simpa [hq] using h2
      · exact h1 i (by omega) hq
    · intro h
      refine ⟨fun i hi => h i (by omega), ?_⟩
      by_cases c : q m = true
      · simp [h m (Nat.lt_succ_self m) c]
      · simp [c]
theorem allB_cong {q p q2 p2 : Nat → Bool} : ∀ {m : Nat}, (∀ i, i < m → q i = q2 i ∧ p i = p2 i) → allB q p m = allB q2 p2 m
  | 0, _ => rfl
  | m + 1, h => by
    rw [allB, allB, allB_cong (m := m) (fun i hi => h i (by omega)), (h m (Nat.lt_succ_self m)).1, (h m (Nat.lt_succ_self m)).2]
theorem allB_no {q p : Nat → Bool} {i : Nat} (h : allB q p i = false) : ∀ {m : Nat}, i ≤ m → allB q p m = false := fun {m} hm => by
  cases e : allB q p m with
  | false => rfl
  | true =>
    have := (allB_iff q p m).mp e
    rw [(allB_iff q p i).mpr (fun j hj => this j (by omega))] at h
    exact absurd h (by decide)
theorem msk_and (p q : Nat → Bool) (a : Nat) : msk p a &&& msk q a = msk q a ↔ allB q p a = true := by
  rw [allB_iff]
  constructor
  · intro h i hi hq
    have e := congrArg (fun z => z.testBit i) h
    simp only [Nat.testBit_and, msk_bit, hi, decide_true, Bool.true_and, hq, Bool.and_true] at e
    exact e
  · intro h
    apply Nat.eq_of_testBit_eq
    intro i
    rw [Nat.testBit_and, msk_bit, msk_bit]
    by_cases c : i < a
    · cases e : q i with
      | false => simp
      | true => simp [h i c e]
    · simp [c]
theorem agr_c (N c a : Nat) (hc : c < 189) (ha : a ≤ 30) (fb : Nat → Int32) (p q : Nat → Bool) (h : fb c = nI (msk p a)) : fX7_agrees N (nI c) (nI (msk q a)) fb = some (if allB q p a = true then 1 else 0) := by
  have l1 : msk p a < 2 ^ 31 := Nat.lt_of_lt_of_le (msk_lt p a) (Nat.pow_le_pow_right (by decide) (by omega))
  have l2 : msk q a < 2 ^ 31 := Nat.lt_of_lt_of_le (msk_lt q a) (Nat.pow_le_pow_right (by decide) (by omega))
  unfold fX7_agrees
  rw [if_neg (nI_pos (by omega)), if_neg (show ¬ (189 : Int32) ≤ nI c from nI_ge (b := 189) hc (by decide)), if_pos (ixb_nI hc (by decide)), nI_clamp (by omega), h, fa_and]
  have l3 : msk p a &&& msk q a < 2 ^ 31 := Nat.lt_of_le_of_lt Nat.and_le_right l2
  by_cases e : allB q p a = true
  · rw [if_pos e, if_neg (fun z => z (by rw [(msk_and p q a).mpr e]))]
  · rw [if_neg e, if_pos (fun z => e ((msk_and p q a).mp ((nI_eq l3 l2).mp z)))]
theorem msk_or1 (p : Nat → Bool) (i : Nat) : nI (msk p i) ||| nI (if p i then 2 ^ i else 0) = nI (msk p (i + 1)) := fa_or _ _
theorem abl_c (N a : Nat) (hN : 100 < N) (ha : a ≤ 30) (rows : Nat → Int32) (lv : Int32) : fX8_askedBlurs N lv (nI a) rows = some (nI (msk (bq rows lv) a)) := by
  unfold fX8_askedBlurs
  simp only [jn]
  refine loopR (fun m (_ : Unit) i => fX8_askedBlurs_p4 N lv (nI a) rows (fun x => some x) m (nI (msk (bq rows lv) i)) (nI i)) (fun _ _ => True) a (fun o => o = some (nI (msk (bq rows lv) a))) (fun m _ _ => ?_) (fun m _ i hi _ => ⟨(), trivial, ?_⟩) N 0 () (Nat.zero_le a) (by omega) trivial
  · rw [fX8_askedBlurs_p4, if_pos (nI_le (Nat.le_refl a) (by omega))]
  · obtain ⟨p0, -, p2, -⟩ := srow_c N i a hi ha rows
    rw [fX8_askedBlurs_p4, if_neg (nI_ge hi (by omega)), p0, p2, Option.bind_some, shl_1 i (by omega), nI_1]
    simp only [jn, Option.bind_some]
    rw [← msk_or1]
    by_cases c : rows (6 * i) = 0
    · rw [if_pos c, if_neg (show ¬ (1 : Int32) = 0 by decide)]
      by_cases d : ((lv >>> (rows (6 * i + 1) &&& 31)) &&& (1 : Int32)) = 0
      · have e : bq rows lv i = true := by unfold bq; rw [if_pos c]; exact decide_eq_true d
        rw [if_neg (fun z => z d), if_pos e]
      · have e : ¬ bq rows lv i = true := by unfold bq; rw [if_pos c]; simp [d]
        rw [if_pos d, if_neg e, fa_or, Nat.or_zero]
    · have e : ¬ bq rows lv i = true := by unfold bq; rw [if_neg c]; decide
      rw [if_neg c, if_pos rfl, if_neg e, fa_or, Nat.or_zero]
theorem asi_c (N a : Nat) (hN : 100 < N) (ha : a ≤ 30) (rows : Nat → Int32) (lv : Int32) : fX8_askedSights N lv (nI a) rows = some (nI (msk (aq rows lv) a)) := by
  unfold fX8_askedSights
  rw [abl_c N a hN ha, Option.bind_some]
  simp only [jn]
  have fin : msk (bq rows lv) a ||| msk (fun i => decide (¬ rows (6 * i) = 0)) a = msk (aq rows lv) a := by
    apply Nat.eq_of_testBit_eq
    intro i
    rw [Nat.testBit_or, msk_bit, msk_bit, msk_bit]
    unfold aq bq
    by_cases c : rows (6 * i) = 0
    · simp [c]
    · simp [c]
  have e00 : msk (bq rows lv) a = msk (bq rows lv) a ||| msk (fun i => decide (¬ rows (6 * i) = 0)) 0 := (Nat.or_zero _).symm
  rw [e00]
  refine loopR (fun m (_ : Unit) i => fX8_askedSights_p8 N (nI a) rows (fun x => some x) m (nI (msk (bq rows lv) a ||| msk (fun i => decide (¬ rows (6 * i) = 0)) i)) (nI i)) (fun _ _ => True) a (fun o => o = some (nI (msk (aq rows lv) a))) (fun m _ _ => ?_) (fun m _ i hi _ => ⟨(), trivial, ?_⟩) N 0 () (Nat.zero_le a) (by omega) trivial
  · rw [fX8_askedSights_p8, if_pos (nI_le (Nat.le_refl a) (by omega)), fin]
  · rw [fX8_askedSights_p8, if_neg (nI_ge hi (by omega)), (srow_c N i a hi ha rows).1, Option.bind_some, shl_1 i (by omega), nI_1]
    simp only [jn]
    rw [msk]
    by_cases c : rows (6 * i) = 0
    · rw [if_pos c, if_pos (show ¬ (1 : Int32) = 0 by decide), if_neg (by simp [c]), Nat.or_zero]
    · rw [if_neg c, if_neg (fun z => z rfl), if_pos (by simp [c]), fa_or, Nat.or_assoc]
theorem agg_c (N a : Nat) (hN : 300 < N) (ha : a ≤ 30) (fb : Nat → Int32) (p : Nat → Nat → Bool) (q : Nat → Bool) (h : ∀ c, c < 189 → fb c = nI (msk (p c) a)) : fX7_agreeing N (nI (msk q a)) fb = some (nI (fb_ct (fun c => allB q (p c) a) 189)) := by
  unfold fX7_agreeing
  simp only [jn]
  refine loopR (fun m (_ : Unit) i => fX7_agreeing_p4 N (nI (msk q a)) fb (fun x => some x) m (nI (fb_ct (fun c => allB q (p c) a) i)) (nI i)) (fun _ _ => True) 189 (fun o => o = some (nI (fb_ct (fun c => allB q (p c) a) 189))) (fun m _ _ => ?_) (fun m _ i hi _ => ⟨(), trivial, ?_⟩) N 0 () (by decide) (by omega) trivial
  · rw [fX7_agreeing_p4, if_pos (show (189 : Int32) ≤ nI 189 by decide)]
  · rw [fX7_agreeing_p4, if_neg (show ¬ (189 : Int32) ≤ nI i from nI_ge (b := 189) hi (by decide)), agr_c N i a hi ha fb (p i) q (h i hi), Option.bind_some, nI_1, fb_ct_succ]
    simp only [jn]
    by_cases c : allB q (p i) a = true
    · rw [if_pos c, if_neg (show ¬ (1 : Int32) = 0 by decide), if_pos c, nI_1]
    · simp only [if_neg c, if_true, Int32.add_zero, Nat.add_zero]
/-- the curve before which so many are good -/
def pat (g : Nat → Bool) (y : Int32) : Nat → Nat → Nat → Int32
  | 0, _, _ => -4
  | k + 1, c, b => if g c = true then (if nI b = y then nI c else pat g y k (c + 1) (b + 1)) else pat g y k (c + 1) b
theorem agt_c (N a : Nat) (hN : 300 < N) (ha : a ≤ 30) (fb : Nat → Int32) (p : Nat → Nat → Bool) (q : Nat → Bool) (y : Int32) (h : ∀ c, c < 189 → fb c = nI (msk (p c) a)) : fX7_agreeingAt N (nI (msk q a)) y fb = some (pat (fun c => allB q (p c) a) y 189 0 0) := by
  unfold fX7_agreeingAt
  have key : ∀ (k c b n : Nat), c + k = 189 → k < n → fX7_agreeingAt_p5 N (nI (msk q a)) y fb n (nI b) (nI c) = some (pat (fun c => allB q (p c) a) y k c b) := by
    intro k
    induction k with
    | zero =>
      intro c b n h1 h2
      obtain ⟨n, rfl⟩ : ∃ z, n = z + 1 := ⟨n - 1, by omega⟩
      have e : c = 189 := by omega
      subst e
      rw [fX7_agreeingAt_p5, if_pos (show (189 : Int32) ≤ nI 189 by decide)]
      rfl
    | succ k ih =>
      intro c b n h1 h2
      obtain ⟨n, rfl⟩ : ∃ z, n = z + 1 := ⟨n - 1, by omega⟩
      rw [fX7_agreeingAt_p5, if_neg (show ¬ (189 : Int32) ≤ nI c from nI_ge (b := 189) (by omega) (by decide)), agr_c N c a (by omega) ha fb (p c) q (h c (by omega)), Option.bind_some, nI_1, nI_1, pat]
      simp only [jn]
      by_cases d : allB q (p c) a = true
      · rw [if_pos d, if_neg (show ¬ (1 : Int32) = 0 by decide), if_pos d]
        by_cases e : nI b = y
        · rw [if_neg (fun z => z e), if_pos e]
        · rw [if_pos e, if_neg e]
          exact ih (c + 1) (b + 1) n (by omega) (by omega)
      · rw [if_neg d, if_pos rfl, if_neg d]
        exact ih (c + 1) b n (by omega) (by omega)
  exact key 189 0 0 N (by decide) (by omega)
/-! the reference -/
theorem sg_ix (i w : Nat) : (6 : Int32) * nI i + nI w = nI (6 * i + w) := by rw [show (6 : Int32) * nI i = nI (6 * i) from pk_mul 6 i, nI_add]
theorem isA_r (N i : Nat) (hi : i < 30) {rows sg : Nat → Int32} (hS : SRw rows sg (6 * i) (6 * i)) (lv : Int32) : fX10_isAsked N (nI i) lv sg = some (if aq rows lv i = true then 1 else 0) := by
  obtain ⟨-, -, hS⟩ := hS
  have e0 : (6 : Int32) * nI i = nI (6 * i) := pk_mul 6 i
  have e1 : nI (6 * i) + (1 : Int32) = nI (6 * i + 1) := nI_add _ 1
  unfold fX10_isAsked aq
  rw [e0, e1, if_pos (ixb_nI (by omega) (by decide))]
  simp only [jn]
  rw [if_pos (ixb_nI (by omega) (by decide)), nI_clamp (by omega), nI_clamp (by omega)]
  rcases hS with ⟨k0, k1, k2, -⟩ | ⟨k0, k1, -⟩ | ⟨k0, k1, -⟩
  · rw [k1, k2, if_neg (fun z => z rfl), if_pos k0]
    by_cases d : ((lv >>> (rows (6 * i + 1) &&& 31)) &&& (1 : Int32)) = 0
    · rw [if_neg (fun z => z d), if_pos (decide_eq_true d)]
    · rw [if_pos d, if_neg (by simp [d])]
  · rw [k1, if_pos (show ¬ (1 : Int32) = 0 by decide), if_neg (show ¬ rows (6 * i) = 0 by rw [k0]; decide), if_pos rfl]
  · rw [k1, if_pos (show ¬ (2 : Int32) = 0 by decide), if_neg (show ¬ rows (6 * i) = 0 by rw [k0]; decide), if_pos rfl]
theorem off_r (N i c : Nat) (hi : i < 30) {L B cam rows sg us vs ws xs ys zs : Nat → Int32} {tt th : Int32} (hS : SRw rows sg (6 * i) (6 * i)) (h0 : rows (6 * i) = 0) (hL : LC L B c tt th us vs ws xs ys zs) : fX10_offOf N (nI i) cam sg xs ys zs = some (obB L B cam rows c i) := by
  obtain ⟨-, -, hS⟩ := hS
  obtain ⟨-, -, hL⟩ := hL
  rcases hS with ⟨-, -, k1, k2, k3, ⟨cc, hcc, ec⟩, ⟨t, ht, et⟩⟩ | ⟨z, -⟩ | ⟨z, -⟩
  · have e0 : (6 : Int32) * nI i = nI (6 * i) := pk_mul 6 i
    have e1 : nI (6 * i) + (1 : Int32) = nI (6 * i + 1) := nI_add _ 1
    have e2 : nI (6 * i) + (2 : Int32) = nI (6 * i + 2) := nI_add _ 2
    have e3 : nI (6 * i) + (3 : Int32) = nI (6 * i + 3) := nI_add _ 3
    have c0 : (3 : Int32) * nI cc = nI (3 * cc) := pk_mul 3 cc
    have c1 : nI (3 * cc) + (1 : Int32) = nI (3 * cc + 1) := nI_add _ 1
    have c2 : nI (3 * cc) + (2 : Int32) = nI (3 * cc + 2) := nI_add _ 2
    obtain ⟨x1, x2, -, -, -, x3⟩ := hL t ht
    unfold fX10_offOf
    rw [e0, e1, e2, e3, nI_clamp (show 6 * i + 1 < 2 ^ 31 by omega), nI_clamp (show 6 * i + 2 < 2 ^ 31 by omega), nI_clamp (show 6 * i + 3 < 2 ^ 31 by omega), k1, k2, k3, ec, et, c0, c1, c2]
    simp only [ixb_nI (show 6 * i + 1 < 540 by omega) (by decide), ixb_nI (show 6 * i + 2 < 540 by omega) (by decide), ixb_nI (show 6 * i + 3 < 540 by omega) (by decide), ixb_nI (show 3 * cc < 12 by omega) (by decide), ixb_nI (show 3 * cc + 1 < 12 by omega) (by decide), ixb_nI (show 3 * cc + 2 < 12 by omega) (by decide), ixb_nI (show t < 601 by omega) (by decide), if_true, off_d, Option.bind_some, nI_clamp (show 3 * cc < 2 ^ 31 by omega), nI_clamp (show 3 * cc + 1 < 2 ^ 31 by omega), nI_clamp (show 3 * cc + 2 < 2 ^ 31 by omega), nI_clamp (show t < 2 ^ 31 by omega), x1, x2, x3]
    unfold obB
    rw [ec, et, nI_clamp (by omega), nI_clamp (by omega)]
    rfl
  · exact absurd (h0.symm.trans z) (by decide)
  · exact absurd (h0.symm.trans z) (by decide)
theorem le_lt (x y : Int32) : x ≤ y ↔ ¬ y < x := by rw [fa_le, fa_lt]; omega
theorem fin_r (x y : Int32) (r : Bool) (h : r = decide (x ≤ y)) : (if y < x then some (0 : Int32) else some 1) = some (if r = true then 1 else 0) := by
  by_cases c : y < x
  · rw [if_pos c, if_neg (by rw [h]; simp [le_lt, c])]
  · rw [if_neg c, if_pos (by rw [h]; simp [le_lt, c])]
theorem now_r (N i c : Nat) (hi : i < 30) {L B cam rows sg us vs ws xs ys zs : Nat → Int32} {tt th : Int32} (hS : SRw rows sg (6 * i) (6 * i)) (hL : LC L B c tt th us vs ws xs ys zs) : fX10_fitsNow N (nI i) tt cam sg xs ys zs = some (if fitB L B cam rows c i = true then 1 else 0) := by
  have hoff := fun h0 => off_r N i c hi (cam := cam) hS h0 hL
  obtain ⟨q0, q1, hS⟩ := hS
  obtain ⟨k1, k2, hL⟩ := hL
  have hT := fT_le L B
  have e0 : (6 : Int32) * nI i = nI (6 * i) := pk_mul 6 i
  have e1 : nI (6 * i) + (1 : Int32) = nI (6 * i + 1) := nI_add _ 1
  have e2 : nI (6 * i) + (2 : Int32) = nI (6 * i + 2) := nI_add _ 2
  have e3 : nI (6 * i) + (3 : Int32) = nI (6 * i + 3) := nI_add _ 3
  have e4 : nI (6 * i) + (4 : Int32) = nI (6 * i + 4) := nI_add _ 4
  have e5 : nI (6 * i) + (5 : Int32) = nI (6 * i + 5) := nI_add _ 5
  unfold fX10_fitsNow
  rw [e0, e1, e2, e3, e4, e5]
  simp only [ixb_nI (show 6 * i < 540 by omega) (by decide), ixb_nI (show 6 * i + 1 < 540 by omega) (by decide), ixb_nI (show 6 * i + 2 < 540 by omega) (by decide), ixb_nI (show 6 * i + 3 < 540 by omega) (by decide), ixb_nI (show 6 * i + 4 < 540 by omega) (by decide), ixb_nI (show 6 * i + 5 < 540 by omega) (by decide), if_true, nI_clamp (show 6 * i < 2 ^ 31 by omega), nI_clamp (show 6 * i + 1 < 2 ^ 31 by omega), nI_clamp (show 6 * i + 2 < 2 ^ 31 by omega), nI_clamp (show 6 * i + 3 < 2 ^ 31 by omega), nI_clamp (show 6 * i + 4 < 2 ^ 31 by omega), nI_clamp (show 6 * i + 5 < 2 ^ 31 by omega), q0, k1]
  by_cases h0 : rows (6 * i) = 0
  · have g0 : sg (6 * i) = 0 := by
      rcases hS with ⟨-, z, -⟩ | ⟨z, -⟩ | ⟨z, -⟩
      · exact z
      · exact absurd (h0.symm.trans z) (by decide)
      · exact absurd (h0.symm.trans z) (by decide)
    rw [g0, if_neg (fun z => z rfl), hoff h0, Option.bind_some]
    exact fin_r _ _ _ (by unfold fitB; rw [if_pos h0])
  · obtain ⟨g0, ga, gb⟩ : ¬ sg (6 * i) = 0 ∧ sg (6 * i + 1) = rows (6 * i + 1) ∧ sg (6 * i + 2) = rows (6 * i + 2) := by
      rcases hS with ⟨z, -⟩ | ⟨-, z, z1, z2⟩ | ⟨-, z, z1, z2, -⟩
      · exact absurd z h0
      · exact ⟨by rw [z]; decide, z1, z2⟩
      · exact ⟨by rw [z]; decide, z1, z2⟩
    rw [if_pos g0]
    by_cases t0 : (fT L B).1 = 0
    · rw [tk_0 t0, if_neg (fun z => z rfl)]
      have : fitB L B cam rows c i = false := by unfold fitB; rw [if_neg h0, if_pos t0]
      rw [this]
      rfl
    · obtain ⟨x1, -, -, -, -, x3⟩ := hL _ hT
      rw [if_pos (tk_n t0 (by omega)), tk_p t0]
      simp only [ixb_nI (show (fT L B).1 < 601 by omega) (by decide), if_true, nI_clamp (show (fT L B).1 < 2 ^ 31 by omega), off_d, Option.bind_some, jn, ga, gb, x1, x3]
      have efr : ∀ (X : Int32 → Option Int32), (if (if 0 ≤ (fsq L B (fT L B).1).1 - rows (6 * i + 1) then (fsq L B (fT L B).1).1 - rows (6 * i + 1) else -((fsq L B (fT L B).1).1 - rows (6 * i + 1))) ≤ (if 0 ≤ (sd L B c (fT L B).1).2 - rows (6 * i + 2) then (sd L B c (fT L B).1).2 - rows (6 * i + 2) else -((sd L B c (fT L B).1).2 - rows (6 * i + 2))) then X (if 0 ≤ (sd L B c (fT L B).1).2 - rows (6 * i + 2) then (sd L B c (fT L B).1).2 - rows (6 * i + 2) else -((sd L B c (fT L B).1).2 - rows (6 * i + 2))) else X (if 0 ≤ (fsq L B (fT L B).1).1 - rows (6 * i + 1) then (fsq L B (fT L B).1).1 - rows (6 * i + 1) else -((fsq L B (fT L B).1).1 - rows (6 * i + 1)))) = X (frB L B rows c i) := fun X => by
        show (if aI ((fsq L B (fT L B).1).1 - rows (6 * i + 1)) ≤ aI ((sd L B c (fT L B).1).2 - rows (6 * i + 2)) then X (aI ((sd L B c (fT L B).1).2 - rows (6 * i + 2))) else X (aI ((fsq L B (fT L B).1).1 - rows (6 * i + 1)))) = X (frB L B rows c i)
        unfold frB
        by_cases d : aI ((fsq L B (fT L B).1).1 - rows (6 * i + 1)) < aI ((sd L B c (fT L B).1).2 - rows (6 * i + 2))
        · rw [if_pos d, if_pos (fa_of_lt d).1]
        · rw [if_neg d]
          by_cases d2 : aI ((fsq L B (fT L B).1).1 - rows (6 * i + 1)) ≤ aI ((sd L B c (fT L B).1).2 - rows (6 * i + 2))
          · rw [if_pos d2]
            have : aI ((fsq L B (fT L B).1).1 - rows (6 * i + 1)) = aI ((sd L B c (fT L B).1).2 - rows (6 * i + 2)) := by
              rw [fa_eq]; rw [fa_le] at d2; rw [fa_lt] at d; omega
            rw [this]
          · rw [if_neg d2]
      rw [efr (fun z0_104 => if ¬ sg (6 * i) = 1 then (if ¬ sg (6 * i + 5) = 0 then (if rows (6 * i + 4) < (if 0 ≤ (nI (fT L B).1 + ((z0_104 + sg (6 * i + 5)) - 1) / sg (6 * i + 5)) - sg (6 * i + 3) then (nI (fT L B).1 + ((z0_104 + sg (6 * i + 5)) - 1) / sg (6 * i + 5)) - sg (6 * i + 3) else -((nI (fT L B).1 + ((z0_104 + sg (6 * i + 5)) - 1) / sg (6 * i + 5)) - sg (6 * i + 3))) then some 0 else some 1) else none) else (if rows (6 * i + 4) < z0_104 then some 0 else some 1))]
      rcases hS with ⟨z, -⟩ | ⟨z, z0, -⟩ | ⟨z, z0, -, -, z3, z4, s, s1, s2, es⟩
      · exact absurd z h0
      · rw [z0, if_neg (fun y => y rfl)]
        exact fin_r _ _ _ (by unfold fitB; rw [if_neg h0, if_neg t0, if_pos z])
      · rw [z0, if_pos (show ¬ (2 : Int32) = 1 by decide), z4, z3, if_pos (show ¬ rows (6 * i + 5) = 0 by rw [es]; exact nI_ne0 (by omega) (by omega))]
        exact fin_r _ _ _ (by unfold fitB; rw [if_neg h0, if_neg t0, if_neg (show ¬ rows (6 * i) = 1 by rw [z]; decide)]; rfl)
theorem all_r (N c a : Nat) (hN : 100 < N) (ha : a ≤ 30) {L B cam rows sm sg us vs ws xs ys zs : Nat → Int32} {tt th : Int32} (hm : sm 0 = nI a) (hS : ∀ i, i < a → SRw rows sg (6 * i) (6 * i)) (hL : LC L B c tt th us vs ws xs ys zs) (lv b : Int32) (q : Nat → Bool) (hq : (b = 0 ∧ q = aq rows lv) ∨ (b = 1 ∧ q = bq rows lv)) : fX10_fitsAll N lv b tt cam sm sg xs ys zs = some (if allB q (fitB L B cam rows c) a = true then 1 else 0) := by
  unfold fX10_fitsAll
  simp only [jn]
  have key : ∀ (n i : Nat), i ≤ a → a - i < n → fX10_fitsAll_p5 N lv b tt cam sm sg xs ys zs (fun x3_68 => (if x3_68 = 0 ∨ x3_68 = 1 then some (x3_68) else none)) n (if allB q (fitB L B cam rows c) i = true then 1 else 0) (nI i) = some (if allB q (fitB L B cam rows c) a = true then 1 else 0) := by
    intro n
    induction n with
    | zero => intro i h1 h2; exact absurd h2 (Nat.not_lt_zero _)
    | succ n ih =>
      intro i h1 h2
      rw [fX10_fitsAll_p5, sb_cl0, hm]
      rcases Nat.lt_or_ge i a with z | z
      · rw [if_neg (nI_ge z (by omega))]
        cases e : allB q (fitB L B cam rows c) i with
        | false =>
          rw [allB_no e h1]
          rfl
        | true =>
          have ih' := ih (i + 1) z (by omega)
          rw [allB, e, Bool.true_and] at ih'
          have hSi := hS i z
          rw [if_pos rfl, if_neg (show ¬ (1 : Int32) = 0 by decide), isA_r N i (by omega) hSi, now_r N i c (by omega) hSi hL, Option.bind_some]
          simp only [jn, Option.bind_some]
          rw [nI_1, show (6 : Int32) * nI i = nI (6 * i) from pk_mul 6 i, if_pos (ixb_nI (by omega) (by decide)), nI_clamp (by omega)]
          obtain ⟨-, -, hk⟩ := hSi
          have hkk : sg (6 * i) = 0 ↔ rows (6 * i) = 0 := by
            rcases hk with ⟨y, y1, -⟩ | ⟨y, y1, -⟩ | ⟨y, y1, -⟩
            · rw [y, y1]
            · rw [y, y1]
            · rw [y, y1]
          -- what is asked of it
          have hA : (aq rows lv i = false → q i = false) ∧ (b = 0 → aq rows lv i = true → q i = true) ∧ (b = 1 → aq rows lv i = true → rows (6 * i) = 0 → q i = true) ∧ (b = 1 → ¬ rows (6 * i) = 0 → q i = false) := by
            rcases hq with ⟨rfl, rfl⟩ | ⟨rfl, rfl⟩
            · exact ⟨fun y => y, fun _ y => y, fun y => absurd y (by decide), fun y => absurd y (by decide)⟩
            · refine ⟨fun y => ?_, fun y => absurd y (by decide), fun _ y1 y2 => ?_, fun _ y1 => ?_⟩
              · unfold aq at y; unfold bq
                by_cases d : rows (6 * i) = 0
                · rw [if_pos d] at y ⊢; exact y
                · rw [if_neg d]
              · unfold aq at y1; unfold bq
                rw [if_pos y2] at y1 ⊢; exact y1
              · unfold bq; rw [if_neg y1]
          have good : (!q i || fitB L B cam rows c i) = true → fX10_fitsAll_p5 N lv b tt cam sm sg xs ys zs (fun x3_68 => (if x3_68 = 0 ∨ x3_68 = 1 then some (x3_68) else none)) n 1 (nI (i + 1)) = some (if allB q (fitB L B cam rows c) a = true then 1 else 0) := fun y => by
            rw [if_pos y] at ih'; exact ih'
          have bad : ¬ (!q i || fitB L B cam rows c i) = true → fX10_fitsAll_p5 N lv b tt cam sm sg xs ys zs (fun x3_68 => (if x3_68 = 0 ∨ x3_68 = 1 then some (x3_68) else none)) n 0 (nI (i + 1)) = some (if allB q (fitB L B cam rows c) a = true then 1 else 0) := fun y => by
            rw [if_neg y] at ih'; exact ih'
          cases ea : aq rows lv i with
          | false =>
            rw [if_pos (show (if false = true then (1 : Int32) else 0) = 0 from rfl)]
            exact good (by rw [hA.1 ea]; rfl)
          | true =>
            rw [if_pos rfl, if_neg (show ¬ (1 : Int32) = 0 by decide)]
            have rest : q i = true → (if (if fitB L B cam rows c i = true then (1 : Int32) else 0) = 0 then fX10_fitsAll_p5 N lv b tt cam sm sg xs ys zs (fun x3_68 => (if x3_68 = 0 ∨ x3_68 = 1 then some (x3_68) else none)) n 0 (nI (i + 1)) else fX10_fitsAll_p5 N lv b tt cam sm sg xs ys zs (fun x3_68 => (if x3_68 = 0 ∨ x3_68 = 1 then some (x3_68) else none)) n 1 (nI (i + 1))) = some (if allB q (fitB L B cam rows c) a = true then 1 else 0) := fun hqi => by
              by_cases d : fitB L B cam rows c i = true
              · rw [if_pos d, if_neg (show ¬ (1 : Int32) = 0 by decide)]
                exact good (by rw [d, Bool.or_true])
              · rw [if_neg d, if_pos rfl]
                exact bad (by rw [hqi]; simpa using d)
            rcases hq with ⟨rfl, -⟩ | ⟨rfl, -⟩
            · rw [if_pos rfl]
              exact rest (hA.2.1 rfl ea)
            · rw [if_neg (show ¬ (1 : Int32) = 0 by decide)]
              by_cases d : rows (6 * i) = 0
              · rw [if_neg (fun y => y (hkk.mpr d))]
                exact rest (hA.2.2.1 rfl ea d)
              · rw [if_pos (fun y => d (hkk.mp y))]
                exact good (by rw [hA.2.2.2 rfl d]; rfl)
      · have e : i = a := by omega
        subst e
        rw [if_pos (nI_le (Nat.le_refl i) (by omega))]
        cases allB q (fitB L B cam rows c) i <;> rfl
  exact key N 0 (Nat.zero_le a) (by omega)
