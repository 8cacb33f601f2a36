/-- out, by a curve -/
noncomputable def ouB (L B : Nat → Int32) (pa : Int32 → Int32) (c : Nat) : Bool := if (fT L B).1 = 0 then false else if (sd L B c (fT L B).1).2 - (fT L B).2 ≤ pa (fsq L B (fT L B).1).1 then false else true
theorem ouB_c {N : Nat} {pa : Int32 → Int32} {L B us ws xs zs : Nat → Int32} {tt tx tl hf : Int32} (hF : FL L B pa tt tx tl hf us ws xs zs) (c : Nat) : fX2_isOutWith N (sd L B c (fT L B).1).2 tt tl hf = some (bI (ouB L B pa c)) := by
  rw [isOut_c hF]
  unfold ouB
  by_cases z : (fT L B).1 = 0
  · rw [if_pos z, if_pos z]; rfl
  · rw [if_neg z, if_neg z]
    by_cases y : (sd L B c (fT L B).1).2 - (fT L B).2 ≤ pa (fsq L B (fT L B).1).1
    · rw [if_pos y, if_pos y]; rfl
    · rw [if_neg y, if_neg y]; rfl
theorem ouB_r {N : Nat} (hN : 1000 < N) {lc w1 wx wd wh items : Int32} {nb lf ly im it : Nat → Int32} (hR : RLw lc w1 wx wd wh items nb lf ly im it) {B us vs ws xs ys zs : Nat → Int32} {c : Nat} {tt th : Int32} (hL : LC nb B c tt th us vs ws xs ys zs) : fX10_isOut N tt th im it xs ys = some (bI (ouB nb B (paG N lc lf ly) c)) := by
  rw [isOut_r hN hR hL]
  unfold ouB
  by_cases z : (fT nb B).1 = 0
  · rw [if_pos z, if_pos z]; rfl
  · rw [if_neg z, if_neg z]
    by_cases y : (sd nb B c (fT nb B).1).2 - (fT nb B).2 ≤ paG N lc lf ly (fsq nb B (fT nb B).1).1
    · rw [if_pos y, if_pos y]; rfl
    · rw [if_neg y, if_neg y]; rfl
theorem ago_c (N a : Nat) (hN : 1000 < N) (ha : a ≤ 30) (fb : Nat → Int32) (p : Nat → Nat → Bool) (q : Nat → Bool) (h : ∀ c, c < 189 → fb c = nI (msk (p c) a)) {pa : Int32 → Int32} {L B us ws xs zs tys : Nat → Int32} {kn sv tt tx tl hf : Int32} (ys : Nat → Int32) (hF : FL L B pa tt tx tl hf us ws xs zs) (hk : kn = 0 ∨ kn = 1) (hK : kn = 1 → ∀ c, c < 189 → tys c = (sd L B c (fT L B).1).2) : ∃ sv' tys' ys', fX7_agreeingOut N (nI (msk q a)) fb kn sv tt tl hf L tys ys B = some (nI (fb_ct (fun c => allB q (p c) a && ouB L B pa c) 189), 1, sv', tys', ys') ∧ ∀ c, c < 189 → tys' c = (sd L B c (fT L B).1).2 := by
  have o2 := fun c => ouB_c (N := N) hF c
  have ht := hF.1
  obtain ⟨ku, k1, k2, k3⟩ := know_c N hN L B (fT L B).1 (fT_le L B) kn sv hk tys ys hK
  unfold fX7_agreeingOut
  rw [show fX2_knowTouchYs N kn sv tt L B tys ys = some ku by rw [ht]; exact k1, Option.bind_some]
  simp only [jn]
  refine loopR (fun m (_ : Unit) i => fX7_agreeingOut_p11 N (nI (msk q a)) fb tt tl hf ku.2.2.1 (fun x2_59 => some (x2_59, ku.1, ku.2.1, ku.2.2.1, ku.2.2.2)) m (nI (fb_ct (fun c => allB q (p c) a && ouB L B pa c) i)) (nI i)) (fun _ _ => True) 189 (fun o => ∃ sv' tys' ys', o = some (nI (fb_ct (fun c => allB q (p c) a && ouB L B pa c) 189), 1, sv', tys', ys') ∧ ∀ c, c < 189 → tys' c = (sd L B c (fT L B).1).2) (fun m _ _ => ?_) (fun m _ i hi _ => ⟨(), trivial, ?_⟩) N 0 () (by decide) (by omega) trivial
  · rw [fX7_agreeingOut_p11, if_pos (show (189 : Int32) ≤ nI 189 by decide), k2]
    exact ⟨_, _, _, rfl, k3⟩
  · rw [fX7_agreeingOut_p11, if_neg (show ¬ (189 : Int32) ≤ nI i from nI_ge (b := 189) hi (by decide)), agr_c N i a hi ha fb (p i) q (h i hi), Option.bind_some, nI_1, fb_ct_succ, kty_c N i hi, k3 i hi]
    simp only [jn, Option.bind_some, o2]
    by_cases c : allB q (p i) a = true
    · rw [if_pos c, if_neg (show ¬ (1 : Int32) = 0 by decide)]
      by_cases d : ouB L B pa i = true
      · rw [bI_t d, if_neg (show ¬ (1 : Int32) = 0 by decide), if_pos (by rw [c, d]; rfl), nI_1]
      · rw [bI_f d, if_pos rfl, if_neg (by rw [c]; simpa using d), Int32.add_zero]
        rfl
    · rw [if_neg c, if_pos rfl, Int32.add_zero, if_neg (by simp [c])]
      rfl
theorem odd_r {N : Nat} (hN : 1000 < N) {lc w1 wx wd wh items flown kn tt tx tl hf known stale am lv : Int32} {nb lf ly im it B bl cam rows xs zs us ws tys fb os sm sg ou : Nat → Int32} {a : Nat} (h : PV N lc w1 wx wd wh items nb lf ly im it B bl cam rows xs zs us ws tys fb os flown kn tt tx tl hf known stale am lv sm sg ou a) (y1 : Int32) (K : Int32 → Int32 → Int32 → Int32 → Int32 → (Nat → Int32) → (Nat → Int32) → (Nat → Int32) → (Nat → Int32) → (Nat → Int32) → (Nat → Int32) → Option (Int32 × Int32 × Int32 × (Nat → Int32) × (Nat → Int32) × (Nat → Int32) × (Nat → Int32) × (Nat → Int32) × (Nat → Int32))) (g o i : Nat → Bool) (e1 : ∀ c, g c = allB (aq rows lv) (fitB nb B cam rows c) a) (e2 : ∀ c, o c = (g c && ouB nb B (paG N lc lf ly) c)) (e3 : ∀ c, i c = (g c && (!decide ((fT nb B).1 = 0) && !ouB nb B (paG N lc lf ly) c))) (rt rh : Int32) (r1 r2 r3 r4 r5 r6 : Nat → Int32) : ∃ t : Int32 × Int32 × (Nat → Int32) × (Nat → Int32) × (Nat → Int32) × (Nat → Int32) × (Nat → Int32) × (Nat → Int32), fX10_odds_p24 N y1 bl cam im it ou sm sg K N 0 0 0 0 rt rh r1 r2 r3 r4 r5 r6 = K (nI (fb_ct g 189)) (nI (fb_ct o 189)) (nI (fb_ct i 189)) t.1 t.2.1 t.2.2.1 t.2.2.2.1 t.2.2.2.2.1 t.2.2.2.2.2.1 t.2.2.2.2.2.2.1 t.2.2.2.2.2.2.2 := by
  refine loopR (fun m (t : Int32 × Int32 × (Nat → Int32) × (Nat → Int32) × (Nat → Int32) × (Nat → Int32) × (Nat → Int32) × (Nat → Int32)) c => fX10_odds_p24 N y1 bl cam im it ou sm sg K m (nI (fb_ct g c)) (nI (fb_ct o c)) (nI (fb_ct i c)) (nI c) t.1 t.2.1 t.2.2.1 t.2.2.2.1 t.2.2.2.2.1 t.2.2.2.2.2.1 t.2.2.2.2.2.2.1 t.2.2.2.2.2.2.2) (fun _ _ => True) 189 (fun z => ∃ t : Int32 × Int32 × (Nat → Int32) × (Nat → Int32) × (Nat → Int32) × (Nat → Int32) × (Nat → Int32) × (Nat → Int32), z = K (nI (fb_ct g 189)) (nI (fb_ct o 189)) (nI (fb_ct i 189)) t.1 t.2.1 t.2.2.1 t.2.2.2.1 t.2.2.2.2.1 t.2.2.2.2.2.1 t.2.2.2.2.2.2.1 t.2.2.2.2.2.2.2) (fun m t _ => ?_) (fun m t c hc _ => ?_) N 0 (rt, rh, r1, r2, r3, r4, r5, r6) (by decide) (by omega) trivial
  · rw [fX10_odds_p24, if_pos (show (189 : Int32) ≤ nI 189 by decide)]
    exact ⟨t, rfl⟩
  · obtain ⟨ru, l1, l2, l3, -⟩ := lays hN h c t.1 t.2.1 t.2.2.1 t.2.2.2.1 t.2.2.2.2.1 t.2.2.2.2.2.1 t.2.2.2.2.2.2.1 t.2.2.2.2.2.2.2
    have oo := ouB_r hN h.1 l2
    refine ⟨ru, trivial, ?_⟩
    rw [fX10_odds_p24, if_neg (show ¬ (189 : Int32) ≤ nI c from nI_ge (b := 189) hc (by decide)), l1, Option.bind_some, sb_cl0, l3, Option.bind_some, nI_1, fb_ct_succ, fb_ct_succ, fb_ct_succ, oo]
    simp only [jn, Option.bind_some]
    rw [← e1 c, e2, e3]
    by_cases d : g c = true
    · rw [if_pos d, if_neg (show ¬ (1 : Int32) = 0 by decide), d, Bool.true_and, Bool.true_and, if_pos rfl, nI_1]
      have hT := fT_le nb B
      by_cases t0 : (fT nb B).1 = 0
      · have ho : ouB nb B (paG N lc lf ly) c = false := by unfold ouB; rw [if_pos t0]
        rw [l2.1, tk_0 t0, ho, t0]
        simp only [bI, decide_true, Bool.not_true, Bool.false_and, if_true, Int32.add_zero, Nat.add_zero, Bool.false_eq_true, if_false]
      · have tn := tk_n t0 (show (fT nb B).1 < 2 ^ 31 by omega)
        rw [l2.1, if_neg tn, decide_eq_false t0]
        cases ho : ouB nb B (paG N lc lf ly) c with
        | true =>
          simp only [bI, Bool.not_false, Bool.not_true, Bool.true_and, if_true, Bool.false_eq_true, if_false, Int32.add_zero, Nat.add_zero, nI_1, show ¬ (1 : Int32) = 0 by decide, not_false_iff, ite_self]
        | false =>
          simp only [bI, Bool.not_false, Bool.not_true, Bool.true_and, if_true, Bool.false_eq_true, if_false, Int32.add_zero, Nat.add_zero, nI_1, not_true]
    · have d' : g c = false := by simpa using d
      rw [if_neg d, if_pos rfl, d']
      simp only [Bool.false_and, Bool.false_eq_true, if_false, Nat.add_zero]
theorem odds_eq (N : Nat) (hN : 1000 < N) (a1 : Int32) {lc w1 wx wd wh items flown kn tt tx tl hf known stale am lv : Int32} {nb lf ly im it B bl cam rows xs zs us ws tys fb os sm sg ou : Nat → Int32} {a : Nat} (h : PV N lc w1 wx wd wh items nb lf ly im it B bl cam rows xs zs us ws tys fb os flown kn tt tx tl hf known stale am lv sm sg ou a) (sv : Int32) (ys : Nat → Int32) (rt rh : Int32) (r1 r2 r3 r4 r5 r6 : Nat → Int32) : ∃ q z, fX9_odds N a1 flown kn sv tt tx tl hf tys us ws xs ys zs lc lf ly nb cam am lv rows B known stale fb os = some q ∧ fX10_odds N a1 rt rh bl cam im it ou sm sg r1 r2 r3 r4 r5 r6 = some z ∧ q.1 = z.1 ∧ VS N lc lf ly nb B cam rows a q.2 := by
  have v0 := vs_old h sv ys
  obtain ⟨ru, g1, g2, -, g4, g5, g6⟩ := learn_vs hN h sv ys
  have ho := fun K => odd_r hN h a1 K (fun c => allB (aq rows lv) (fitB nb B cam rows c) a) (fun c => allB (aq rows lv) (fitB nb B cam rows c) a && ouB nb B (paG N lc lf ly) c) (fun c => allB (aq rows lv) (fitB nb B cam rows c) a && (!decide ((fT nb B).1 = 0) && !ouB nb B (paG N lc lf ly) c)) (fun _ => rfl) (fun _ => rfl) (fun _ => rfl) rt rh r1 r2 r3 r4 r5 r6
  obtain ⟨h1, h2, h3, h4, rfl, h6, h7, h8, h9⟩ := h
  unfold fX9_odds fX10_odds fX8_leftOut
  rw [g1]
  simp only [Option.bind_some, wi_def, in_def N a1 0 2 0 2 rfl rfl]
  by_cases c1 : wi a1 0 2 = 0
  · rw [if_neg (fun z => z c1), if_neg (fun z => z c1)]; exact ⟨_, _, rfl, rfl, rfl, v0⟩
  · rw [if_pos c1, if_pos c1]
    obtain ⟨⟨f1, f2, f3, f4⟩, f5⟩ := g5
    obtain ⟨sv', tys', ys', q1, q2⟩ := ago_c N a hN h6 _ _ (aq rows lv) g2 (sv := ru.2.2.2.2.2.1) ru.2.2.2.2.2.2.2.2.2.2.2.2.2.2.1 g4 f2 (fun z => (f3 z).2)
    have vn : VS N lc lf ly nb B cam rows a (ru.2.2.2.1, 1, sv', ru.2.2.2.2.2.2.1, ru.2.2.2.2.2.2.2.1, ru.2.2.2.2.2.2.2.2.1, ru.2.2.2.2.2.2.2.2.2.1, tys', ru.2.2.2.2.2.2.2.2.2.2.2.1, ru.2.2.2.2.2.2.2.2.2.2.2.2.1, ru.2.2.2.2.2.2.2.2.2.2.2.2.2.1, ys', ru.2.2.2.2.2.2.2.2.2.2.2.2.2.2.2.1, ru.1, ru.2.1, ru.2.2.1, ru.2.2.2.2.2.2.2.2.2.2.2.2.2.2.2.2) := ⟨⟨Or.inr g6, Or.inr rfl, fun _ => ⟨g6, q2⟩, fun _ => g4⟩, f5⟩
    have hT := fT_le nb B
    have ktt := g4.1
    rw [asi_c N a (by omega) h6, Option.bind_some, q1, Option.bind_some, agg_c N a (by omega) h6 _ _ _ g2, Option.bind_some, show fX2_touches N ru.2.2.2.2.2.2.1 = some (if (fT nb B).1 = 0 then 0 else 1) by rw [ktt]; exact touches_c N _ (by omega), Option.bind_some]
    simp only [jn]
    obtain ⟨t, t1⟩ := ho (fun (x2_102 : Int32) (x3_102 : Int32) (x4_102 : Int32) (v0_touchTick_102 : Int32) (v0_touchHalf_102 : Int32) (c8_102 : Nat → Int32) (c9_102 : Nat → Int32) (c10_102 : Nat → Int32) (c11_102 : Nat → Int32) (c12_102 : Nat → Int32) (c13_102 : Nat → Int32) => (if (2 : Int32) ≤ a1 then ((fX10_lawOf N ((5 : Int32)) im it).bind (fun q120 => (if ¬ x2_102 = 0 then (if ((100 : Int32) * x3_102) < (q120 * x2_102) then (if ((100 : Int32) * x4_102) < (q120 * x2_102) then some ((1 : Int32), v0_touchTick_102, v0_touchHalf_102, c8_102, c9_102, c10_102, c11_102, c12_102, c13_102) else some ((0 : Int32), v0_touchTick_102, v0_touchHalf_102, c8_102, c9_102, c10_102, c11_102, c12_102, c13_102)) else some ((2 : Int32), v0_touchTick_102, v0_touchHalf_102, c8_102, c9_102, c10_102, c11_102, c12_102, c13_102)) else some ((-4 : Int32), v0_touchTick_102, v0_touchHalf_102, c8_102, c9_102, c10_102, c11_102, c12_102, c13_102)))) else (if ¬ a1 = 0 then some (x4_102, v0_touchTick_102, v0_touchHalf_102, c8_102, c9_102, c10_102, c11_102, c12_102, c13_102) else some (x3_102, v0_touchTick_102, v0_touchHalf_102, c8_102, c9_102, c10_102, c11_102, c12_102, c13_102))))
    rw [t1, show fX10_lawOf N (5 : Int32) im it = some (nb 5) from rl_law (by omega) h1 5 (by decide), show fX5_number N (5 : Int32) nb = some (nb 5) from num_c N 5 (by decide) nb]
    have hsub : fb_ct (fun c => allB (aq rows lv) (fitB nb B cam rows c) a && ouB nb B (paG N lc lf ly) c) 189 ≤ fb_ct (fun c => allB (aq rows lv) (fitB nb B cam rows c) a) 189 := fb_ct_sub (fun k _ hk => (Bool.and_eq_true _ _ ▸ hk).1)
    have hsum : ¬ (fT nb B).1 = 0 → fb_ct (fun c => allB (aq rows lv) (fitB nb B cam rows c) a) 189 = fb_ct (fun c => allB (aq rows lv) (fitB nb B cam rows c) a && ouB nb B (paG N lc lf ly) c) 189 + fb_ct (fun c => allB (aq rows lv) (fitB nb B cam rows c) a && (!decide ((fT nb B).1 = 0) && !ouB nb B (paG N lc lf ly) c)) 189 := fun t0 => by
      rw [← fb_ct_or (fun k _ hk => by
        have k1 := (Bool.and_eq_true _ _ ▸ hk.1).2
        have k2 := (Bool.and_eq_true _ _ ▸ hk.2).2
        rw [k1] at k2
        simp at k2)]
      refine fb_ct_cong (fun k _ => ?_)
      rw [decide_eq_false t0]
      cases allB (aq rows lv) (fitB nb B cam rows k) a <;> cases ouB nb B (paG N lc lf ly) k <;> rfl
    have hzero : (fT nb B).1 = 0 → fb_ct (fun c => allB (aq rows lv) (fitB nb B cam rows c) a && (!decide ((fT nb B).1 = 0) && !ouB nb B (paG N lc lf ly) c)) 189 = 0 := fun t0 => by
      rw [fb_ct_zero]
      intro k _
      rw [decide_eq_true t0]
      simp
    have hle := fb_ct_le (fun c => allB (aq rows lv) (fitB nb B cam rows c) a) 189
    generalize fb_ct (fun c => allB (aq rows lv) (fitB nb B cam rows c) a && (!decide ((fT nb B).1 = 0) && !ouB nb B (paG N lc lf ly) c)) 189 = I at *
    generalize fb_ct (fun c => allB (aq rows lv) (fitB nb B cam rows c) a && ouB nb B (paG N lc lf ly) c) 189 = O at *
    generalize fb_ct (fun c => allB (aq rows lv) (fitB nb B cam rows c) a) 189 = A at *
    have hin : ∀ (X : Int32 → Option (Int32 × Int32 × Int32 × Int32 × Int32 × Int32 × Int32 × Int32 × (Nat → Int32) × (Nat → Int32) × (Nat → Int32) × (Nat → Int32) × (Nat → Int32) × (Nat → Int32) × Int32 × Int32 × (Nat → Int32) × (Nat → Int32))), (if (if (fT nb B).1 = 0 then (0 : Int32) else 1) = 0 then X 0 else X (nI A - nI O)) = X (nI I) := fun X => by
      by_cases t0 : (fT nb B).1 = 0
      · rw [if_pos t0, if_pos rfl, hzero t0]; rfl
      · rw [if_neg t0, if_neg (by decide), pk_sub hsub, show A - O = I by have := hsum t0; omega]
    unfold fX9_calledBy
    simp only [Option.bind_some]
    have fin : ∀ (z : Int32) (X : Option (Int32 × Int32 × Int32 × Int32 × Int32 × Int32 × Int32 × Int32 × (Nat → Int32) × (Nat → Int32) × (Nat → Int32) × (Nat → Int32) × (Nat → Int32) × (Nat → Int32) × Int32 × Int32 × (Nat → Int32) × (Nat → Int32))) (Y : Option (Int32 × Int32 × Int32 × (Nat → Int32) × (Nat → Int32) × (Nat → Int32) × (Nat → Int32) × (Nat → Int32) × (Nat → Int32))), X = some (z, ru.2.2.2.1, 1, sv', ru.2.2.2.2.2.2.1, ru.2.2.2.2.2.2.2.1, ru.2.2.2.2.2.2.2.2.1, ru.2.2.2.2.2.2.2.2.2.1, tys', ru.2.2.2.2.2.2.2.2.2.2.2.1, ru.2.2.2.2.2.2.2.2.2.2.2.2.1, ru.2.2.2.2.2.2.2.2.2.2.2.2.2.1, ys', ru.2.2.2.2.2.2.2.2.2.2.2.2.2.2.2.1, ru.1, ru.2.1, ru.2.2.1, ru.2.2.2.2.2.2.2.2.2.2.2.2.2.2.2.2) → Y = some (z, t.1, t.2.1, t.2.2.1, t.2.2.2.1, t.2.2.2.2.1, t.2.2.2.2.2.1, t.2.2.2.2.2.2.1, t.2.2.2.2.2.2.2) → ∃ q z, X = some q ∧ Y = some z ∧ q.1 = z.1 ∧ VS N lc lf ly nb B cam rows a q.2 := fun z X Y e1 e2 => ⟨_, _, e1, e2, rfl, vn⟩
    have fin2 : ∀ (X : Int32 → Option (Int32 × Int32 × Int32 × Int32 × Int32 × Int32 × Int32 × Int32 × (Nat → Int32) × (Nat → Int32) × (Nat → Int32) × (Nat → Int32) × (Nat → Int32) × (Nat → Int32) × Int32 × Int32 × (Nat → Int32) × (Nat → Int32))) (Y : Option (Int32 × Int32 × Int32 × (Nat → Int32) × (Nat → Int32) × (Nat → Int32) × (Nat → Int32) × (Nat → Int32) × (Nat → Int32))), (∃ q z, X (nI I) = some q ∧ Y = some z ∧ q.1 = z.1 ∧ VS N lc lf ly nb B cam rows a q.2) → ∃ q z, (if (if (fT nb B).1 = 0 then (0 : Int32) else 1) = 0 then X 0 else X (nI A - nI O)) = some q ∧ Y = some z ∧ q.1 = z.1 ∧ VS N lc lf ly nb B cam rows a q.2 := fun X Y e => by rw [hin X]; exact e
    refine fin2 (fun z0_70 => (if (2 : Int32) ≤ a1 then (if ¬ nI A = 0 then (if ((100 : Int32) * nI O) < (nb 5 * nI A) then (if ((100 : Int32) * z0_70) < (nb 5 * nI A) then some ((1 : Int32)) else some ((0 : Int32))) else some ((2 : Int32))).bind (fun q112 => some (q112, ru.2.2.2.1, 1, sv', ru.2.2.2.2.2.2.1, ru.2.2.2.2.2.2.2.1, ru.2.2.2.2.2.2.2.2.1, ru.2.2.2.2.2.2.2.2.2.1, tys', ru.2.2.2.2.2.2.2.2.2.2.2.1, ru.2.2.2.2.2.2.2.2.2.2.2.2.1, ru.2.2.2.2.2.2.2.2.2.2.2.2.2.1, ys', ru.2.2.2.2.2.2.2.2.2.2.2.2.2.2.2.1, ru.1, ru.2.1, ru.2.2.1, ru.2.2.2.2.2.2.2.2.2.2.2.2.2.2.2.2)) else some ((-4 : Int32), ru.2.2.2.1, 1, sv', ru.2.2.2.2.2.2.1, ru.2.2.2.2.2.2.2.1, ru.2.2.2.2.2.2.2.2.1, ru.2.2.2.2.2.2.2.2.2.1, tys', ru.2.2.2.2.2.2.2.2.2.2.2.1, ru.2.2.2.2.2.2.2.2.2.2.2.2.1, ru.2.2.2.2.2.2.2.2.2.2.2.2.2.1, ys', ru.2.2.2.2.2.2.2.2.2.2.2.2.2.2.2.1, ru.1, ru.2.1, ru.2.2.1, ru.2.2.2.2.2.2.2.2.2.2.2.2.2.2.2.2)) else (if ¬ a1 = 0 then some (z0_70, ru.2.2.2.1, 1, sv', ru.2.2.2.2.2.2.1, ru.2.2.2.2.2.2.2.1, ru.2.2.2.2.2.2.2.2.1, ru.2.2.2.2.2.2.2.2.2.1, tys', ru.2.2.2.2.2.2.2.2.2.2.2.1, ru.2.2.2.2.2.2.2.2.2.2.2.2.1, ru.2.2.2.2.2.2.2.2.2.2.2.2.2.1, ys', ru.2.2.2.2.2.2.2.2.2.2.2.2.2.2.2.1, ru.1, ru.2.1, ru.2.2.1, ru.2.2.2.2.2.2.2.2.2.2.2.2.2.2.2.2) else some (nI O, ru.2.2.2.1, 1, sv', ru.2.2.2.2.2.2.1, ru.2.2.2.2.2.2.2.1, ru.2.2.2.2.2.2.2.2.1, ru.2.2.2.2.2.2.2.2.2.1, tys', ru.2.2.2.2.2.2.2.2.2.2.2.1, ru.2.2.2.2.2.2.2.2.2.2.2.2.1, ru.2.2.2.2.2.2.2.2.2.2.2.2.2.1, ys', ru.2.2.2.2.2.2.2.2.2.2.2.2.2.2.2.1, ru.1, ru.2.1, ru.2.2.1, ru.2.2.2.2.2.2.2.2.2.2.2.2.2.2.2.2)))) _ ?_
    by_cases d1 : (2 : Int32) ≤ a1
    · simp only [if_pos d1]
      by_cases d2 : nI A = 0
      · simp only [d2, not_true, if_false]
        exact fin _ _ _ rfl rfl
      · simp only [d2, not_false_iff, if_true]
        by_cases d3 : ((100 : Int32) * nI O) < (nb 5 * nI A)
        · simp only [if_pos d3]
          by_cases d4 : ((100 : Int32) * nI I) < (nb 5 * nI A)
          · simp only [if_pos d4]
            exact fin _ _ _ rfl rfl
          · simp only [if_neg d4]
            exact fin _ _ _ rfl rfl
        · simp only [if_neg d3]
          exact fin _ _ _ rfl rfl
    · simp only [if_neg d1]
      by_cases d2 : a1 = 0
      · simp only [d2, not_true, if_false]
        exact fin _ _ _ rfl rfl
      · simp only [d2, not_false_iff, if_true]
        exact fin _ _ _ rfl rfl
