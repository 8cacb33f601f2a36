/-! whose a mark or a sound is; the odds -/
def bI (b : Bool) : Int32 := if b = true then 1 else 0
theorem bI_t {b : Bool} (h : b = true) : bI b = 1 := by rw [h]; rfl
theorem bI_f {b : Bool} (h : ¬ b = true) : bI b = 0 := if_neg h
theorem who_r {N : Nat} (hN : 1000 < N) {lc w1 wx wd wh items flown kn tt tx tl hf known stale am lv : Int32} {nb lf ly im it B bl cam rows xs zs us ws tys fb os sm sg ou : Nat → Int32} {a : Nat} (h : PV N lc w1 wx wd wh items nb lf ly im it B bl cam rows xs zs us ws tys fb os flown kn tt tx tl hf known stale am lv sm sg ou a) (s : Nat) (hs : s < a) (K : Int32 → Int32 → Int32 → Int32 → Int32 → (Nat → Int32) → (Nat → Int32) → (Nat → Int32) → (Nat → Int32) → (Nat → Int32) → (Nat → Int32) → Option (Int32 × Int32 × Int32 × (Nat → Int32) × (Nat → Int32) × (Nat → Int32) × (Nat → Int32) × (Nat → Int32) × (Nat → Int32))) (g1 g2 : Nat → Bool) (e1 : ∀ c, g1 c = allB (bq rows lv) (fitB nb B cam rows c) a) (e2 : ∀ c, g2 c = (g1 c && fitB nb B cam rows c s)) (rt rh : Int32) (r1 r2 r3 r4 r5 r6 : Nat → Int32) : ∃ t : Int32 × Int32 × (Nat → Int32) × (Nat → Int32) × (Nat → Int32) × (Nat → Int32) × (Nat → Int32) × (Nat → Int32), fX10_whose_p42 N (nI s) bl cam im it ou sm sg K N 0 0 1 0 rt rh r1 r2 r3 r4 r5 r6 = K (bI (decide (0 < fb_ct g1 189))) (bI (decide (0 < fb_ct g2 189))) (bI (decide (fb_ct g1 189 = fb_ct g2 189))) t.1 t.2.1 t.2.2.1 t.2.2.2.1 t.2.2.2.2.1 t.2.2.2.2.2.1 t.2.2.2.2.2.2.1 t.2.2.2.2.2.2.2 := by
  have hsub : ∀ c, fb_ct g2 c ≤ fb_ct g1 c := fun c => fb_ct_sub (fun k _ hk => by rw [e2] at hk; exact (Bool.and_eq_true _ _ ▸ hk).1)
  refine loopR (fun m (t : Int32 × Int32 × (Nat → Int32) × (Nat → Int32) × (Nat → Int32) × (Nat → Int32) × (Nat → Int32) × (Nat → Int32)) c => fX10_whose_p42 N (nI s) bl cam im it ou sm sg K m (bI (decide (0 < fb_ct g1 c))) (bI (decide (0 < fb_ct g2 c))) (bI (decide (fb_ct g1 c = fb_ct g2 c))) (nI c) t.1 t.2.1 t.2.2.1 t.2.2.2.1 t.2.2.2.2.1 t.2.2.2.2.2.1 t.2.2.2.2.2.2.1 t.2.2.2.2.2.2.2) (fun _ _ => True) 189 (fun o => ∃ t : Int32 × Int32 × (Nat → Int32) × (Nat → Int32) × (Nat → Int32) × (Nat → Int32) × (Nat → Int32) × (Nat → Int32), o = K (bI (decide (0 < fb_ct g1 189))) (bI (decide (0 < fb_ct g2 189))) (bI (decide (fb_ct g1 189 = fb_ct g2 189))) t.1 t.2.1 t.2.2.1 t.2.2.2.1 t.2.2.2.2.1 t.2.2.2.2.2.1 t.2.2.2.2.2.2.1 t.2.2.2.2.2.2.2) (fun m t _ => ?_) (fun m t c hc _ => ?_) N 0 (rt, rh, r1, r2, r3, r4, r5, r6) (by decide) (by omega) trivial
  · rw [fX10_whose_p42, if_pos (show (189 : Int32) ≤ nI 189 by decide)]
    exact ⟨t, rfl⟩
  · obtain ⟨ru, l1, l2, -, l4⟩ := lays hN h c t.1 t.2.1 t.2.2.1 t.2.2.2.1 t.2.2.2.2.1 t.2.2.2.2.2.1 t.2.2.2.2.2.2.1 t.2.2.2.2.2.2.2
    obtain ⟨-, -, -, -, -, h6, -, -, h9⟩ := h
    have nw := now_r N s c (by omega) (cam := cam) (h9 s hs) l2
    refine ⟨ru, trivial, ?_⟩
    rw [fX10_whose_p42, if_neg (show ¬ (189 : Int32) ≤ nI c from nI_ge (b := 189) hc (by decide)), l1, Option.bind_some, sb_cl0, l4, Option.bind_some, nI_1, fb_ct_succ, fb_ct_succ, nw]
    simp only [jn, Option.bind_some]
    have hs1 := hsub c
    rw [← e1 c]
    by_cases d : g1 c = true
    · rw [if_pos d, if_neg (show ¬ (1 : Int32) = 0 by decide), if_pos d]
      by_cases f : fitB nb B cam rows c s = true
      · have f2 : g2 c = true := by rw [e2, d, f]; rfl
        rw [if_pos f2, bI_t (decide_eq_true (show 0 < fb_ct g1 c + 1 by omega)), bI_t (decide_eq_true (show 0 < fb_ct g2 c + 1 by omega))]
        simp only [if_pos f, show ¬ (1 : Int32) = 0 by decide, if_false]
        by_cases z : fb_ct g1 c = fb_ct g2 c
        · rw [bI_t (decide_eq_true z), bI_t (decide_eq_true (show fb_ct g1 c + 1 = fb_ct g2 c + 1 by omega)), if_neg (show ¬ (1 : Int32) = 0 by decide)]
          by_cases y : ¬ bI (decide (0 < fb_ct g2 c)) = 0
          · rw [if_pos y]
          · rw [if_neg y]
        · rw [bI_f (show ¬ decide (fb_ct g1 c = fb_ct g2 c) = true by simp [z]), bI_f (show ¬ decide (fb_ct g1 c + 1 = fb_ct g2 c + 1) = true by simp; omega), if_pos rfl]
          by_cases y : ¬ bI (decide (0 < fb_ct g2 c)) = 0
          · rw [if_pos y]
          · rw [if_neg y]
      · have f2 : ¬ g2 c = true := by rw [e2, d]; simpa using f
        rw [if_neg f2, Nat.add_zero (fb_ct g2 c), bI_t (decide_eq_true (show 0 < fb_ct g1 c + 1 by omega)), bI_f (show ¬ decide (fb_ct g1 c + 1 = fb_ct g2 c) = true by simp; omega)]
        simp only [if_neg f, if_true]
        by_cases z : 0 < fb_ct g2 c
        · rw [bI_t (decide_eq_true z), if_pos (show ¬ (1 : Int32) = 0 by decide)]
          by_cases y : bI (decide (fb_ct g1 c = fb_ct g2 c)) = 0
          · rw [if_pos y]
          · rw [if_neg y]
        · rw [bI_f (show ¬ decide (0 < fb_ct g2 c) = true by simpa using z), if_neg (fun y => y rfl)]
          by_cases y : bI (decide (fb_ct g1 c = fb_ct g2 c)) = 0
          · rw [if_pos y]
          · rw [if_neg y]
    · have f2 : ¬ g2 c = true := by rw [e2]; simp [d]
      simp only [if_neg d, if_neg f2, if_true, Nat.add_zero]
theorem whose_eq (N : Nat) (hN : 1000 < N) (a1 : Int32) {lc w1 wx wd wh items flown kn tt tx tl hf known stale am lv : Int32} {nb lf ly im it B bl cam rows xs zs us ws tys fb os sm sg ou : Nat → Int32} {a : Nat} (h : PV N lc w1 wx wd wh items nb lf ly im it B bl cam rows xs zs us ws tys fb os flown kn tt tx tl hf known stale am lv sm sg ou a) (sv : Int32) (ys : Nat → Int32) (rt rh : Int32) (r1 r2 r3 r4 r5 r6 : Nat → Int32) : ∃ q z, fX9_whose N a1 flown kn sv tt tx tl hf tys us ws xs ys zs lc lf ly nb cam am lv rows B known stale fb os = some q ∧ fX10_whose N a1 rt rh bl cam im it ou sm sg r1 r2 r3 r4 r5 r6 = some z ∧ q.1 = z.1 ∧ VS N lc lf ly nb B cam rows a q.2 := by
  have v0 := vs_old h sv ys
  obtain ⟨ru, g1, g2, -, -, g5, -⟩ := learn_vs hN h sv ys
  have hw := fun s hs K => who_r hN h s hs K (fun c => allB (bq rows lv) (fitB nb B cam rows c) a) (fun c => allB (bq rows lv) (fitB nb B cam rows c) a && fitB nb B cam rows c s) (fun _ => rfl) (fun _ => rfl) rt rh r1 r2 r3 r4 r5 r6
  obtain ⟨h1, h2, h3, h4, rfl, h6, h7, h8, h9⟩ := h
  unfold fX9_whose fX10_whose fX8_leftOut
  rw [g1, show fX8_sightCount N (nI a) = some (nI a) from rfl, sb_cl0, h7]
  simp only [Option.bind_some, wi_def, in_def N a1 0 (nI a - 1) 0 _ rfl rfl]
  by_cases c1 : wi a1 0 (nI a - 1) = 0
  · rw [if_pos c1, if_pos c1]; exact ⟨_, _, rfl, rfl, rfl, v0⟩
  · rw [if_neg c1, if_neg c1]
    have b1 := (wi_yes c1).1
    obtain ⟨s, hs, rfl⟩ := wi_i h6 c1 (by rw [fa_le]; exact b1)
    have e6 : (6 : Int32) * nI s = nI (6 * s) := pk_mul 6 s
    rw [(srow_c N s a hs h6 rows).1, Option.bind_some, e6, if_pos (ixb_nI (by omega) (by decide)), nI_clamp (by omega)]
    have hk : sg (6 * s) = 0 ↔ rows (6 * s) = 0 := by
      obtain ⟨-, -, hk⟩ := h9 s hs
      rcases hk with ⟨y, y1, -⟩ | ⟨y, y1, -⟩ | ⟨y, y1, -⟩ <;> rw [y, y1]
    by_cases c2 : rows (6 * s) = 0
    · rw [if_pos c2, if_neg (show ¬ (1 : Int32) = 0 by decide), if_neg (fun z => z (hk.mpr c2))]
      exact ⟨_, _, rfl, rfl, rfl, v0⟩
    · rw [if_neg c2, if_pos rfl, if_pos (fun z => c2 (hk.mp z)), abl_c N a (by omega) h6, Option.bind_some, agg_c N a (by omega) h6 _ _ _ g2, Option.bind_some, shl_1 s (by omega), fa_or]
      have em : msk (bq rows lv) a ||| 2 ^ s = msk (fun j => bq rows lv j || decide (j = s)) a := by
        apply Nat.eq_of_testBit_eq
        intro j
        rw [Nat.testBit_or, msk_bit, msk_bit, Nat.testBit_two_pow]
        by_cases e : j = s
        · subst e; simp [hs]
        · simp [e, Ne.symm e]
      rw [em, agg_c N a (by omega) h6 _ _ _ g2, Option.bind_some]
      have ec : (fun c => allB (fun j => bq rows lv j || decide (j = s)) (fitB nb B cam rows c) a) = (fun c => allB (bq rows lv) (fitB nb B cam rows c) a && fitB nb B cam rows c s) := by
        funext c
        have key : ∀ {x y : Bool}, (x = true ↔ y = true) → x = y := fun {x y} z => by cases x <;> cases y <;> simp_all
        apply key
        rw [Bool.and_eq_true, allB_iff, allB_iff]
        constructor
        · intro z
          exact ⟨fun i hi hq => z i hi (by rw [hq]; rfl), z s hs (by simp)⟩
        · rintro ⟨z1, z2⟩ i hi hq
          by_cases e : i = s
          · subst e; exact z2
          · exact z1 i hi (by simpa [e] using hq)
      rw [ec]
      simp only [jn]
      obtain ⟨t, t1⟩ := hw s hs (fun (x2_116 : Int32) (x3_116 : Int32) (x4_116 : Int32) (v0_touchTick_116 : Int32) (v0_touchHalf_116 : Int32) (c8_116 : Nat → Int32) (c9_116 : Nat → Int32) (c10_116 : Nat → Int32) (c11_116 : Nat → Int32) (c12_116 : Nat → Int32) (c13_116 : Nat → Int32) => (if x2_116 = 0 then (if x3_116 = 0 then some ((0 : Int32), v0_touchTick_116, v0_touchHalf_116, c8_116, c9_116, c10_116, c11_116, c12_116, c13_116) else some ((1 : Int32), v0_touchTick_116, v0_touchHalf_116, c8_116, c9_116, c10_116, c11_116, c12_116, c13_116)) else (if x4_116 = 0 then (if x3_116 = 0 then some ((0 : Int32), v0_touchTick_116, v0_touchHalf_116, c8_116, c9_116, c10_116, c11_116, c12_116, c13_116) else some ((1 : Int32), v0_touchTick_116, v0_touchHalf_116, c8_116, c9_116, c10_116, c11_116, c12_116, c13_116)) else some ((2 : Int32), v0_touchTick_116, v0_touchHalf_116, c8_116, c9_116, c10_116, c11_116, c12_116, c13_116))))
      rw [t1]
      have hsub : fb_ct (fun c => allB (bq rows lv) (fitB nb B cam rows c) a && fitB nb B cam rows c s) 189 ≤ fb_ct (fun c => allB (bq rows lv) (fitB nb B cam rows c) a) 189 := fb_ct_sub (fun k _ hk => (Bool.and_eq_true _ _ ▸ hk).1)
      have hle := fb_ct_le (fun c => allB (bq rows lv) (fitB nb B cam rows c) a) 189
      generalize fb_ct (fun c => allB (bq rows lv) (fitB nb B cam rows c) a && fitB nb B cam rows c s) 189 = S at *
      generalize fb_ct (fun c => allB (bq rows lv) (fitB nb B cam rows c) a) 189 = A at *
      by_cases d : S = 0
      · subst d
        rw [if_neg (fun z => z rfl)]
        rw [show bI (decide (0 < 0)) = 0 from rfl]
        by_cases d2 : A = 0
        · subst d2
          exact ⟨_, _, rfl, rfl, rfl, g5⟩
        · rw [bI_t (decide_eq_true (show 0 < A by omega)), bI_f (show ¬ decide (A = 0) = true by simpa using d2)]
          exact ⟨_, _, rfl, rfl, rfl, g5⟩
      · rw [if_pos (nI_ne0 (by omega) (by omega)), bI_t (decide_eq_true (show 0 < A by omega)), bI_t (decide_eq_true (show 0 < S by omega))]
        by_cases d2 : A = S
        · subst d2
          rw [if_neg (fun z => z rfl), bI_t (decide_eq_true rfl)]
          exact ⟨_, _, rfl, rfl, rfl, g5⟩
        · rw [if_pos (fun z => d2 ((nI_eq (by omega) (by omega)).mp z).symm), bI_f (show ¬ decide (A = S) = true by simpa using d2)]
          exact ⟨_, _, rfl, rfl, rfl, g5⟩
