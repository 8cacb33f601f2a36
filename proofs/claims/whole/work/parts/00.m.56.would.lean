/-! where it would have gone on -/
def TR (X : Nat → Int32) (W : Int32) (T : Nat) : Prop := (T = 0 ∧ (¬ X 0 < W ∨ ∀ t, 1 ≤ t → t ≤ 600 → X t < W)) ∨ (1 ≤ T ∧ T ≤ 600 ∧ X 0 < W ∧ ¬ X T < W ∧ ∀ t, 1 ≤ t → t < T → X t < W)
theorem TR_le {X : Nat → Int32} {W : Int32} {T : Nat} (h : TR X W T) : T ≤ 600 := by
  rcases h with ⟨h, -⟩ | ⟨-, h, -⟩ <;> omega
theorem tr_c (N : Nat) (hN : 1000 < N) (X xs : Nat → Int32) (hx : ∀ j, j ≤ 600 → xs j = X j) (W : Int32) : ∃ T : Nat, fX2_tickReaching N W xs = some (nI T) ∧ TR X W T := by
  unfold fX2_tickReaching
  rw [show fX2_partAt N 601 (0 : Int32) xs = some (xs 0) from part_c N 0 (by decide) xs, Option.bind_some, hx 0 (by decide)]
  by_cases c0 : X 0 < W
  · rw [if_pos c0]
    have key : ∀ (n t : Nat), t ≤ 601 → 601 - t < n → 1 ≤ t → (∀ j, 1 ≤ j → j < t → X j < W) → ∃ T : Nat, fX2_tickReaching_p16 N W xs n (nI t) = some (nI T) ∧ TR X W T := by
      intro n
      induction n with
      | zero => intro t h1 h2; exact absurd h2 (Nat.not_lt_zero _)
      | succ n ih =>
        intro t h1 h2 h3 h4
        rw [fX2_tickReaching_p16]
        rcases Nat.lt_or_ge t 601 with q | q
        · rw [if_neg (show ¬ (601 : Int32) ≤ nI t from nI_ge (b := 601) q (by decide)), if_pos (ixb_nI q (by decide)), nI_clamp (by omega), hx t (by omega)]
          by_cases d : X t < W
          · rw [if_pos d, nI_1]
            refine ih (t + 1) (by omega) (by omega) (by omega) (fun j j1 j2 => ?_)
            by_cases e : j = t
            · subst e; exact d
            · exact h4 j j1 (by omega)
          · rw [if_neg d]
            exact ⟨t, rfl, Or.inr ⟨h3, by omega, c0, d, h4⟩⟩
        · have e : t = 601 := by omega
          subst e
          rw [if_pos (show (601 : Int32) ≤ nI 601 by decide)]
          exact ⟨0, rfl, Or.inl ⟨rfl, Or.inr (fun j j1 j2 => h4 j j1 (by omega))⟩⟩
    exact key N 1 (by decide) (by omega) (by decide) (fun j j1 j2 => absurd j1 (by omega))
  · rw [if_neg c0]
    exact ⟨0, rfl, Or.inl ⟨rfl, Or.inl c0⟩⟩
def htB (L B : Nat → Int32) (sd_ hi_ : Int32) (T c : Nat) : Bool := if T = 0 then false else if sd_ < aI (sd L B c T).2 then false else if hi_ < (fsq L B T).2.1 then false else true
theorem whit_r (N : Nat) (hN : 1000 < N) {L B it us vs ws xs ys zs : Nat → Int32} {c j T : Nat} {tt th : Int32} (hj : j < 67) (hL : LC L B c tt th us vs ws xs ys zs) (hT : TR (fun t => (fsq L B t).1) (it (4 * j + 1)) T) : fX10_wouldHit N (nI (4 * j)) it xs ys zs = some (bI (htB L B (it (4 * j + 2)) (it (4 * j + 3)) T c)) := by
  obtain ⟨-, -, hL⟩ := hL
  have e1 : nI (4 * j) + (1 : Int32) = nI (4 * j + 1) := nI_add _ 1
  have e2 : nI (4 * j) + (2 : Int32) = nI (4 * j + 2) := nI_add _ 2
  have e3 : nI (4 * j) + (3 : Int32) = nI (4 * j + 3) := nI_add _ 3
  unfold fX10_wouldHit
  simp only [jn]
  rw [e2, e3]
  generalize hK : (fun (x2_43 : Int32) => (if ixb x2_43 601 = true then ((fX10_off N ((ys x2_43.toNatClampNeg))).bind (fun q49 => (if ixb (nI (4 * j + 2)) 536 = true then (if (it (nI (4 * j + 2)).toNatClampNeg) < q49 then some ((0 : Int32)) else (if ixb x2_43 601 = true then (if ixb (nI (4 * j + 3)) 536 = true then (if (it (nI (4 * j + 3)).toNatClampNeg) < (zs x2_43.toNatClampNeg) then some ((0 : Int32)) else some ((1 : Int32))) else none) else none)) else none))) else none)) = K
  have hKT : ∀ t, 1 ≤ t → t ≤ 600 → K (nI t) = some (bI (htB L B (it (4 * j + 2)) (it (4 * j + 3)) t c)) := fun t t1 t2 => by
    subst hK
    dsimp only
    obtain ⟨x1, x2, -, -, -, x3⟩ := hL t t2
    rw [if_pos (ixb_nI (by omega) (by decide)), off_d, Option.bind_some, if_pos (ixb_nI (by omega) (by decide)), if_pos (ixb_nI (by omega) (by decide)), if_pos (ixb_nI (by omega) (by decide)), nI_clamp (by omega), nI_clamp (by omega), nI_clamp (by omega), x2, x3]
    unfold htB
    rw [if_neg (show ¬ t = 0 by omega)]
    show (if it (4 * j + 2) < aI (sd L B c t).2 then some 0 else if it (4 * j + 3) < (fsq L B t).2.1 then some 0 else some 1) = _
    by_cases d1 : it (4 * j + 2) < aI (sd L B c t).2
    · rw [if_pos d1, if_pos d1]; rfl
    · rw [if_neg d1, if_neg d1]
      by_cases d2 : it (4 * j + 3) < (fsq L B t).2.1
      · rw [if_pos d2, if_pos d2]; rfl
      · rw [if_neg d2, if_neg d2]; rfl
  have st : ∀ (n t : Nat), 1 ≤ t → t ≤ 600 → fX10_wouldHit_p2 N (nI (4 * j)) it xs K (n + 1) (nI t) = (if ¬ (fsq L B 0).1 < it (4 * j + 1) then some 0 else if (fsq L B t).1 < it (4 * j + 1) then fX10_wouldHit_p2 N (nI (4 * j)) it xs K n (nI (t + 1)) else K (nI t)) := fun n t t1 t2 => by
    rw [fX10_wouldHit_p2, if_neg (show ¬ (600 : Int32) < nI t from nI_nlt (a := 600) (by omega) (by decide)), e1, if_pos (ixb_nI (by omega) (by decide)), if_pos (ixb_nI (by omega) (by decide)), if_pos (ixb_nI (by omega) (by decide)), nI_clamp (by omega), nI_clamp (by omega), sb_cl0, (hL 0 (by decide)).1, (hL t t2).1, nI_1]
    by_cases d : (fsq L B 0).1 < it (4 * j + 1)
    · rw [if_neg (show ¬ it (4 * j + 1) ≤ (fsq L B 0).1 from fun z => by rw [fa_le] at z; rw [fa_lt] at d; omega), if_neg (show ¬ ¬ (fsq L B 0).1 < it (4 * j + 1) from fun z => z d)]
    · rw [if_pos (fa_of_nlt d), if_pos d]
  rcases hT with ⟨rfl, h0 | h0⟩ | ⟨t1, t2, h0, hX, hb⟩
  · obtain ⟨n, rfl⟩ : ∃ n, N = n + 1 := ⟨N - 1, by omega⟩
    rw [show (1 : Int32) = nI 1 from rfl, st n 1 (by decide) (by decide), if_pos h0]
    rfl
  · by_cases c0 : (fsq L B 0).1 < it (4 * j + 1)
    · have key : ∀ (n t : Nat), t ≤ 601 → 601 - t < n → 1 ≤ t → fX10_wouldHit_p2 N (nI (4 * j)) it xs K n (nI t) = some 0 := by
        intro n
        induction n with
        | zero => intro t h1 h2; exact absurd h2 (Nat.not_lt_zero _)
        | succ n ih =>
          intro t h1 h2 h3
          rcases Nat.lt_or_ge t 601 with q | q
          · rw [st n t h3 (by omega), if_neg (fun z => z c0), if_pos (h0 t h3 (by omega))]
            exact ih (t + 1) (by omega) (by omega) (by omega)
          · have e : t = 601 := by omega
            subst e
            rw [fX10_wouldHit_p2, if_pos (show (600 : Int32) < nI 601 by decide)]
      exact key N 1 (by decide) (by omega) (by decide)
    · obtain ⟨n, rfl⟩ : ∃ n, N = n + 1 := ⟨N - 1, by omega⟩
      rw [show (1 : Int32) = nI 1 from rfl, st n 1 (by decide) (by decide), if_pos c0]
      rfl
  · have key : ∀ (n t : Nat), t ≤ T → T - t < n → 1 ≤ t → fX10_wouldHit_p2 N (nI (4 * j)) it xs K n (nI t) = K (nI T) := by
      intro n
      induction n with
      | zero => intro t g1 g2; exact absurd g2 (Nat.not_lt_zero _)
      | succ n ih =>
        intro t g1 g2 g3
        rw [st n t g3 (by omega), if_neg (fun z => z h0)]
        rcases Nat.lt_or_ge t T with q | q
        · rw [if_pos (hb t g3 q)]
          exact ih (t + 1) q (by omega) (by omega)
        · have e : t = T := by omega
          subst e
          rw [if_neg hX]
    rw [show fX10_wouldHit_p2 N (nI (4 * j)) it xs K N 1 = K (nI T) from key N 1 t1 (by omega) (by decide)]
    exact hKT T t1 t2
theorem hit_c (N a : Nat) (hN : 1000 < N) (ha : a ≤ 30) (fb : Nat → Int32) (p : Nat → Nat → Bool) (q : Nat → Bool) (h : ∀ c, c < 189 → fb c = nI (msk (p c) a)) {L B xs zs : Nat → Int32} (hx : ∀ j, j ≤ 600 → xs j = (fsq L B j).1 ∧ zs j = (fsq L B j).2.1) (sv wx wd wh : Int32) (ys : Nat → Int32) : ∃ T sv' ys', TR (fun t => (fsq L B t).1) wx T ∧ fX7_hitting N (nI (msk q a)) fb sv wx wd wh L xs ys zs B = some (nI (fb_ct (fun c => allB q (p c) a && htB L B wd wh T c) 189), sv', ys') := by
  obtain ⟨T, t1, t2⟩ := tr_c N hN (fun t => (fsq L B t).1) xs (fun j hj => (hx j hj).1) wx
  have tle := TR_le t2
  unfold fX7_hitting fX5_wicketX fX5_wicketHigh fX2_zAt
  rw [Option.bind_some, t1, Option.bind_some]
  have none_ : (∀ c, htB L B wd wh T c = false) → nI (fb_ct (fun c => allB q (p c) a && htB L B wd wh T c) 189) = 0 := fun z => by
    have : fb_ct (fun c => allB q (p c) a && htB L B wd wh T c) 189 = 0 := by
      rw [fb_ct_zero]; intro k _; rw [z k, Bool.and_false]
    rw [this]; rfl
  by_cases c0 : T = 0
  · rw [if_pos (show nI T = 0 by rw [c0]; rfl)]
    refine ⟨T, sv, ys, t2, ?_⟩
    rw [none_ (fun c => by unfold htB; rw [if_pos c0])]
  · rw [if_neg (nI_ne0 (by omega) (by omega)), part_c N T tle, Option.bind_some, Option.bind_some, Option.bind_some, (hx T tle).2]
    by_cases c1 : (fsq L B T).2.1 ≤ wh
    · rw [if_pos c1]
      simp only [jn]
      have c1' : ¬ wh < (fsq L B T).2.1 := fun z => by rw [fa_le] at c1; rw [fa_lt] at z; omega
      refine loopR (fun m (t : Int32 × (Nat → Int32)) i => fX7_hitting_p39 N (nI (msk q a)) (nI T) fb wd L B (fun x y z => some (x, y, z)) m (nI (fb_ct (fun c => allB q (p c) a && htB L B wd wh T c) i)) (nI i) t.1 t.2) (fun _ _ => True) 189 (fun o => ∃ T sv' ys', TR (fun t => (fsq L B t).1) wx T ∧ o = some (nI (fb_ct (fun c => allB q (p c) a && htB L B wd wh T c) 189), sv', ys')) (fun m t _ => ?_) (fun m t i hi _ => ?_) N 0 (sv, ys) (by decide) (by omega) trivial
      · rw [fX7_hitting_p39, if_pos (show (189 : Int32) ≤ nI 189 by decide)]
        exact ⟨T, _, _, t2, rfl⟩
      · rw [fX7_hitting_p39, if_neg (show ¬ (189 : Int32) ≤ nI i from nI_ge (b := 189) hi (by decide)), agr_c N i a hi ha fb (p i) q (h i hi), Option.bind_some, nI_1, fb_ct_succ]
        simp only [jn]
        by_cases d : allB q (p i) a = true
        · obtain ⟨rs, s1, s2, s3⟩ := side_c N hN L B i T tle t.1 t.2
          rw [if_pos d, if_neg (show ¬ (1 : Int32) = 0 by decide), s1, Option.bind_some]
          unfold fX2_yAt fX5_wicketSide
          rw [part_c N T tle, Option.bind_some, Option.bind_some, Option.bind_some, aI_c, s3 T (Nat.le_refl T)]
          refine ⟨rs, trivial, ?_⟩
          by_cases e : wd < aI (sd L B i T).2
          · have eh : htB L B wd wh T i = false := by unfold htB; rw [if_neg c0, if_pos e]
            rw [if_pos e, Int32.add_zero, if_neg (by simp [eh])]
            rfl
          · have eh : htB L B wd wh T i = true := by unfold htB; rw [if_neg c0, if_neg e, if_neg c1']
            rw [if_neg e, if_pos (by rw [d, eh]; rfl), nI_1]
        · refine ⟨t, trivial, ?_⟩
          rw [if_neg d, if_pos rfl, if_neg (by simp [d])]
          rfl
    · rw [if_neg c1]
      refine ⟨T, sv, ys, t2, ?_⟩
      have c1' : wh < (fsq L B T).2.1 := fa_of_nle c1
      rw [none_ (fun c => by
        unfold htB
        rw [if_neg c0, if_pos c1']
        split <;> rfl)]
theorem TR_one {X : Nat → Int32} {W : Int32} {T T' : Nat} (h : TR X W T) (h' : TR X W T') : T = T' := by
  rcases h with ⟨h1, h2⟩ | ⟨h1, h2, h3, h4, h5⟩
  · rcases h' with ⟨g1, g2⟩ | ⟨g1, g2, g3, g4, g5⟩
    · omega
    · rcases h2 with h2 | h2
      · exact absurd g3 h2
      · exact absurd (h2 T' g1 g2) g4
  · rcases h' with ⟨g1, g2⟩ | ⟨g1, g2, g3, g4, g5⟩
    · rcases g2 with g2 | g2
      · exact absurd h3 g2
      · exact absurd (g2 T h1 h2) h4
    · rcases Nat.lt_trichotomy T T' with z | z | z
      · exact absurd (g5 T h1 z) h4
      · exact z
      · exact absurd (h5 T' g1 z) g4
theorem wou_r {N : Nat} (hN : 1000 < N) {lc w1 wx wd wh items flown kn tt tx tl hf known stale am lv : Int32} {nb lf ly im it B bl cam rows xs zs us ws tys fb os sm sg ou : Nat → Int32} {a : Nat} (h : PV N lc w1 wx wd wh items nb lf ly im it B bl cam rows xs zs us ws tys fb os flown kn tt tx tl hf known stale am lv sm sg ou a) (y1 : Int32) (j T : Nat) (hj : j < 67) (hT : TR (fun t => (fsq nb B t).1) (it (4 * j + 1)) T) (K : Int32 → Int32 → Int32 → Int32 → (Nat → Int32) → (Nat → Int32) → (Nat → Int32) → (Nat → Int32) → (Nat → Int32) → (Nat → Int32) → Option (Int32 × Int32 × Int32 × (Nat → Int32) × (Nat → Int32) × (Nat → Int32) × (Nat → Int32) × (Nat → Int32) × (Nat → Int32))) (g o : Nat → Bool) (e1 : ∀ c, g c = allB (aq rows lv) (fitB nb B cam rows c) a) (e2 : ∀ c, o c = (g c && htB nb B (it (4 * j + 2)) (it (4 * j + 3)) T c)) (rt rh : Int32) (r1 r2 r3 r4 r5 r6 : Nat → Int32) : ∃ t : Int32 × Int32 × (Nat → Int32) × (Nat → Int32) × (Nat → Int32) × (Nat → Int32) × (Nat → Int32) × (Nat → Int32), fX10_would_p36 N y1 (nI (4 * j)) bl cam im it ou sm sg K N 0 0 0 rt rh r1 r2 r3 r4 r5 r6 = K (nI (fb_ct g 189)) (nI (fb_ct o 189)) t.1 t.2.1 t.2.2.1 t.2.2.2.1 t.2.2.2.2.1 t.2.2.2.2.2.1 t.2.2.2.2.2.2.1 t.2.2.2.2.2.2.2 := by
  refine loopR (fun m (t : Int32 × Int32 × (Nat → Int32) × (Nat → Int32) × (Nat → Int32) × (Nat → Int32) × (Nat → Int32) × (Nat → Int32)) c => fX10_would_p36 N y1 (nI (4 * j)) bl cam im it ou sm sg K m (nI (fb_ct g c)) (nI (fb_ct o c)) (nI c) t.1 t.2.1 t.2.2.1 t.2.2.2.1 t.2.2.2.2.1 t.2.2.2.2.2.1 t.2.2.2.2.2.2.1 t.2.2.2.2.2.2.2) (fun _ _ => True) 189 (fun z => ∃ t : Int32 × Int32 × (Nat → Int32) × (Nat → Int32) × (Nat → Int32) × (Nat → Int32) × (Nat → Int32) × (Nat → Int32), z = K (nI (fb_ct g 189)) (nI (fb_ct o 189)) t.1 t.2.1 t.2.2.1 t.2.2.2.1 t.2.2.2.2.1 t.2.2.2.2.2.1 t.2.2.2.2.2.2.1 t.2.2.2.2.2.2.2) (fun m t _ => ?_) (fun m t c hc _ => ?_) N 0 (rt, rh, r1, r2, r3, r4, r5, r6) (by decide) (by omega) trivial
  · rw [fX10_would_p36, if_pos (show (189 : Int32) ≤ nI 189 by decide)]
    exact ⟨t, rfl⟩
  · obtain ⟨ru, l1, l2, l3, -⟩ := lays hN h c t.1 t.2.1 t.2.2.1 t.2.2.2.1 t.2.2.2.2.1 t.2.2.2.2.2.1 t.2.2.2.2.2.2.1 t.2.2.2.2.2.2.2
    refine ⟨ru, trivial, ?_⟩
    rw [fX10_would_p36, if_neg (show ¬ (189 : Int32) ≤ nI c from nI_ge (b := 189) hc (by decide)), l1, Option.bind_some, sb_cl0, l3, Option.bind_some, nI_1, fb_ct_succ, fb_ct_succ, whit_r N hN hj l2 hT]
    simp only [jn, Option.bind_some]
    rw [← e1 c, e2]
    by_cases d : g c = true
    · rw [if_pos d, if_neg (show ¬ (1 : Int32) = 0 by decide), d, Bool.true_and, if_pos rfl, nI_1]
      cases htB nb B (it (4 * j + 2)) (it (4 * j + 3)) T c with
      | true =>
        rw [if_neg (show ¬ bI true = 0 by decide), if_pos rfl, nI_1]
      | false =>
        rw [if_pos (show bI false = 0 from rfl), Int32.add_zero]
        rfl
    · have d' : g c = false := by simpa using d
      rw [if_neg d, if_pos rfl, d']
      rfl
theorem would_eq (N : Nat) (hN : 1000 < N) (a1 : Int32) {lc w1 wx wd wh items flown kn tt tx tl hf known stale am lv : Int32} {nb lf ly im it B bl cam rows xs zs us ws tys fb os sm sg ou : Nat → Int32} {a : Nat} (h : PV N lc w1 wx wd wh items nb lf ly im it B bl cam rows xs zs us ws tys fb os flown kn tt tx tl hf known stale am lv sm sg ou a) (sv : Int32) (ys : Nat → Int32) (rt rh : Int32) (r1 r2 r3 r4 r5 r6 : Nat → Int32) : ∃ q z, fX9_would N a1 flown kn sv tt tx tl hf tys us ws xs ys zs lc w1 wx wd wh lf ly nb cam am lv rows B known stale fb os = some q ∧ fX10_would N a1 rt rh bl cam im it ou sm sg r1 r2 r3 r4 r5 r6 = some z ∧ q.1 = z.1 ∧ VS N lc lf ly nb B cam rows a q.2 := by
  have v0 := vs_old h sv ys
  obtain ⟨ru, g1, g2, -, g4, g5, -⟩ := learn_vs hN h sv ys
  have hw := fun j T hj hT K => wou_r hN h a1 j T hj hT K (fun c => allB (aq rows lv) (fitB nb B cam rows c) a) (fun c => allB (aq rows lv) (fitB nb B cam rows c) a && htB nb B (it (4 * j + 2)) (it (4 * j + 3)) T c) (fun _ => rfl) (fun _ => rfl) rt rh r1 r2 r3 r4 r5 r6
  obtain ⟨h1, h2, h3, h4, rfl, h6, h7, h8, h9⟩ := h
  obtain ⟨n, ln, hn, -, -, h0, -, -, -, hk, -⟩ := h1
  unfold fX9_would fX10_would fX5_hasWicket fX8_leftOut
  rw [g1, last_def N n hn (by omega) 107 im it h0]
  simp only [Option.bind_some, wi_def, in_def N a1 0 1 0 1 rfl rfl]
  by_cases c1 : wi a1 0 1 = 0
  · rw [if_neg (fun z => z c1), if_neg (fun z => z c1)]; exact ⟨_, _, rfl, rfl, rfl, v0⟩
  · rw [if_pos c1, if_pos c1]
    cases ek : lk it 107 n with
    | none =>
      rw [ek] at hk
      have hk : w1 = 0 := hk
      rw [hk, if_pos (Or.inl rfl), Option.bind_some, if_neg (fun z => z rfl), if_neg (fun z => z rfl)]
      exact ⟨_, _, rfl, rfl, rfl, v0⟩
    | some j =>
      rw [ek] at hk
      obtain ⟨k1, k2, k3, k4⟩ : w1 = 1 ∧ wx = it (4 * j + 1) ∧ wd = it (4 * j + 2) ∧ wh = it (4 * j + 3) := hk
      have hj := (lk_lt it _ n j ek).1
      rw [k1, if_pos (Or.inr rfl), Option.bind_some, if_pos (by decide), show lkI (some j) = nI (4 * j) from rfl, if_pos (fun z => nI_pos (show 4 * j < 2 ^ 31 by omega) (by rw [z]; decide)), asi_c N a (by omega) h6, Option.bind_some]
      obtain ⟨T, sv', ys', tT, tH⟩ := hit_c N a hN h6 _ _ (aq rows lv) g2 (fun j hj => ⟨(g4.2.2 j hj).1, (g4.2.2 j hj).2.1⟩) ru.2.2.2.2.2.1 wx wd wh ru.2.2.2.2.2.2.2.2.2.2.2.2.2.2.1
      rw [k2] at tT
      obtain ⟨t, t1⟩ := hw j T (by omega) tT (fun (x3_91 : Int32) (x4_91 : Int32) (v0_touchTick_91 : Int32) (v0_touchHalf_91 : Int32) (c8_91 : Nat → Int32) (c9_91 : Nat → Int32) (c10_91 : Nat → Int32) (c11_91 : Nat → Int32) (c12_91 : Nat → Int32) (c13_91 : Nat → Int32) => (if ¬ a1 = 0 then some (x3_91, v0_touchTick_91, v0_touchHalf_91, c8_91, c9_91, c10_91, c11_91, c12_91, c13_91) else some (x4_91, v0_touchTick_91, v0_touchHalf_91, c8_91, c9_91, c10_91, c11_91, c12_91, c13_91)))
      simp only [jn]
      rw [t1, agg_c N a (by omega) h6 _ _ _ g2, tH, Option.bind_some, Option.bind_some]
      by_cases d : a1 = 0
      · rw [if_neg (fun z => z d), if_neg (fun z => z d), k3, k4]
        exact ⟨_, _, rfl, rfl, rfl, g5⟩
      · rw [if_pos d, if_pos d]
        exact ⟨_, _, rfl, rfl, rfl, g5⟩
