/-! the fewest cameras to leave out -/
def pcS (s : Nat) : Nat := s % 2 + s / 2 % 2 + s / 4 % 2 + s / 8 % 2
theorem s16 {P : Nat → Prop} (h0 : P 0) (h1 : P 1) (h2 : P 2) (h3 : P 3) (h4 : P 4) (h5 : P 5) (h6 : P 6) (h7 : P 7) (h8 : P 8) (h9 : P 9) (h10 : P 10) (h11 : P 11) (h12 : P 12) (h13 : P 13) (h14 : P 14) (h15 : P 15) (s : Nat) (hs : s < 16) : P s := by
  rcases (show s = 0 ∨ s = 1 ∨ s = 2 ∨ s = 3 ∨ s = 4 ∨ s = 5 ∨ s = 6 ∨ s = 7 ∨ s = 8 ∨ s = 9 ∨ s = 10 ∨ s = 11 ∨ s = 12 ∨ s = 13 ∨ s = 14 ∨ s = 15 by omega) with rfl | rfl | rfl | rfl | rfl | rfl | rfl | rfl | rfl | rfl | rfl | rfl | rfl | rfl | rfl | rfl <;> assumption
theorem bc_c (N s : Nat) (hs : s < 16) : fJ6_bitCount_0f7a4 N (nI s) = some (nI (pcS s)) := by
  revert s
  apply s16 <;> rfl
theorem bits_r (N s : Nat) (hN : 20 < N) (hs : s < 16) : fX10_bits N (nI s) = some (nI (pcS s)) := by
  obtain ⟨n, rfl⟩ : ∃ n, N = n + 6 := ⟨N - 6, by omega⟩
  revert s
  apply s16 <;> rfl
theorem pc_le {s : Nat} : pcS s ≤ 4 := by unfold pcS; omega
theorem pat_0 (g : Nat → Bool) : ∀ k c, c + k ≤ 1000 → (pat g 0 k c 0 = -4 ↔ ∀ j, c ≤ j → j < c + k → g j = false)
  | 0, c, _ => ⟨fun _ j h1 h2 => absurd h1 (by omega), fun _ => rfl⟩
  | k + 1, c, hc => by
    rw [pat]
    cases e : g c with
    | true =>
      rw [if_pos rfl, if_pos (show nI 0 = 0 from rfl)]
      constructor
      · intro z; exact absurd (by rw [z]; decide) (nI_pos (show c < 2 ^ 31 by omega))
      · intro z; rw [z c (Nat.le_refl c) (by omega)] at e; exact absurd e (by decide)
    | false =>
      rw [if_neg (by decide), pat_0 g k (c + 1) (by omega)]
      constructor
      · intro z j h1 h2
        by_cases q : j = c
        · subst q; exact e
        · exact z j (by omega) (by omega)
      · intro z j h1 h2
        exact z j (by omega) (by omega)
noncomputable def gS (L B cam rows : Nat → Int32) (a : Nat) (lv : Int32) (c : Nat) : Bool := allB (aq rows lv) (fitB L B cam rows c) a
noncomputable def smB (L B cam rows : Nat → Int32) (a : Nat) (lv : Int32) : Bool := decide (0 < fb_ct (gS L B cam rows a lv) 189)
noncomputable def cdB (L B cam rows : Nat → Int32) (a : Nat) (lv : Int32) (s : Nat) : Bool := decide ((nI s &&& lv) = 0) && smB L B cam rows a (lv ||| nI s)
theorem sag_c (N a : Nat) (hN : 300 < N) (ha : a ≤ 30) {L B cam rows fb : Nat → Int32} (lv : Int32) (h : ∀ c, c < 189 → fb c = nI (msk (fitB L B cam rows c) a)) : fX7_someAgrees N lv fb (nI a) rows = some (bI (smB L B cam rows a lv)) := by
  unfold fX7_someAgrees
  rw [asi_c N a (by omega) ha, Option.bind_some, agt_c N a hN ha fb _ _ 0 h, Option.bind_some]
  have hp := pat_0 (gS L B cam rows a lv) 189 0 (by decide)
  have hz : (∀ j, 0 ≤ j → j < 0 + 189 → gS L B cam rows a lv j = false) ↔ fb_ct (gS L B cam rows a lv) 189 = 0 := by
    rw [fb_ct_zero]
    exact ⟨fun z k hk => z k (Nat.zero_le k) (by omega), fun z j _ hj => z j (by omega)⟩
  rw [hz] at hp
  show (if pat (gS L B cam rows a lv) 0 189 0 0 = -4 then some 0 else some 1) = some (bI (smB L B cam rows a lv))
  unfold smB
  by_cases e : fb_ct (gS L B cam rows a lv) 189 = 0
  · rw [if_pos (hp.mpr e), e]; rfl
  · rw [if_neg (fun z => e (hp.mp z)), bI_t (decide_eq_true (by omega))]
theorem p9_c (N a : Nat) (hN : 300 < N) (ha : a ≤ 30) {L B cam rows fb : Nat → Int32} (lv : Int32) (h : ∀ c, c < 189 → fb c = nI (msk (fitB L B cam rows c) a)) (many : Nat) (hm : many ≤ 4) (K : Unit → Option Int32) : ∀ (n e : Nat), e ≤ 16 → 16 - e < n → (∀ s, s < e → pcS s = many → cdB L B cam rows a lv s = false) → (∃ s, s < 16 ∧ pcS s = many ∧ cdB L B cam rows a lv s = true ∧ (∀ s', s' < s → pcS s' = many → cdB L B cam rows a lv s' = false) ∧ fX7_fewestToLeave_p9 N (nI many) fb (nI a) lv rows K n (nI e) = some (nI s)) ∨ ((∀ s, s < 16 → pcS s = many → cdB L B cam rows a lv s = false) ∧ fX7_fewestToLeave_p9 N (nI many) fb (nI a) lv rows K n (nI e) = K ()) := by
  intro n
  induction n with
  | zero => intro e h1 h2; exact absurd h2 (Nat.not_lt_zero _)
  | succ n ih =>
    intro e h1 h2 h3
    rw [fX7_fewestToLeave_p9]
    rcases Nat.lt_or_ge e 16 with q | q
    · rw [if_neg (show ¬ (16 : Int32) ≤ nI e from nI_ge (b := 16) q (by decide)), show fX8_leftOut N lv = some lv from rfl, Option.bind_some]
      simp only [jn, Option.bind_some]
      rw [bc_c N e q, Option.bind_some, sag_c N a hN ha _ h, Option.bind_some, nI_1]
      have hp := pc_le (s := e)
      have next : cdB L B cam rows a lv e = false ∨ ¬ pcS e = many → _ := fun z => ih (e + 1) q (by omega) (fun s g1 g2 => by
        by_cases y : s = e
        · subst y
          rcases z with z | z
          · exact z
          · exact absurd g2 z
        · exact h3 s (by omega) g2)
      by_cases d1 : (nI e &&& lv) = 0
      · rw [if_neg (fun z => z d1)]
        simp only [show ¬ (1 : Int32) = 0 by decide, if_false]
        by_cases d2 : pcS e = many
        · rw [d2, if_neg (fun z => z rfl)]
          by_cases d3 : smB L B cam rows a (lv ||| nI e) = true
          · rw [bI_t d3, if_neg (by decide)]
            exact Or.inl ⟨e, q, d2, by unfold cdB; rw [decide_eq_true d1, d3]; rfl, fun s' g1 g2 => h3 s' g1 g2, rfl⟩
          · rw [bI_f d3, if_pos rfl]
            exact next (Or.inl (by unfold cdB; rw [decide_eq_true d1]; simpa using d3))
        · rw [if_pos (fun z => d2 ((nI_eq (by omega) (by omega)).mp z))]
          exact next (Or.inr d2)
      · rw [if_pos d1]
        simp only [if_true]
        exact next (Or.inl (by unfold cdB; rw [decide_eq_false d1]; rfl))
    · have e16 : e = 16 := by omega
      subst e16
      rw [if_pos (show (16 : Int32) ≤ nI 16 by decide)]
      exact Or.inr ⟨h3, rfl⟩
def ftl (cd : Nat → Bool) (r : Int32) : Prop := (r = -4 ∧ ∀ s, s < 16 → cd s = false) ∨ (∃ s, s < 16 ∧ r = nI s ∧ cd s = true ∧ ∀ s', s' < 16 → cd s' = true → pcS s < pcS s' ∨ (pcS s = pcS s' ∧ s ≤ s'))
theorem ftl_one {cd : Nat → Bool} {r r' : Int32} (h : ftl cd r) (h' : ftl cd r') : r = r' := by
  rcases h with ⟨h1, h2⟩ | ⟨s, h1, h2, h3, h4⟩
  · rcases h' with ⟨g1, g2⟩ | ⟨s', g1, g2, g3, g4⟩
    · rw [h1, g1]
    · rw [h2 s' g1] at g3; exact absurd g3 (by decide)
  · rcases h' with ⟨g1, g2⟩ | ⟨s', g1, g2, g3, g4⟩
    · rw [g2 s h1] at h3; exact absurd h3 (by decide)
    · have a1 := h4 s' g1 g3
      have a2 := g4 s h1 h3
      rw [h2, g2, show s = s' by omega]
theorem few_c (N a : Nat) (hN : 300 < N) (ha : a ≤ 30) {L B cam rows fb : Nat → Int32} (lv : Int32) (h : ∀ c, c < 189 → fb c = nI (msk (fitB L B cam rows c) a)) : ∃ r, fX7_fewestToLeave N fb (nI a) lv rows = some r ∧ ftl (cdB L B cam rows a lv) r := by
  unfold fX7_fewestToLeave
  have key : ∀ (n m : Nat), m ≤ 5 → 5 - m < n → (∀ s, s < 16 → pcS s < m → cdB L B cam rows a lv s = false) → ∃ r, fX7_fewestToLeave_p2 N fb (nI a) lv rows n (nI m) = some r ∧ ftl (cdB L B cam rows a lv) r := by
    intro n
    induction n with
    | zero => intro m h1 h2; exact absurd h2 (Nat.not_lt_zero _)
    | succ n ih =>
      intro m h1 h2 h3
      rw [fX7_fewestToLeave_p2]
      rcases Nat.lt_or_ge m 5 with q | q
      · rw [if_neg (show ¬ (4 : Int32) < nI m from nI_nlt (a := 4) (by omega) (by decide))]
        simp only [jn]
        rcases p9_c N a hN ha lv h m (by omega) (fun _ => fX7_fewestToLeave_p2 N fb (nI a) lv rows n (nI m + 1)) N 0 (by decide) (by omega) (fun s hs => absurd hs (Nat.not_lt_zero s)) with ⟨s, s1, s2, s3, s4, s5⟩ | ⟨s1, s2⟩
        · refine ⟨nI s, s5, Or.inr ⟨s, s1, rfl, s3, fun s' g1 g2 => ?_⟩⟩
          rcases Nat.lt_trichotomy (pcS s') m with z | z | z
          · rw [h3 s' g1 z] at g2; exact absurd g2 (by decide)
          · right
            refine ⟨by omega, ?_⟩
            rcases Nat.lt_or_ge s' s with y | y
            · rw [s4 s' y z] at g2; exact absurd g2 (by decide)
            · exact y
          · left; omega
        · rw [show fX7_fewestToLeave_p9 N (nI m) fb (nI a) lv rows (fun _ => fX7_fewestToLeave_p2 N fb (nI a) lv rows n (nI m + 1)) N 0 = _ from s2, nI_1]
          refine ih (m + 1) (by omega) (by omega) (fun s g1 g2 => ?_)
          rcases Nat.lt_or_ge (pcS s) m with z | z
          · exact h3 s g1 z
          · exact s1 s g1 (by omega)
      · have e : m = 5 := by omega
        subst e
        rw [if_pos (show (4 : Int32) < nI 5 by decide)]
        exact ⟨-4, rfl, Or.inl ⟨rfl, fun s hs => h3 s hs (by have := pc_le (s := s); omega)⟩⟩
  exact key N 0 (by decide) (by omega) (fun s _ hs => absurd hs (Nat.not_lt_zero _))
theorem smf_r {N : Nat} (hN : 1000 < N) {lc w1 wx wd wh items flown kn tt tx tl hf known stale am lv : Int32} {nb lf ly im it B bl cam rows xs zs us ws tys fb os sm sg ou : Nat → Int32} {a : Nat} (h : PV N lc w1 wx wd wh items nb lf ly im it B bl cam rows xs zs us ws tys fb os flown kn tt tx tl hf known stale am lv sm sg ou a) (lw : Int32) (rt rh : Int32) (r1 r2 r3 r4 r5 r6 : Nat → Int32) : ∃ z, fX10_someFits N lw rt rh bl cam im it sm sg r1 r2 r3 r4 r5 r6 = some z ∧ z.1 = bI (smB nb B cam rows a lw) := by
  unfold fX10_someFits
  simp only [jn]
  have key : ∀ (n c : Nat) (t : Int32 × Int32 × (Nat → Int32) × (Nat → Int32) × (Nat → Int32) × (Nat → Int32) × (Nat → Int32) × (Nat → Int32)), c ≤ 189 → 189 - c < n → ∃ z, fX10_someFits_p4 N lw bl cam im it sm sg (fun (x2_33 : Int32) (v0_touchTick_33 : Int32) (v0_touchHalf_33 : Int32) (c7_33 : Nat → Int32) (c8_33 : Nat → Int32) (c9_33 : Nat → Int32) (c10_33 : Nat → Int32) (c11_33 : Nat → Int32) (c12_33 : Nat → Int32) => (if x2_33 = 0 ∨ x2_33 = 1 then some (x2_33, v0_touchTick_33, v0_touchHalf_33, c7_33, c8_33, c9_33, c10_33, c11_33, c12_33) else none)) n (bI (decide (0 < fb_ct (gS nb B cam rows a lw) c))) (nI c) t.1 t.2.1 t.2.2.1 t.2.2.2.1 t.2.2.2.2.1 t.2.2.2.2.2.1 t.2.2.2.2.2.2.1 t.2.2.2.2.2.2.2 = some z ∧ z.1 = bI (smB nb B cam rows a lw) := by
    intro n
    induction n with
    | zero => intro c t h1 h2; exact absurd h2 (Nat.not_lt_zero _)
    | succ n ih =>
      intro c t h1 h2
      rw [fX10_someFits_p4]
      have b01 : ∀ b : Bool, bI b = 0 ∨ bI b = 1 := fun b => by cases b; exact Or.inl rfl; exact Or.inr rfl
      rcases Nat.lt_or_ge c 189 with q | q
      · rw [if_neg (show ¬ (189 : Int32) ≤ nI c from nI_ge (b := 189) q (by decide))]
        by_cases d : 0 < fb_ct (gS nb B cam rows a lw) c
        · rw [bI_t (decide_eq_true d), if_pos (show ¬ (1 : Int32) = 0 by decide), if_pos (Or.inr rfl)]
          refine ⟨_, rfl, ?_⟩
          have := fb_ct_mono (gS nb B cam rows a lw) (show c ≤ 189 by omega)
          unfold smB
          rw [bI_t (decide_eq_true (by omega))]
        · have d0 : fb_ct (gS nb B cam rows a lw) c = 0 := by omega
          rw [bI_f (show ¬ decide (0 < fb_ct (gS nb B cam rows a lw) c) = true by simpa using d), if_neg (fun z => z rfl)]
          obtain ⟨h1', h2', h3', h4', rfl, h6, h7, h8, h9⟩ := h
          obtain ⟨ru, l1, l2⟩ := lay_r N hN nb B c im it bl (rl_law (by omega) h1') h2' t.1 t.2.1 t.2.2.1 t.2.2.2.1 t.2.2.2.2.1 t.2.2.2.2.2.1 t.2.2.2.2.2.2.1 t.2.2.2.2.2.2.2
          have l3 := all_r N c a (by omega) h6 (cam := cam) h7 h9 l2 lw 0 _ (Or.inl ⟨rfl, rfl⟩)
          rw [l1, Option.bind_some, l3, Option.bind_some, nI_1]
          have ih' := ih (c + 1) ru (by omega) (by omega)
          rw [fb_ct_succ, d0, Nat.zero_add] at ih'
          have e : bI (decide (0 < if gS nb B cam rows a lw c = true then 1 else 0)) = (if allB (aq rows lw) (fitB nb B cam rows c) a = true then 1 else 0) := by
            show bI (decide (0 < if gS nb B cam rows a lw c = true then 1 else 0)) = (if gS nb B cam rows a lw c = true then 1 else 0)
            cases gS nb B cam rows a lw c <;> rfl
          rw [e] at ih'
          exact ih'
      · have e : c = 189 := by omega
        subst e
        rw [if_pos (show (189 : Int32) ≤ nI 189 by decide), if_pos (b01 _)]
        exact ⟨_, rfl, rfl⟩
  exact key N 0 (rt, rh, r1, r2, r3, r4, r5, r6) (by decide) (by omega)
theorem mov_r {N : Nat} (hN : 1000 < N) {lc w1 wx wd wh items flown kn tt tx tl hf known stale am lv : Int32} {nb lf ly im it B bl cam rows xs zs us ws tys fb os sm sg ou : Nat → Int32} {a : Nat} (h : PV N lc w1 wx wd wh items nb lf ly im it B bl cam rows xs zs us ws tys fb os flown kn tt tx tl hf known stale am lv sm sg ou a) (rt rh : Int32) (r1 r2 r3 r4 r5 r6 : Nat → Int32) : ∃ z, fX10_moved N rt rh bl cam im it ou sm sg r1 r2 r3 r4 r5 r6 = some z ∧ ftl (cdB nb B cam rows a lv) z.1 := by
  unfold fX10_moved
  simp only [jn]
  have h8 : ou 0 = lv := h.2.2.2.2.2.2.2.1
  refine loopR (fun m (t : Int32 × Int32 × Int32 × (Nat → Int32) × (Nat → Int32) × (Nat → Int32) × (Nat → Int32) × (Nat → Int32) × (Nat → Int32)) c => fX10_moved_p5 N bl cam im it ou sm sg (fun (x1_76 : Int32) (v0_touchTick_76 : Int32) (v0_touchHalf_76 : Int32) (c8_76 : Nat → Int32) (c9_76 : Nat → Int32) (c10_76 : Nat → Int32) (c11_76 : Nat → Int32) (c12_76 : Nat → Int32) (c13_76 : Nat → Int32) => some (x1_76, v0_touchTick_76, v0_touchHalf_76, c8_76, c9_76, c10_76, c11_76, c12_76, c13_76)) m t.1 (nI c) t.2.1 t.2.2.1 t.2.2.2.1 t.2.2.2.2.1 t.2.2.2.2.2.1 t.2.2.2.2.2.2.1 t.2.2.2.2.2.2.2.1 t.2.2.2.2.2.2.2.2) (fun c t => (t.1 = -4 ∧ ∀ s, s < c → cdB nb B cam rows a lv s = false) ∨ (∃ b, b < c ∧ t.1 = nI b ∧ cdB nb B cam rows a lv b = true ∧ ∀ s, s < c → cdB nb B cam rows a lv s = true → pcS b < pcS s ∨ (pcS b = pcS s ∧ b ≤ s))) 16 (fun o => ∃ z, o = some z ∧ ftl (cdB nb B cam rows a lv) z.1) (fun m t hI => ?_) (fun m t c hc hI => ?_) N 0 (-4, rt, rh, r1, r2, r3, r4, r5, r6) (by decide) (by omega) (Or.inl ⟨rfl, fun s hs => absurd hs (Nat.not_lt_zero s)⟩)
  · rw [fX10_moved_p5, if_pos (show (16 : Int32) ≤ nI 16 by decide)]
    exact ⟨_, rfl, hI⟩
  · obtain ⟨b, s⟩ := t
    obtain ⟨z, z1, z2⟩ := smf_r hN h (nI c ||| lv) s.1 s.2.1 s.2.2.1 s.2.2.2.1 s.2.2.2.2.1 s.2.2.2.2.2.1 s.2.2.2.2.2.2.1 s.2.2.2.2.2.2.2
    have ecd : cdB nb B cam rows a lv c = (decide ((nI c &&& lv) = 0) && smB nb B cam rows a (nI c ||| lv)) := by unfold cdB; rw [Int32.or_comm]
    rw [fX10_moved_p5, if_neg (show ¬ (16 : Int32) ≤ nI c from nI_ge (b := 16) hc (by decide)), sb_cl0, h8, z1, nI_1]
    simp only [jn, Option.bind_some]
    -- what becomes of the best one
    have keep : cdB nb B cam rows a lv c = false ∨ (∃ b', b = nI b' ∧ b' < c ∧ pcS b' ≤ pcS c) → ((b = -4 ∧ ∀ s, s < c + 1 → cdB nb B cam rows a lv s = false) ∨ (∃ b', b' < c + 1 ∧ b = nI b' ∧ cdB nb B cam rows a lv b' = true ∧ ∀ s, s < c + 1 → cdB nb B cam rows a lv s = true → pcS b' < pcS s ∨ (pcS b' = pcS s ∧ b' ≤ s))) := fun hz => by
      rcases hI with ⟨y1, y2⟩ | ⟨b', y1, y2, y3, y4⟩
      · dsimp only at y1
        rcases hz with hz | ⟨b'', w1, w2, -⟩
        · left
          refine ⟨y1, fun s' hs' => ?_⟩
          by_cases e : s' = c
          · subst e; exact hz
          · exact y2 s' (by omega)
        · exact absurd (by rw [← w1, y1]; decide) (nI_pos (show b'' < 2 ^ 31 by omega))
      · dsimp only at y2
        right
        refine ⟨b', by omega, y2, y3, fun s' hs' hc' => ?_⟩
        by_cases e : s' = c
        · subst e
          rcases hz with hz | ⟨b'', w1, w2, w3⟩
          · rw [hz] at hc'; exact absurd hc' (by decide)
          · have e := (nI_eq (by omega) (by omega)).mp (y2.symm.trans w1)
            subst e
            omega
        · exact y4 s' (by omega) hc'
    have new : cdB nb B cam rows a lv c = true → (b = -4 ∨ ∃ b', b = nI b' ∧ b' < c ∧ pcS c < pcS b') → (∃ b', b' < c + 1 ∧ nI c = nI b' ∧ cdB nb B cam rows a lv b' = true ∧ ∀ s, s < c + 1 → cdB nb B cam rows a lv s = true → pcS b' < pcS s ∨ (pcS b' = pcS s ∧ b' ≤ s)) := fun hz hb => by
      refine ⟨c, by omega, rfl, hz, fun s' hs' hc' => ?_⟩
      by_cases e : s' = c
      · subst e; exact Or.inr ⟨rfl, Nat.le_refl _⟩
      · rcases hI with ⟨y1, y2⟩ | ⟨b', y1, y2, y3, y4⟩
        · rw [y2 s' (by omega)] at hc'; exact absurd hc' (by decide)
        · dsimp only at y2
          rcases hb with hb | ⟨b'', w1, w2, w3⟩
          · exact absurd (by rw [← y2, hb]; decide) (nI_pos (show b' < 2 ^ 31 by omega))
          · have e := (nI_eq (by omega) (by omega)).mp (y2.symm.trans w1)
            subst e
            have := y4 s' (by omega) hc'
            omega
    have go : (b = -4 ∨ ∃ b', b = nI b' ∧ b' < c ∧ pcS c < pcS b') → (nI c &&& lv) = 0 → ∃ y : Int32 × Int32 × Int32 × (Nat → Int32) × (Nat → Int32) × (Nat → Int32) × (Nat → Int32) × (Nat → Int32) × (Nat → Int32), ((y.1 = -4 ∧ ∀ s, s < c + 1 → cdB nb B cam rows a lv s = false) ∨ (∃ b', b' < c + 1 ∧ y.1 = nI b' ∧ cdB nb B cam rows a lv b' = true ∧ ∀ s, s < c + 1 → cdB nb B cam rows a lv s = true → pcS b' < pcS s ∨ (pcS b' = pcS s ∧ b' ≤ s))) ∧ (if z.1 = 0 then fX10_moved_p5 N bl cam im it ou sm sg (fun (x1_76 : Int32) (v0_touchTick_76 : Int32) (v0_touchHalf_76 : Int32) (c8_76 : Nat → Int32) (c9_76 : Nat → Int32) (c10_76 : Nat → Int32) (c11_76 : Nat → Int32) (c12_76 : Nat → Int32) (c13_76 : Nat → Int32) => some (x1_76, v0_touchTick_76, v0_touchHalf_76, c8_76, c9_76, c10_76, c11_76, c12_76, c13_76)) m b (nI (c + 1)) z.2.1 z.2.2.1 z.2.2.2.1 z.2.2.2.2.1 z.2.2.2.2.2.1 z.2.2.2.2.2.2.1 z.2.2.2.2.2.2.2.1 z.2.2.2.2.2.2.2.2 else fX10_moved_p5 N bl cam im it ou sm sg (fun (x1_76 : Int32) (v0_touchTick_76 : Int32) (v0_touchHalf_76 : Int32) (c8_76 : Nat → Int32) (c9_76 : Nat → Int32) (c10_76 : Nat → Int32) (c11_76 : Nat → Int32) (c12_76 : Nat → Int32) (c13_76 : Nat → Int32) => some (x1_76, v0_touchTick_76, v0_touchHalf_76, c8_76, c9_76, c10_76, c11_76, c12_76, c13_76)) m (nI c) (nI (c + 1)) z.2.1 z.2.2.1 z.2.2.2.1 z.2.2.2.2.1 z.2.2.2.2.2.1 z.2.2.2.2.2.2.1 z.2.2.2.2.2.2.2.1 z.2.2.2.2.2.2.2.2) = fX10_moved_p5 N bl cam im it ou sm sg (fun (x1_76 : Int32) (v0_touchTick_76 : Int32) (v0_touchHalf_76 : Int32) (c8_76 : Nat → Int32) (c9_76 : Nat → Int32) (c10_76 : Nat → Int32) (c11_76 : Nat → Int32) (c12_76 : Nat → Int32) (c13_76 : Nat → Int32) => some (x1_76, v0_touchTick_76, v0_touchHalf_76, c8_76, c9_76, c10_76, c11_76, c12_76, c13_76)) m y.1 (nI (c + 1)) y.2.1 y.2.2.1 y.2.2.2.1 y.2.2.2.2.1 y.2.2.2.2.2.1 y.2.2.2.2.2.2.1 y.2.2.2.2.2.2.2.1 y.2.2.2.2.2.2.2.2 := fun hb d1 => by
      by_cases d3 : smB nb B cam rows a (nI c ||| lv) = true
      · rw [z2, bI_t d3, if_neg (by decide)]
        exact ⟨(nI c, z.2), Or.inr (new (by rw [ecd, decide_eq_true d1, d3]; rfl) hb), rfl⟩
      · rw [z2, bI_f d3, if_pos rfl]
        exact ⟨(b, z.2), keep (Or.inl (by rw [ecd, decide_eq_true d1]; simpa using d3)), rfl⟩
    by_cases d1 : (nI c &&& lv) = 0
    · rw [if_neg (fun y => y d1)]
      by_cases d2 : b = -4
      · rw [if_pos d2]
        simp only [show ¬ (1 : Int32) = 0 by decide, if_false]
        exact go (Or.inl d2) d1
      · rw [if_neg d2]
        obtain ⟨b', w1, w2⟩ : ∃ b', b' < c ∧ b = nI b' := by
          rcases hI with ⟨y1, -⟩ | ⟨b', y1, y2, -⟩
          · exact absurd y1 d2
          · exact ⟨b', y1, y2⟩
        have hp1 := pc_le (s := c)
        have hp2 := pc_le (s := b')
        rw [w2, bits_r N c (by omega) hc, bits_r N b' (by omega) (by omega), Option.bind_some, Option.bind_some]
        by_cases d4 : pcS b' ≤ pcS c
        · rw [if_pos (nI_le d4 (by omega))]
          simp only [if_true]
          rw [← w2]
          exact ⟨(b, s), keep (Or.inr ⟨b', w2, w1, d4⟩), rfl⟩
        · rw [if_neg (nI_ge (by omega) (by omega))]
          simp only [show ¬ (1 : Int32) = 0 by decide, if_false]
          rw [← w2]
          exact go (Or.inr ⟨b', w2, w1, by omega⟩) d1
    · rw [if_pos d1]
      simp only [if_true]
      exact ⟨(b, s), keep (Or.inl (by rw [ecd, decide_eq_false d1]; rfl)), rfl⟩
theorem moved_eq (N : Nat) (hN : 1000 < N) {lc w1 wx wd wh items flown kn tt tx tl hf known stale am lv : Int32} {nb lf ly im it B bl cam rows xs zs us ws tys fb os sm sg ou : Nat → Int32} {a : Nat} (h : PV N lc w1 wx wd wh items nb lf ly im it B bl cam rows xs zs us ws tys fb os flown kn tt tx tl hf known stale am lv sm sg ou a) (sv : Int32) (ys : Nat → Int32) (rt rh : Int32) (r1 r2 r3 r4 r5 r6 : Nat → Int32) : ∃ q z, fX9_moved N flown kn sv tt tx tl hf tys us ws xs ys zs lc lf ly nb cam am lv rows B known stale fb os = some q ∧ fX10_moved N rt rh bl cam im it ou sm sg r1 r2 r3 r4 r5 r6 = some z ∧ q.1 = z.1 ∧ VS N lc lf ly nb B cam rows a q.2 := by
  obtain ⟨ru, g1, g2, -, -, g5, -⟩ := learn_vs hN h sv ys
  obtain ⟨z, z1, z2⟩ := mov_r hN h rt rh r1 r2 r3 r4 r5 r6
  have ham : am = nI a ∧ a ≤ 30 := ⟨h.2.2.2.2.1, h.2.2.2.2.2.1⟩
  obtain ⟨r, e1, e2⟩ := few_c N a (by omega) ham.2 lv g2
  unfold fX9_moved
  rw [g1, Option.bind_some, ham.1, e1, Option.bind_some, z1]
  exact ⟨_, _, rfl, rfl, ftl_one e2 z2, g5⟩
