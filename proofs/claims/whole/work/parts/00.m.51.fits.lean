/-! all that a question about views stands on -/
def PV (N : Nat) (lc w1 wx wd wh items : Int32) (nb lf ly im it B bl cam rows xs zs us ws tys fb os : Nat → Int32) (flown kn tt tx tl hf known stale am lv : Int32) (sm sg ou : Nat → Int32) (a : Nat) : Prop := RLw lc w1 wx wd wh items nb lf ly im it ∧ (∀ k, k < 6 → bl k = B k) ∧ RF N lc lf ly nb B flown kn tt tx tl hf xs zs us ws tys ∧ RV nb B cam rows a known stale fb os ∧ am = nI a ∧ a ≤ 30 ∧ sm 0 = nI a ∧ ou 0 = lv ∧ ∀ i, i < a → SRw rows sg (6 * i) (6 * i)
def VS (N : Nat) (lc : Int32) (lf ly nb B cam rows : Nat → Int32) (a : Nat) (v : Int32 × Int32 × Int32 × Int32 × Int32 × Int32 × Int32 × (Nat → Int32) × (Nat → Int32) × (Nat → Int32) × (Nat → Int32) × (Nat → Int32) × (Nat → Int32) × Int32 × Int32 × (Nat → Int32) × (Nat → Int32)) : Prop := RF N lc lf ly nb B v.1 v.2.1 v.2.2.2.1 v.2.2.2.2.1 v.2.2.2.2.2.1 v.2.2.2.2.2.2.1 v.2.2.2.2.2.2.2.2.2.2.1 v.2.2.2.2.2.2.2.2.2.2.2.2.1 v.2.2.2.2.2.2.2.2.1 v.2.2.2.2.2.2.2.2.2.1 v.2.2.2.2.2.2.2.1 ∧ RV nb B cam rows a v.2.2.2.2.2.2.2.2.2.2.2.2.2.1 v.2.2.2.2.2.2.2.2.2.2.2.2.2.2.1 v.2.2.2.2.2.2.2.2.2.2.2.2.2.2.2.1 v.2.2.2.2.2.2.2.2.2.2.2.2.2.2.2.2
theorem gr_of {rows sg : Nat → Int32} {i j : Nat} (h : SRw rows sg (6 * i) j) : GR rows i := by
  obtain ⟨-, h2, h3⟩ := h
  refine ⟨h2, ?_⟩
  rcases h3 with ⟨y, -, -, -, -, y1, y2⟩ | ⟨y, -⟩ | ⟨y, -, -, -, -, -, y1⟩
  · exact Or.inl ⟨y, y1, y2⟩
  · exact Or.inr (Or.inl y)
  · exact Or.inr (Or.inr ⟨y, y1⟩)
theorem learn_vs {N : Nat} (hN : 1000 < N) {lc w1 wx wd wh items flown kn tt tx tl hf known stale am lv : Int32} {nb lf ly im it B bl cam rows xs zs us ws tys fb os sm sg ou : Nat → Int32} {a : Nat} (h : PV N lc w1 wx wd wh items nb lf ly im it B bl cam rows xs zs us ws tys fb os flown kn tt tx tl hf known stale am lv sm sg ou a) (sv : Int32) (ys : Nat → Int32) : ∃ ru, fX7_learn N known stale fb flown kn sv tt tx tl hf lc lf ly nb tys us ws xs ys zs cam am rows B os = some ru ∧ (∀ c, c < 189 → ru.2.2.1 c = nI (msk (fitB nb B cam rows c) a)) ∧ (∀ c, c < 189 → ∀ m, m ≤ 3 → ru.2.2.2.2.2.2.2.2.2.2.2.2.2.2.2.2 (189 * m + c) = osB nb B cam rows c m a) ∧ FL nb B (paG N lc lf ly) ru.2.2.2.2.2.2.1 ru.2.2.2.2.2.2.2.1 ru.2.2.2.2.2.2.2.2.1 ru.2.2.2.2.2.2.2.2.2.1 ru.2.2.2.2.2.2.2.2.2.2.2.1 ru.2.2.2.2.2.2.2.2.2.2.2.2.1 ru.2.2.2.2.2.2.2.2.2.2.2.2.2.1 ru.2.2.2.2.2.2.2.2.2.2.2.2.2.2.2.1 ∧ VS N lc lf ly nb B cam rows a (ru.2.2.2.1, ru.2.2.2.2.1, ru.2.2.2.2.2.1, ru.2.2.2.2.2.2.1, ru.2.2.2.2.2.2.2.1, ru.2.2.2.2.2.2.2.2.1, ru.2.2.2.2.2.2.2.2.2.1, ru.2.2.2.2.2.2.2.2.2.2.1, ru.2.2.2.2.2.2.2.2.2.2.2.1, ru.2.2.2.2.2.2.2.2.2.2.2.2.1, ru.2.2.2.2.2.2.2.2.2.2.2.2.2.1, ru.2.2.2.2.2.2.2.2.2.2.2.2.2.2.1, ru.2.2.2.2.2.2.2.2.2.2.2.2.2.2.2.1, ru.1, ru.2.1, ru.2.2.1, ru.2.2.2.2.2.2.2.2.2.2.2.2.2.2.2.2) ∧ ru.2.2.2.1 = 1 := by
  obtain ⟨h1, h2, h3, h4, rfl, h6, h7, h8, h9⟩ := h
  obtain ⟨ru, g1, g2, g3, g4, g5, g6, g7⟩ := learn_c2 N hN (sv := sv) (ys := ys) h1 h3 h6 (fun i hi => gr_of (h9 i hi)) h4
  exact ⟨ru, g1, fun c hc => (g4 c hc).1, fun c hc m hm => (g4 c hc).2 m hm, g5, ⟨g6, Or.inl g3, a, Nat.le_refl a, g2, fun z => absurd (g3.symm.trans z) (by decide), fun _ => g4⟩, g7⟩
theorem vs_old {N : Nat} {lc w1 wx wd wh items flown kn tt tx tl hf known stale am lv : Int32} {nb lf ly im it B bl cam rows xs zs us ws tys fb os sm sg ou : Nat → Int32} {a : Nat} (h : PV N lc w1 wx wd wh items nb lf ly im it B bl cam rows xs zs us ws tys fb os flown kn tt tx tl hf known stale am lv sm sg ou a) (sv : Int32) (ys : Nat → Int32) : VS N lc lf ly nb B cam rows a (flown, kn, sv, tt, tx, tl, hf, tys, us, ws, xs, ys, zs, known, stale, fb, os) := ⟨h.2.2.1, h.2.2.2.1⟩
theorem lays {N : Nat} (hN : 1000 < N) {lc w1 wx wd wh items flown kn tt tx tl hf known stale am lv : Int32} {nb lf ly im it B bl cam rows xs zs us ws tys fb os sm sg ou : Nat → Int32} {a : Nat} (h : PV N lc w1 wx wd wh items nb lf ly im it B bl cam rows xs zs us ws tys fb os flown kn tt tx tl hf known stale am lv sm sg ou a) (c : Nat) (rt rh : Int32) (r1 r2 r3 r4 r5 r6 : Nat → Int32) : ∃ ru, fX10_layCurve N (nI c) rt rh bl im it r1 r2 r3 r4 r5 r6 = some ru ∧ LC nb B c ru.1 ru.2.1 ru.2.2.1 ru.2.2.2.1 ru.2.2.2.2.1 ru.2.2.2.2.2.1 ru.2.2.2.2.2.2.1 ru.2.2.2.2.2.2.2 ∧ (fX10_fitsAll N (ou 0) 0 ru.1 cam sm sg ru.2.2.2.2.2.1 ru.2.2.2.2.2.2.1 ru.2.2.2.2.2.2.2 = some (if allB (aq rows lv) (fitB nb B cam rows c) a = true then 1 else 0)) ∧ (fX10_fitsAll N (ou 0) 1 ru.1 cam sm sg ru.2.2.2.2.2.1 ru.2.2.2.2.2.2.1 ru.2.2.2.2.2.2.2 = some (if allB (bq rows lv) (fitB nb B cam rows c) a = true then 1 else 0)) := by
  obtain ⟨h1, h2, h3, h4, rfl, h6, h7, h8, h9⟩ := h
  obtain ⟨ru, l1, l2⟩ := lay_r N hN nb B c im it bl (rl_law (by omega) h1) h2 rt rh r1 r2 r3 r4 r5 r6
  rw [h8]
  exact ⟨ru, l1, l2, all_r N c a (by omega) h6 h7 h9 l2 lv 0 _ (Or.inl ⟨rfl, rfl⟩), all_r N c a (by omega) h6 h7 h9 l2 lv 1 _ (Or.inr ⟨rfl, rfl⟩)⟩
theorem wi_i {v lo : Int32} {a : Nat} (ha : a ≤ 30) (h : ¬ wi v lo (nI a - 1) = 0) (h0 : 0 ≤ v) : ∃ i, i < a ∧ v = nI i := by
  have b := (wi_yes h).2
  have e1 : (1 : Int32).toInt = 1 := rfl
  have e0 : (0 : Int32).toInt = 0 := rfl
  have ea : (nI a).toInt = (a : Int) := nI_toInt (by omega)
  have es : (nI a - 1).toInt = (a : Int) - 1 := by rw [fb_subI, ea, e1] <;> rw [ea, e1] <;> omega
  have h0' := h0
  rw [fa_le, e0] at h0'
  obtain ⟨j, hj, rfl⟩ := nI_of (x := v) (fun z => by rw [fa_lt, e0] at z; omega)
  refine ⟨j, ?_, rfl⟩
  have ej : (nI j).toInt = (j : Int) := nI_toInt hj
  omega
theorem msk_one {a i : Nat} (hi : i < a) : msk (fun j => decide (j = i)) a = 2 ^ i := by
  apply Nat.eq_of_testBit_eq
  intro j
  rw [msk_bit, Nat.testBit_two_pow]
  by_cases e : j = i
  · subst e; simp [hi]
  · simp [e, Ne.symm e]
theorem fits_eq (N : Nat) (hN : 1000 < N) (a1 a2 : Int32) {lc w1 wx wd wh items flown kn tt tx tl hf known stale am lv : Int32} {nb lf ly im it B bl cam rows xs zs us ws tys fb os sm sg ou : Nat → Int32} {a : Nat} (h : PV N lc w1 wx wd wh items nb lf ly im it B bl cam rows xs zs us ws tys fb os flown kn tt tx tl hf known stale am lv sm sg ou a) (sv : Int32) (ys : Nat → Int32) (rt rh : Int32) (r1 r2 r3 r4 r5 r6 : Nat → Int32) : ∃ q z, fX9_fits N a1 a2 flown kn sv tt tx tl hf tys us ws xs ys zs lc lf ly nb cam am lv rows B known stale fb os = some q ∧ fX10_fits N a1 a2 rt rh bl cam im it ou sm sg r1 r2 r3 r4 r5 r6 = some z ∧ q.1 = z.1 ∧ VS N lc lf ly nb B cam rows a q.2 := by
  have v0 := vs_old h sv ys
  obtain ⟨ru, g1, g2, -, -, g5, -⟩ := learn_vs hN h sv ys
  have hL := fun c => lays hN h c rt rh r1 r2 r3 r4 r5 r6
  obtain ⟨h1, h2, h3, h4, rfl, h6, h7, h8, h9⟩ := h
  unfold fX9_fits fX10_fits fX8_leftOut
  rw [(curve_d N a1).1, (curve_d N a1).2, Option.bind_some, Option.bind_some, g1]
  by_cases c1 : wi a1 0 188 = 0
  · rw [if_pos c1, if_pos c1]; exact ⟨_, _, rfl, rfl, rfl, v0⟩
  · rw [if_neg c1, if_neg c1, show fX8_sightCount N (nI a) = some (nI a) from rfl, sb_cl0, h7]
    simp only [Option.bind_some, wi_def, in_def N a2 (-1) (nI a - 1) (-1) _ rfl rfl]
    by_cases c2 : wi a2 (-1) (nI a - 1) = 0
    · rw [if_neg (fun z => z c2), if_neg (fun z => z c2)]; exact ⟨_, _, rfl, rfl, rfl, v0⟩
    · rw [if_pos c2, if_pos c2]
      obtain ⟨c, hc, rfl⟩ := wi_ok (m := 188) (by decide) c1
      obtain ⟨rv, l1, l2, l3, -⟩ := hL c
      rw [l1]
      simp only [jn, Option.bind_some]
      by_cases c3 : 0 ≤ a2
      · obtain ⟨i, hi, rfl⟩ := wi_i h6 c2 c3
        rw [if_pos c3, if_pos c3, shl_1 i (by omega), ← msk_one hi, agr_c N c a (by omega) h6 _ _ _ (g2 c (by omega)), now_r N i c (by omega) (h9 i hi) l2, Option.bind_some, Option.bind_some]
        have e : allB (fun j => decide (j = i)) (fitB nb B cam rows c) a = fitB nb B cam rows c i := by
          cases e2 : fitB nb B cam rows c i with
          | true =>
            refine (allB_iff _ _ a).mpr (fun j hj hq => ?_)
            have := of_decide_eq_true hq
            subst this; exact e2
          | false =>
            cases e3 : allB (fun j => decide (j = i)) (fitB nb B cam rows c) a with
            | false => rfl
            | true => rw [(allB_iff _ _ a).mp e3 i hi (decide_eq_true rfl)] at e2; exact absurd e2 (by decide)
        rw [e]
        cases fitB nb B cam rows c i with
        | true => exact ⟨_, _, rfl, rfl, rfl, g5⟩
        | false => exact ⟨_, _, rfl, rfl, rfl, g5⟩
      · rw [if_neg c3, if_neg c3, asi_c N a (by omega) h6, Option.bind_some, agr_c N c a (by omega) h6 _ _ _ (g2 c (by omega)), l3, Option.bind_some, Option.bind_some]
        cases allB (aq rows lv) (fitB nb B cam rows c) a with
        | true => exact ⟨_, _, rfl, rfl, rfl, g5⟩
        | false => exact ⟨_, _, rfl, rfl, rfl, g5⟩
theorem fit1_r {N : Nat} (hN : 1000 < N) {lc w1 wx wd wh items flown kn tt tx tl hf known stale am lv : Int32} {nb lf ly im it B bl cam rows xs zs us ws tys fb os sm sg ou : Nat → Int32} {a : Nat} (h : PV N lc w1 wx wd wh items nb lf ly im it B bl cam rows xs zs us ws tys fb os flown kn tt tx tl hf known stale am lv sm sg ou a) (y : Int32) (K : Int32 → Int32 → Int32 → (Nat → Int32) → (Nat → Int32) → (Nat → Int32) → (Nat → Int32) → (Nat → Int32) → (Nat → Int32) → Option (Int32 × Int32 × Int32 × (Nat → Int32) × (Nat → Int32) × (Nat → Int32) × (Nat → Int32) × (Nat → Int32) × (Nat → Int32))) (hy : y < 0) (rt rh : Int32) (r1 r2 r3 r4 r5 r6 : Nat → Int32) : ∃ s : Int32 × Int32 × (Nat → Int32) × (Nat → Int32) × (Nat → Int32) × (Nat → Int32) × (Nat → Int32) × (Nat → Int32), fX10_fitting_p11 N y bl cam im it ou sm sg K N 0 0 rt rh r1 r2 r3 r4 r5 r6 = K (nI (fb_ct (fun c => allB (aq rows lv) (fitB nb B cam rows c) a) 189)) s.1 s.2.1 s.2.2.1 s.2.2.2.1 s.2.2.2.2.1 s.2.2.2.2.2.1 s.2.2.2.2.2.2.1 s.2.2.2.2.2.2.2 := by
  refine loopR (fun m (s : Int32 × Int32 × (Nat → Int32) × (Nat → Int32) × (Nat → Int32) × (Nat → Int32) × (Nat → Int32) × (Nat → Int32)) c => fX10_fitting_p11 N y bl cam im it ou sm sg K m (nI (fb_ct (fun c => allB (aq rows lv) (fitB nb B cam rows c) a) c)) (nI c) s.1 s.2.1 s.2.2.1 s.2.2.2.1 s.2.2.2.2.1 s.2.2.2.2.2.1 s.2.2.2.2.2.2.1 s.2.2.2.2.2.2.2) (fun _ _ => True) 189 (fun o => ∃ s : Int32 × Int32 × (Nat → Int32) × (Nat → Int32) × (Nat → Int32) × (Nat → Int32) × (Nat → Int32) × (Nat → Int32), o = K (nI (fb_ct (fun c => allB (aq rows lv) (fitB nb B cam rows c) a) 189)) s.1 s.2.1 s.2.2.1 s.2.2.2.1 s.2.2.2.2.1 s.2.2.2.2.2.1 s.2.2.2.2.2.2.1 s.2.2.2.2.2.2.2) (fun m s _ => ?_) (fun m s c hc _ => ?_) N 0 (rt, rh, r1, r2, r3, r4, r5, r6) (by decide) (by omega) trivial
  · rw [fX10_fitting_p11, if_pos (show (189 : Int32) ≤ nI 189 by decide)]
    exact ⟨s, rfl⟩
  · obtain ⟨ru, l1, l2, l3, -⟩ := lays hN h c s.1 s.2.1 s.2.2.1 s.2.2.2.1 s.2.2.2.2.1 s.2.2.2.2.2.1 s.2.2.2.2.2.2.1 s.2.2.2.2.2.2.2
    refine ⟨ru, trivial, ?_⟩
    rw [fX10_fitting_p11, if_neg (show ¬ (189 : Int32) ≤ nI c from nI_ge (b := 189) hc (by decide)), l1, Option.bind_some, sb_cl0, l3, Option.bind_some, nI_1, fb_ct_succ]
    simp only [jn]
    by_cases d : allB (aq rows lv) (fitB nb B cam rows c) a = true
    · have hb := fb_ct_le (fun c => allB (aq rows lv) (fitB nb B cam rows c) a) c
      rw [if_pos d, if_neg (show ¬ (1 : Int32) = 0 by decide), if_pos (fun z => nI_pos (show fb_ct (fun c => allB (aq rows lv) (fitB nb B cam rows c) a) c < 2 ^ 31 by omega) (by rw [z]; exact hy)), nI_1, if_pos d]
    · simp only [if_neg d, if_true, Nat.add_zero]
theorem fit2_r {N : Nat} (hN : 1000 < N) {lc w1 wx wd wh items flown kn tt tx tl hf known stale am lv : Int32} {nb lf ly im it B bl cam rows xs zs us ws tys fb os sm sg ou : Nat → Int32} {a : Nat} (h : PV N lc w1 wx wd wh items nb lf ly im it B bl cam rows xs zs us ws tys fb os flown kn tt tx tl hf known stale am lv sm sg ou a) (y : Int32) (K : Int32 → Int32 → Int32 → (Nat → Int32) → (Nat → Int32) → (Nat → Int32) → (Nat → Int32) → (Nat → Int32) → (Nat → Int32) → Option (Int32 × Int32 × Int32 × (Nat → Int32) × (Nat → Int32) × (Nat → Int32) × (Nat → Int32) × (Nat → Int32) × (Nat → Int32))) (hK : ∀ x t u v1 v2 v3 v4 v5 v6, ∃ z, K x t u v1 v2 v3 v4 v5 v6 = some z ∧ z.1 = -4) : ∀ (k c b n : Nat) (rt rh : Int32) (r1 r2 r3 r4 r5 r6 : Nat → Int32), c + k = 189 → k < n → ∃ z, fX10_fitting_p11 N y bl cam im it ou sm sg K n (nI b) (nI c) rt rh r1 r2 r3 r4 r5 r6 = some z ∧ z.1 = pat (fun c => allB (aq rows lv) (fitB nb B cam rows c) a) y k c b := by
  intro k
  induction k with
  | zero =>
    intro c b n rt rh r1 r2 r3 r4 r5 r6 h1 h2
    obtain ⟨n, rfl⟩ : ∃ z, n = z + 1 := ⟨n - 1, by omega⟩
    have e : c = 189 := by omega
    subst e
    rw [fX10_fitting_p11, if_pos (show (189 : Int32) ≤ nI 189 by decide)]
    exact hK _ _ _ _ _ _ _ _ _
  | succ k ih =>
    intro c b n rt rh r1 r2 r3 r4 r5 r6 h1 h2
    obtain ⟨n, rfl⟩ : ∃ z, n = z + 1 := ⟨n - 1, by omega⟩
    obtain ⟨ru, l1, l2, l3, -⟩ := lays hN h c rt rh r1 r2 r3 r4 r5 r6
    rw [fX10_fitting_p11, if_neg (show ¬ (189 : Int32) ≤ nI c from nI_ge (b := 189) (by omega) (by decide)), l1, Option.bind_some, sb_cl0, l3, Option.bind_some, nI_1, nI_1, pat]
    simp only [jn]
    by_cases d : allB (aq rows lv) (fitB nb B cam rows c) a = true
    · rw [if_pos d, if_neg (show ¬ (1 : Int32) = 0 by decide), if_pos d]
      by_cases e : nI b = y
      · rw [if_neg (fun z => z e), if_pos e]
        exact ⟨_, rfl, rfl⟩
      · rw [if_pos e, if_neg e]
        exact ih (c + 1) (b + 1) n _ _ _ _ _ _ _ _ (by omega) (by omega)
    · rw [if_neg d, if_pos rfl, if_neg d]
      exact ih (c + 1) b n _ _ _ _ _ _ _ _ (by omega) (by omega)
theorem fitting_eq (N : Nat) (hN : 1000 < N) (a1 : Int32) {lc w1 wx wd wh items flown kn tt tx tl hf known stale am lv : Int32} {nb lf ly im it B bl cam rows xs zs us ws tys fb os sm sg ou : Nat → Int32} {a : Nat} (h : PV N lc w1 wx wd wh items nb lf ly im it B bl cam rows xs zs us ws tys fb os flown kn tt tx tl hf known stale am lv sm sg ou a) (sv : Int32) (ys : Nat → Int32) (rt rh : Int32) (r1 r2 r3 r4 r5 r6 : Nat → Int32) : ∃ q z, fX9_fitting N a1 flown kn sv tt tx tl hf tys us ws xs ys zs lc lf ly nb cam am lv rows B known stale fb os = some q ∧ fX10_fitting N a1 rt rh bl cam im it ou sm sg r1 r2 r3 r4 r5 r6 = some z ∧ q.1 = z.1 ∧ VS N lc lf ly nb B cam rows a q.2 := by
  have v0 := vs_old h sv ys
  obtain ⟨ru, g1, g2, -, -, g5, -⟩ := learn_vs hN h sv ys
  unfold fX9_fitting fX10_fitting fX8_leftOut
  rw [g1]
  by_cases c1 : (-1 : Int32) ≤ a1
  · rw [if_pos c1, if_pos c1, Option.bind_some, Option.bind_some]
    have ham : am = nI a ∧ a ≤ 30 := ⟨h.2.2.2.2.1, h.2.2.2.2.2.1⟩
    rw [ham.1, asi_c N a (by omega) ham.2, Option.bind_some]
    simp only [jn]
    by_cases c2 : 0 ≤ a1
    · obtain ⟨z, z1, z2⟩ := fit2_r hN h a1 (fun (x2_53 : Int32) (v0_touchTick_53 : Int32) (v0_touchHalf_53 : Int32) (c8_53 : Nat → Int32) (c9_53 : Nat → Int32) (c10_53 : Nat → Int32) (c11_53 : Nat → Int32) (c12_53 : Nat → Int32) (c13_53 : Nat → Int32) => (if 0 ≤ a1 then some ((-4 : Int32), v0_touchTick_53, v0_touchHalf_53, c8_53, c9_53, c10_53, c11_53, c12_53, c13_53) else some (x2_53, v0_touchTick_53, v0_touchHalf_53, c8_53, c9_53, c10_53, c11_53, c12_53, c13_53))) (fun x t u v1 v2 v3 v4 v5 v6 => by rw [if_pos c2]; exact ⟨_, rfl, rfl⟩) 189 0 0 N rt rh r1 r2 r3 r4 r5 r6 (by decide) (by omega)
      rw [if_pos c2, agt_c N a (by omega) ham.2 _ _ _ _ g2, Option.bind_some]
      exact ⟨_, z, rfl, z1, z2.symm, g5⟩
    · have hy : a1 < 0 := fa_of_nle c2
      obtain ⟨s, s1⟩ := fit1_r hN h a1 (fun (x2_53 : Int32) (v0_touchTick_53 : Int32) (v0_touchHalf_53 : Int32) (c8_53 : Nat → Int32) (c9_53 : Nat → Int32) (c10_53 : Nat → Int32) (c11_53 : Nat → Int32) (c12_53 : Nat → Int32) (c13_53 : Nat → Int32) => (if 0 ≤ a1 then some ((-4 : Int32), v0_touchTick_53, v0_touchHalf_53, c8_53, c9_53, c10_53, c11_53, c12_53, c13_53) else some (x2_53, v0_touchTick_53, v0_touchHalf_53, c8_53, c9_53, c10_53, c11_53, c12_53, c13_53))) hy rt rh r1 r2 r3 r4 r5 r6
      rw [if_neg c2, agg_c N a (by omega) ham.2 _ _ _ g2, Option.bind_some, s1, if_neg c2]
      exact ⟨_, _, rfl, rfl, rfl, g5⟩
  · rw [if_neg c1, if_neg c1]
    exact ⟨_, _, rfl, rfl, rfl, v0⟩
