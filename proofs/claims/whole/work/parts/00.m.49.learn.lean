/-! looking at the sights that came since the last time -/
def osB (L B cam rows : Nat → Int32) (c m : Nat) : Nat → Int32
  | 0 => 0
  | i + 1 => osB L B cam rows c m i + (if rows (6 * i) = 0 ∧ rows (6 * i + 1) = nI m then obB L B cam rows c i else 0)
def FBo (L B cam rows : Nat → Int32) (k : Nat) (fb os : Nat → Int32) (c : Nat) : Prop := fb c = nI (msk (fitB L B cam rows c) k) ∧ ∀ m, m ≤ 3 → os (189 * m + c) = osB L B cam rows c m k
def VB (L B cam rows : Nat → Int32) (k : Nat) (fb os : Nat → Int32) : Prop := ∀ c, c < 189 → FBo L B cam rows k fb os c
def RV (L B cam rows : Nat → Int32) (a : Nat) (known stale : Int32) (fb os : Nat → Int32) : Prop := (stale = 0 ∨ stale = 1) ∧ ∃ k : Nat, k ≤ a ∧ known = nI k ∧ (stale = 1 → k = 0) ∧ (stale = 0 → VB L B cam rows k fb os)
theorem rv_new (L B cam rows : Nat → Int32) (a : Nat) (fb os : Nat → Int32) : RV L B cam rows a 0 1 fb os := ⟨Or.inr rfl, 0, Nat.zero_le a, rfl, fun _ => rfl, fun h => absurd h (by decide)⟩
theorem fill_c (N n : Nat) (hn : n < N) (hn2 : n < 2 ^ 31) (f : Nat → Int32) : ∃ g, fJ7_fill_53178 N n 0 f = some g ∧ ∀ j, j < n → g j = 0 := by
  unfold fJ7_fill_53178
  simp only [jn]
  refine loopR (fun m (q : Nat → Int32) i => fJ7_fill_53178_p5 N n 0 (Int32.ofNat n) (fun c => some c) m (nI i) q) (fun i q => ∀ j, j < i → q j = 0) n (fun o => ∃ g, o = some g ∧ ∀ j, j < n → g j = 0) (fun m q hI => ?_) (fun m q i hi hI => ?_) N 0 f (Nat.zero_le n) (by omega) (fun j hj => absurd hj (Nat.not_lt_zero j))
  · rw [fJ7_fill_53178_p5, if_pos (show Int32.ofNat n ≤ nI n from nI_le (Nat.le_refl n) hn2)]
    exact ⟨q, rfl, hI⟩
  · refine ⟨upd q i 0, fun j hj => ?_, ?_⟩
    · by_cases c : j = i
      · subst c; exact pk_us
      · exact (pk_un c).trans (hI j (by omega))
    · rw [fJ7_fill_53178_p5, if_neg (show ¬ Int32.ofNat n ≤ nI i from nI_ge hi hn2), if_pos (ixb_nI hi hn2), nI_1, nI_clamp (by omega)]
theorem lut_c (N k a : Nat) (hN : 100 < N) (hk : k ≤ a) (ha : a ≤ 30) (rows : Nat → Int32) (hG : ∀ i, i < a → GR rows i) : ∃ l : Nat, l ≤ 600 ∧ fX7_lastUnknownTick N (nI k) (nI a) rows = some (nI l) ∧ ∀ i, k ≤ i → i < a → rows (6 * i) = 0 → ∀ j : Nat, rows (6 * i + 3) = nI j → j ≤ 600 → j ≤ l := by
  unfold fX7_lastUnknownTick
  simp only [jn]
  refine loopR (fun m (q : Nat) i => fX7_lastUnknownTick_p7 N (nI a) rows (fun x => some x) m (nI q) (nI i)) (fun e q => k ≤ e ∧ q ≤ 600 ∧ ∀ i, k ≤ i → i < e → rows (6 * i) = 0 → ∀ j : Nat, rows (6 * i + 3) = nI j → j ≤ 600 → j ≤ q) a (fun o => ∃ l : Nat, l ≤ 600 ∧ o = some (nI l) ∧ ∀ i, k ≤ i → i < a → rows (6 * i) = 0 → ∀ j : Nat, rows (6 * i + 3) = nI j → j ≤ 600 → j ≤ l) (fun m q hI => ?_) (fun m q i hi hI => ?_) N k 0 hk (by omega) ⟨Nat.le_refl k, by decide, fun i h1 h2 => absurd h1 (by omega)⟩
  · rw [fX7_lastUnknownTick_p7, show fX8_sightCount N (nI a) = some (nI a) from rfl, Option.bind_some, if_pos (nI_le (Nat.le_refl a) (by omega))]
    exact ⟨q, hI.2.1, rfl, hI.2.2⟩
  · obtain ⟨h1, h2, h3⟩ := hI
    obtain ⟨p0, -, -, -, p4, -⟩ := srow_c N i a hi ha rows
    rw [fX7_lastUnknownTick_p7, show fX8_sightCount N (nI a) = some (nI a) from rfl, Option.bind_some, if_neg (nI_ge hi (by omega)), p0, p4, Option.bind_some]
    simp only [jn, Option.bind_some, nI_1]
    by_cases c : rows (6 * i) = 0
    · rw [if_pos c, if_neg (show ¬ (1 : Int32) = 0 by decide)]
      rcases (hG i hi).2 with ⟨-, -, t, ht, et⟩ | z | ⟨z, -⟩
      · rw [et]
        by_cases d : q < t
        · rw [if_pos (nI_lt d (by omega))]
          refine ⟨t, ⟨by omega, ht, fun i' g1 g2 g3 j g4 g5 => ?_⟩, rfl⟩
          by_cases e : i' = i
          · subst e
            have := (nI_eq (by omega) (by omega)).mp (et.symm.trans g4)
            omega
          · have := h3 i' g1 (by omega) g3 j g4 g5
            omega
        · rw [if_neg (nI_nlt (by omega) (by omega))]
          refine ⟨q, ⟨by omega, h2, fun i' g1 g2 g3 j g4 g5 => ?_⟩, rfl⟩
          by_cases e : i' = i
          · subst e
            have := (nI_eq (by omega) (by omega)).mp (et.symm.trans g4)
            omega
          · exact h3 i' g1 (by omega) g3 j g4 g5
      · exact absurd (c.symm.trans z) (by decide)
      · exact absurd (c.symm.trans z) (by decide)
    · rw [if_neg c, if_pos rfl]
      refine ⟨q, ⟨by omega, h2, fun i' g1 g2 g3 j g4 g5 => ?_⟩, rfl⟩
      by_cases e : i' = i
      · subst e; exact absurd g3 c
      · exact h3 i' g1 (by omega) g3 j g4 g5
theorem nt_c (N k a : Nat) (hN : 100 < N) (hk : k ≤ a) (ha : a ≤ 30) (rows : Nat → Int32) : ∃ r, fX7_needsTouch N (nI k) (nI a) rows = some r ∧ (r = 0 ∨ r = 1) ∧ (r = 0 → ∀ i, k ≤ i → i < a → rows (6 * i) = 0) := by
  unfold fX7_needsTouch
  obtain ⟨n, hn, e⟩ : ∃ n, a - k < n ∧ n = N := ⟨N, by omega, rfl⟩
  have key : ∀ (n i : Nat), i ≤ a → a - i < n → k ≤ i → (∀ i', k ≤ i' → i' < i → rows (6 * i') = 0) → ∃ r, fX7_needsTouch_p5 N (nI a) rows n (nI i) = some r ∧ (r = 0 ∨ r = 1) ∧ (r = 0 → ∀ i, k ≤ i → i < a → rows (6 * i) = 0) := by
    intro n
    induction n with
    | zero => intro i h1 h2; exact absurd h2 (Nat.not_lt_zero _)
    | succ n ih =>
      intro i h1 h2 h3 h4
      rw [fX7_needsTouch_p5, show fX8_sightCount N (nI a) = some (nI a) from rfl, Option.bind_some]
      rcases Nat.lt_or_ge i a with q | q
      · rw [if_neg (nI_ge q (by omega)), (srow_c N i a q ha rows).1, Option.bind_some]
        by_cases c : rows (6 * i) = 0
        · rw [if_pos c, if_pos (show ¬ (1 : Int32) = 0 by decide), nI_1]
          refine ih (i + 1) q (by omega) (by omega) (fun i' g1 g2 => ?_)
          by_cases e : i' = i
          · subst e; exact c
          · exact h4 i' g1 (by omega)
        · rw [if_neg c, if_neg (fun z => z rfl)]
          exact ⟨1, rfl, Or.inr rfl, fun z => absurd z (by decide)⟩
      · have e : i = a := by omega
        subst e
        rw [if_pos (nI_le (Nat.le_refl i) (by omega))]
        exact ⟨0, rfl, Or.inl rfl, fun _ => h4⟩
  exact key N k hk (by omega) (Nat.le_refl k) (fun i' g1 g2 => absurd g1 (by omega))
theorem lin_c (N : Nat) (hN : 100 < N) {L B cam rows tys xs ys zs : Nat → Int32} {c a k l : Nat} (hc : c < 189) (hk : k ≤ a) (ha : a ≤ 30) (hG : ∀ i, i < a → GR rows i) (y1 tch tt tx : Int32)
    (hxs : ∀ j, j ≤ 600 → xs j = (fsq L B j).1 ∧ zs j = (fsq L B j).2.1)
    (hys : ∀ j, j ≤ l → ys j = (sd L B c j).2)
    (hl : ∀ i, k ≤ i → i < a → rows (6 * i) = 0 → ∀ j : Nat, rows (6 * i + 3) = nI j → j ≤ 600 → j ≤ l)
    (htch : ∀ i, k ≤ i → i < a → ¬ rows (6 * i) = 0 → (tch = 0 ∧ (fT L B).1 = 0) ∨ (¬ tch = 0 ∧ ¬ (fT L B).1 = 0 ∧ tt = nI (fT L B).1 ∧ tx = (fsq L B (fT L B).1).1 ∧ tys c = (sd L B c (fT L B).1).2))
    (fb os : Nat → Int32) (h0 : FBo L B cam rows k fb os c) (K : (Nat → Int32) → (Nat → Int32) → Option ((Int32) × (Int32) × (Nat → Int32) × (Int32) × (Int32) × (Int32) × (Int32) × (Int32) × (Int32) × (Int32) × (Nat → Int32) × (Nat → Int32) × (Nat → Int32) × (Nat → Int32) × (Nat → Int32) × (Nat → Int32) × (Nat → Int32))) :
    ∃ fb' os', fX7_learn_p113 N y1 tch (nI c) tt tx tys xs ys zs cam (nI a) rows K N (nI k) fb os = K fb' os' ∧ FBo L B cam rows a fb' os' c ∧ ∀ c', c' < 189 → c' ≠ c → fb' c' = fb c' ∧ ∀ m, m ≤ 3 → os' (189 * m + c') = os (189 * m + c') := by
  refine loopR (fun m (q : (Nat → Int32) × (Nat → Int32)) i => fX7_learn_p113 N y1 tch (nI c) tt tx tys xs ys zs cam (nI a) rows K m (nI i) q.1 q.2) (fun i q => k ≤ i ∧ FBo L B cam rows i q.1 q.2 c ∧ ∀ c', c' < 189 → c' ≠ c → q.1 c' = fb c' ∧ ∀ m, m ≤ 3 → q.2 (189 * m + c') = os (189 * m + c')) a (fun o => ∃ fb' os', o = K fb' os' ∧ FBo L B cam rows a fb' os' c ∧ ∀ c', c' < 189 → c' ≠ c → fb' c' = fb c' ∧ ∀ m, m ≤ 3 → os' (189 * m + c') = os (189 * m + c')) (fun m q hI => ?_) (fun m q i hi hI => ?_) N k (fb, os) hk (by omega) ⟨Nat.le_refl k, h0, fun _ _ _ => ⟨rfl, fun _ _ => rfl⟩⟩
  · rw [fX7_learn_p113, show fX8_sightCount N (nI a) = some (nI a) from rfl, Option.bind_some, if_pos (nI_le (Nat.le_refl a) (by omega))]
    exact ⟨q.1, q.2, rfl, hI.2⟩
  · obtain ⟨fq, oq⟩ := q
    obtain ⟨h1, ⟨h2, h3⟩, h4⟩ := hI
    dsimp only at h2 h3 h4
    have e := cmp_c N (L := L) (B := B) (cam := cam) (fb := fq) (os := oq) (tys := tys) (xs := xs) (ys := ys) (zs := zs) hc hi ha (hG i hi) tch tt tx hxs (fun z j z1 z2 => hys j (hl i h1 hi z j z1 z2)) (htch i h1 hi)
    rw [fX7_learn_p113, show fX8_sightCount N (nI a) = some (nI a) from rfl, Option.bind_some, if_neg (nI_ge hi (by omega)), e, Option.bind_some, nI_1]
    refine ⟨_, ⟨by omega, ⟨?_, fun m hm => ?_⟩, fun c' g1 g2 => ⟨?_, fun m hm => ?_⟩⟩, rfl⟩
    · dsimp only
      rw [msk]
      by_cases f : fitB L B cam rows c i = true
      · rw [if_pos f, if_pos f, pk_us, h2, fa_or]
      · rw [if_neg f, if_neg f, Nat.or_zero, h2]
    · dsimp only
      rw [osB, ← h3 m hm]
      by_cases z : rows (6 * i) = 0
      · rw [if_pos z]
        rcases (hG i hi).2 with ⟨-, ⟨cc, hcc, ec⟩, -⟩ | y | ⟨y, -⟩
        · rw [ec, nI_clamp (by omega)]
          by_cases e : cc = m
          · subst e
            rw [pk_us, if_pos ⟨z, rfl⟩]
          · rw [pk_un (by omega), if_neg (fun y => e ((nI_eq (by omega) (by omega)).mp y.2)), Int32.add_zero]
        · exact absurd (z.symm.trans y) (by decide)
        · exact absurd (z.symm.trans y) (by decide)
      · rw [if_neg z, if_neg (fun y => z y.1), Int32.add_zero]
    · dsimp only
      by_cases f : fitB L B cam rows c i = true
      · rw [if_pos f, pk_un g2]; exact (h4 c' g1 g2).1
      · rw [if_neg f]; exact (h4 c' g1 g2).1
    · dsimp only
      by_cases z : rows (6 * i) = 0
      · rw [if_pos z, pk_un (by omega)]; exact (h4 c' g1 g2).2 m hm
      · rw [if_neg z]; exact (h4 c' g1 g2).2 m hm

theorem learn_c' (N : Nat) (hN : 1000 < N) {L B cam rows tys xs ys zs : Nat → Int32} {a k l : Nat} (hk : k ≤ a) (ha : a ≤ 30) (hG : ∀ i, i < a → GR rows i) (tch tt tx sv : Int32) (hl600 : l ≤ 600)
    (hxs : ∀ j, j ≤ 600 → xs j = (fsq L B j).1 ∧ zs j = (fsq L B j).2.1)
    (hl : ∀ i, k ≤ i → i < a → rows (6 * i) = 0 → ∀ j : Nat, rows (6 * i + 3) = nI j → j ≤ 600 → j ≤ l)
    (htch : ∀ c, c < 189 → ∀ i, k ≤ i → i < a → ¬ rows (6 * i) = 0 → (tch = 0 ∧ (fT L B).1 = 0) ∨ (¬ tch = 0 ∧ ¬ (fT L B).1 = 0 ∧ tt = nI (fT L B).1 ∧ tx = (fsq L B (fT L B).1).1 ∧ tys c = (sd L B c (fT L B).1).2))
    (fb os : Nat → Int32) (h0 : VB L B cam rows k fb os) (K : (Nat → Int32) → (Int32) → (Nat → Int32) → (Nat → Int32) → Option ((Int32) × (Int32) × (Nat → Int32) × (Int32) × (Int32) × (Int32) × (Int32) × (Int32) × (Int32) × (Int32) × (Nat → Int32) × (Nat → Int32) × (Nat → Int32) × (Nat → Int32) × (Nat → Int32) × (Nat → Int32) × (Nat → Int32))) :
    ∃ fb' sv' ys' os', fX7_learn_p91 N (nI l) tch (nI k) tt tx L tys xs zs cam (nI a) rows B K N 0 fb sv ys os = K fb' sv' ys' os' ∧ VB L B cam rows a fb' os' := by
  refine loopR (fun m (q : (Nat → Int32) × Int32 × (Nat → Int32) × (Nat → Int32)) i => fX7_learn_p91 N (nI l) tch (nI k) tt tx L tys xs zs cam (nI a) rows B K m (nI i) q.1 q.2.1 q.2.2.1 q.2.2.2) (fun i q => (∀ c, c < i → FBo L B cam rows a q.1 q.2.2.2 c) ∧ ∀ c, i ≤ c → c < 189 → FBo L B cam rows k q.1 q.2.2.2 c) 189 (fun o => ∃ fb' sv' ys' os', o = K fb' sv' ys' os' ∧ VB L B cam rows a fb' os') (fun m q hI => ?_) (fun m q i hi hI => ?_) N 0 (fb, sv, ys, os) (by decide) (by omega) ⟨fun c hc => absurd hc (Nat.not_lt_zero c), fun c _ hc => h0 c hc⟩
  · rw [fX7_learn_p91, if_pos (show (189 : Int32) ≤ nI 189 by decide)]
    exact ⟨q.1, q.2.1, q.2.2.1, q.2.2.2, rfl, fun c hc => hI.1 c hc⟩
  · obtain ⟨fq, sq, yq, oq⟩ := q
    obtain ⟨h1, h2⟩ := hI
    dsimp only at h1 h2
    obtain ⟨rs, s1, s2, s3⟩ := side_c N hN L B i l hl600 sq yq
    rw [fX7_learn_p91, if_neg (show ¬ (189 : Int32) ≤ nI i from nI_ge (b := 189) hi (by decide)), s1, Option.bind_some]
    simp only [jn]
    obtain ⟨fb', os', e1, e2, e3⟩ := lin_c N (by omega) hi hk ha hG (nI l) tch tt tx hxs s3 hl (htch i hi) fq oq (h2 i (Nat.le_refl i) hi) (fun c1_139 c17_139 => fX7_learn_p91 N (nI l) tch (nI k) tt tx L tys xs zs cam (nI a) rows B K m (nI i + 1) c1_139 rs.1 rs.2 c17_139)
    rw [e1, nI_1]
    refine ⟨(fb', rs.1, rs.2, os'), ⟨fun c hc => ?_, fun c h3 h4 => ?_⟩, rfl⟩
    · by_cases q : c = i
      · subst q; exact e2
      · obtain ⟨g1, g2⟩ := e3 c (by omega) q
        obtain ⟨k1, k2⟩ := h1 c (by omega)
        exact ⟨g1.trans k1, fun m hm => (g2 m hm).trans (k2 m hm)⟩
    · obtain ⟨g1, g2⟩ := e3 c h4 (by omega)
      obtain ⟨k1, k2⟩ := h2 c (by omega) h4
      exact ⟨g1.trans k1, fun m hm => (g2 m hm).trans (k2 m hm)⟩
theorem learn_c2 (N : Nat) (hN : 1000 < N) {lc w1 wx wd wh items : Int32} {nb lf ly im it : Nat → Int32} (hR : RLw lc w1 wx wd wh items nb lf ly im it) {B cam rows xs zs us ws ys tys fb os : Nat → Int32} {flown kn sv tt tx tl hf known stale : Int32} (hF : RF N lc lf ly nb B flown kn tt tx tl hf xs zs us ws tys) {a : Nat} (ha : a ≤ 30) (hG : ∀ i, i < a → GR rows i) (hV : RV nb B cam rows a known stale fb os) : ∃ ru, fX7_learn N known stale fb flown kn sv tt tx tl hf lc lf ly nb tys us ws xs ys zs cam (nI a) rows B os = some ru ∧ ru.1 = nI a ∧ ru.2.1 = 0 ∧ VB nb B cam rows a ru.2.2.1 ru.2.2.2.2.2.2.2.2.2.2.2.2.2.2.2.2 ∧ FL nb B (paG N lc lf ly) ru.2.2.2.2.2.2.1 ru.2.2.2.2.2.2.2.1 ru.2.2.2.2.2.2.2.2.1 ru.2.2.2.2.2.2.2.2.2.1 ru.2.2.2.2.2.2.2.2.2.2.2.1 ru.2.2.2.2.2.2.2.2.2.2.2.2.1 ru.2.2.2.2.2.2.2.2.2.2.2.2.2.1 ru.2.2.2.2.2.2.2.2.2.2.2.2.2.2.2.1 ∧ RF N lc lf ly nb B ru.2.2.2.1 ru.2.2.2.2.1 ru.2.2.2.2.2.2.1 ru.2.2.2.2.2.2.2.1 ru.2.2.2.2.2.2.2.2.1 ru.2.2.2.2.2.2.2.2.2.1 ru.2.2.2.2.2.2.2.2.2.2.2.2.2.1 ru.2.2.2.2.2.2.2.2.2.2.2.2.2.2.2.1 ru.2.2.2.2.2.2.2.2.2.2.2.1 ru.2.2.2.2.2.2.2.2.2.2.2.2.1 ru.2.2.2.2.2.2.2.2.2.2.1 ∧ ru.2.2.2.1 = 1 := by
  obtain ⟨fu, g1, g2, g3, g4⟩ := fly_rf hN hR hF
  obtain ⟨hs, k, hk, rfl, v1, v2⟩ := hV
  have hT := fT_le nb B
  -- the rows, wiped if they are stale
  obtain ⟨fb1, os1, hfill, hVB⟩ : ∃ fb1 os1 : Nat → Int32, (∀ (X : Int32 → (Nat → Int32) → (Nat → Int32) → Option ((Int32) × (Int32) × (Nat → Int32) × (Int32) × (Int32) × (Int32) × (Int32) × (Int32) × (Int32) × (Int32) × (Nat → Int32) × (Nat → Int32) × (Nat → Int32) × (Nat → Int32) × (Nat → Int32) × (Nat → Int32) × (Nat → Int32))), jn X (fun k35 => (if stale = 0 then k35 stale fb os else ((fJ7_fill_53178 N 189 ((0 : Int32)) fb).bind (fun q19 => ((fJ7_fill_53178 N 756 ((0 : Int32)) os).bind (fun q27 => k35 ((0 : Int32)) q19 q27)))))) = X 0 fb1 os1) ∧ VB nb B cam rows k fb1 os1 := by
    rcases hs with rfl | rfl
    · exact ⟨fb, os, fun X => by show (if (0 : Int32) = 0 then X 0 fb os else ((fJ7_fill_53178 N 189 ((0 : Int32)) fb).bind (fun q19 => ((fJ7_fill_53178 N 756 ((0 : Int32)) os).bind (fun q27 => X ((0 : Int32)) q19 q27))))) = X 0 fb os; rw [if_pos rfl], v2 rfl⟩
    · obtain ⟨f1, f2, f3⟩ := fill_c N 189 (by omega) (by decide) fb
      obtain ⟨o1, o2, o3⟩ := fill_c N 756 (by omega) (by decide) os
      refine ⟨f1, o1, fun X => by show (if (1 : Int32) = 0 then X 1 fb os else ((fJ7_fill_53178 N 189 ((0 : Int32)) fb).bind (fun q19 => ((fJ7_fill_53178 N 756 ((0 : Int32)) os).bind (fun q27 => X ((0 : Int32)) q19 q27))))) = _; rw [if_neg (by decide), f2, Option.bind_some, o2, Option.bind_some], fun c hc => ?_⟩
      rw [v1 rfl]
      exact ⟨f3 c hc, fun m hm => o3 _ (by omega)⟩
  unfold fX7_learn
  rw [g1, Option.bind_some, hfill]
  simp only [jn]
  rw [show fX8_sightCount N (nI a) = some (nI a) from rfl, Option.bind_some]
  obtain ⟨k1, k2, k3⟩ := g3
  rcases Nat.lt_or_ge k a with q | q
  · rw [if_pos (nI_lt q (by omega))]
    obtain ⟨l, l1, l2, l3⟩ := lut_c N k a (by omega) hk ha rows hG
    obtain ⟨r, r1, r2, r3⟩ := nt_c N k a (by omega) hk ha rows
    rw [l2, Option.bind_some, r1, Option.bind_some]
    have hxs : ∀ j, j ≤ 600 → fu.2.2.2.2.2.2.2.1 j = (fsq nb B j).1 ∧ fu.2.2.2.2.2.2.2.2 j = (fsq nb B j).2.1 := fun j hj => ⟨(k3 j hj).1, (k3 j hj).2.1⟩
    rw [k1, touches_c N _ (show (fT nb B).1 < 2 ^ 31 by omega), Option.bind_some]
    rw [k1] at g4
    have notch : (r = 0 ∨ (fT nb B).1 = 0) → ∀ c, c < 189 → ∀ i, k ≤ i → i < a → ¬ rows (6 * i) = 0 → ((0 : Int32) = 0 ∧ (fT nb B).1 = 0) ∨ (¬ (0 : Int32) = 0 ∧ ¬ (fT nb B).1 = 0 ∧ nI (fT nb B).1 = nI (fT nb B).1 ∧ fu.2.2.1 = (fsq nb B (fT nb B).1).1 ∧ tys c = (sd nb B c (fT nb B).1).2) := fun h c hc i i1 i2 i3 => by
      rcases h with h | h
      · exact absurd (r3 h i i1 i2) i3
      · exact Or.inl ⟨rfl, h⟩
    have done0 : (r = 0 ∨ (fT nb B).1 = 0) → ∃ fb' sv' ys' os', (fX7_learn_p91 N (nI l) 0 (nI k) (nI (fT nb B).1) fu.2.2.1 nb tys fu.2.2.2.2.2.2.2.1 fu.2.2.2.2.2.2.2.2 cam (nI a) rows B (fun c1_145 v2_sideV_145 c11_145 c17_145 => (some (nI a)).bind (fun q150 => some (q150, (0 : Int32), c1_145, fu.1, kn, v2_sideV_145, nI (fT nb B).1, fu.2.2.1, fu.2.2.2.1, fu.2.2.2.2.1, tys, fu.2.2.2.2.2.1, fu.2.2.2.2.2.2.1, fu.2.2.2.2.2.2.2.1, c11_145, fu.2.2.2.2.2.2.2.2, c17_145))) N 0 fb1 sv ys os1) = some (nI a, 0, fb', fu.1, kn, sv', nI (fT nb B).1, fu.2.2.1, fu.2.2.2.1, fu.2.2.2.2.1, tys, fu.2.2.2.2.2.1, fu.2.2.2.2.2.2.1, fu.2.2.2.2.2.2.2.1, ys', fu.2.2.2.2.2.2.2.2, os') ∧ VB nb B cam rows a fb' os' := fun h => by
      obtain ⟨fb', sv', ys', os', e1, e2⟩ := learn_c' N hN (L := nb) (B := B) (cam := cam) (rows := rows) (tys := tys) (xs := fu.2.2.2.2.2.2.2.1) (ys := ys) (zs := fu.2.2.2.2.2.2.2.2) hk ha hG 0 (nI (fT nb B).1) fu.2.2.1 sv l1 hxs l3 (notch h) fb1 os1 hVB (fun c1_145 v2_sideV_145 c11_145 c17_145 => (some (nI a)).bind (fun q150 => some (q150, (0 : Int32), c1_145, fu.1, kn, v2_sideV_145, nI (fT nb B).1, fu.2.2.1, fu.2.2.2.1, fu.2.2.2.2.1, tys, fu.2.2.2.2.2.1, fu.2.2.2.2.2.2.1, fu.2.2.2.2.2.2.2.1, c11_145, fu.2.2.2.2.2.2.2.2, c17_145)))
      exact ⟨fb', sv', ys', os', e1, e2⟩
    by_cases c0 : r = 0
    · rw [if_pos c0, if_pos trivial]
      obtain ⟨fb', sv', ys', os', e1, e2⟩ := done0 (Or.inl c0)
      exact ⟨_, e1, rfl, rfl, e2, ⟨rfl, k2, k3⟩, g4, g2⟩
    · rw [if_neg c0]
      by_cases c1 : (fT nb B).1 = 0
      · rw [if_pos c1, if_pos rfl, if_pos trivial]
        obtain ⟨fb', sv', ys', os', e1, e2⟩ := done0 (Or.inr c1)
        exact ⟨_, e1, rfl, rfl, e2, ⟨rfl, k2, k3⟩, g4, g2⟩
      · rw [if_neg c1, if_neg (show ¬ (1 : Int32) = 0 by decide), if_neg (show ¬ (1 : Int32) = 0 by decide)]
        obtain ⟨-, f2, f3, -⟩ := hF
        obtain ⟨ku, j1, j2, j3⟩ := know_c N hN nb B (fT nb B).1 hT kn sv f2 tys ys (fun z => (f3 z).2)
        rw [j1, Option.bind_some]
        obtain ⟨fb', sv', ys', os', e1, e2⟩ := learn_c' N hN (L := nb) (B := B) (cam := cam) (rows := rows) (tys := ku.2.2.1) (xs := fu.2.2.2.2.2.2.2.1) (ys := ku.2.2.2) (zs := fu.2.2.2.2.2.2.2.2) hk ha hG 1 (nI (fT nb B).1) fu.2.2.1 ku.2.1 l1 hxs l3 (fun c hc i i1 i2 i3 => Or.inr ⟨by decide, c1, rfl, (k2 c1).1, j3 c hc⟩) fb1 os1 hVB (fun c1_145 v2_sideV_145 c11_145 c17_145 => (some (nI a)).bind (fun q150 => some (q150, (0 : Int32), c1_145, fu.1, ku.1, v2_sideV_145, nI (fT nb B).1, fu.2.2.1, fu.2.2.2.1, fu.2.2.2.2.1, ku.2.2.1, fu.2.2.2.2.2.1, fu.2.2.2.2.2.2.1, fu.2.2.2.2.2.2.2.1, c11_145, fu.2.2.2.2.2.2.2.2, c17_145)))
        exact ⟨_, e1, rfl, rfl, e2, ⟨rfl, k2, k3⟩, ⟨Or.inr g2, Or.inr j2, fun _ => ⟨g2, j3⟩, fun _ => ⟨rfl, k2, k3⟩⟩, g2⟩
  · have e : k = a := by omega
    subst e
    rw [if_neg (nI_nlt (Nat.le_refl k) (by omega))]
    exact ⟨_, rfl, rfl, rfl, hVB, ⟨k1, k2, k3⟩, g4, g2⟩
