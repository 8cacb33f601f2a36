/-! what is shown -/
def lmB (lv : Int32) (m : Nat) : Bool := decide (((lv >>> (nI m &&& 31)) &&& (1 : Int32)) = 0)
def s2B (L B cam rows : Nat → Int32) (lv : Int32) (c : Nat) : Nat → Int32
  | 0 => 0
  | i + 1 => s2B L B cam rows lv c i + (if bq rows lv i = true then obB L B cam rows c i else 0)
def os4 (L B cam rows : Nat → Int32) (lv : Int32) (c i : Nat) : Int32 := (((0 + (if lmB lv 0 = true then osB L B cam rows c 0 i else 0)) + (if lmB lv 1 = true then osB L B cam rows c 1 i else 0)) + (if lmB lv 2 = true then osB L B cam rows c 2 i else 0)) + (if lmB lv 3 = true then osB L B cam rows c 3 i else 0)
theorem osB_no {L B cam rows : Nat → Int32} {c m i : Nat} (h : ¬ (rows (6 * i) = 0 ∧ rows (6 * i + 1) = nI m)) : osB L B cam rows c m (i + 1) = osB L B cam rows c m i := by rw [osB, if_neg h, Int32.add_zero]
theorem osB_yes {L B cam rows : Nat → Int32} {c m i : Nat} (h : rows (6 * i) = 0 ∧ rows (6 * i + 1) = nI m) : osB L B cam rows c m (i + 1) = osB L B cam rows c m i + obB L B cam rows c i := by rw [osB, if_pos h]
theorem os4_s2 (L B cam rows : Nat → Int32) (lv : Int32) (c : Nat) : ∀ a, (∀ i, i < a → GR rows i) → os4 L B cam rows lv c a = s2B L B cam rows lv c a
  | 0, _ => by
    unfold os4 s2B
    have z : ∀ (b : Bool), (if b = true then (0 : Int32) else 0) = 0 := fun b => by cases b <;> rfl
    show (((0 + (if lmB lv 0 = true then (0 : Int32) else 0)) + (if lmB lv 1 = true then (0 : Int32) else 0)) + (if lmB lv 2 = true then (0 : Int32) else 0)) + (if lmB lv 3 = true then (0 : Int32) else 0) = 0
    rw [z, z, z, z]
    rfl
  | a + 1, hG => by
    have ih := os4_s2 L B cam rows lv c a (fun i hi => hG i (by omega))
    rw [s2B, ← ih]
    unfold os4
    rcases (hG a (Nat.lt_succ_self a)).2 with ⟨k0, ⟨cc, hcc, ec⟩, -⟩ | k1 | ⟨k1, -⟩
    · have hb : bq rows lv a = lmB lv cc := by unfold bq lmB; rw [if_pos k0, ec]
      rw [hb]
      have ny : ∀ m, m ≤ 3 → ¬ m = cc → osB L B cam rows c m (a + 1) = osB L B cam rows c m a := fun m hm hne => osB_no (fun z => hne ((nI_eq (by omega) (by omega)).mp (ec.symm.trans z.2)).symm)
      have yy : osB L B cam rows c cc (a + 1) = osB L B cam rows c cc a + obB L B cam rows c a := osB_yes ⟨k0, ec⟩
      rcases (show cc = 0 ∨ cc = 1 ∨ cc = 2 ∨ cc = 3 by omega) with rfl | rfl | rfl | rfl
      · rw [yy, ny 1 (by decide) (by decide), ny 2 (by decide) (by decide), ny 3 (by decide) (by decide)]
        cases lmB lv 0 with
        | true => simp only [if_true]; ac_rfl
        | false => simp only [Bool.false_eq_true, if_false, Int32.add_zero]
      · rw [yy, ny 0 (by decide) (by decide), ny 2 (by decide) (by decide), ny 3 (by decide) (by decide)]
        cases lmB lv 1 with
        | true => simp only [if_true]; ac_rfl
        | false => simp only [Bool.false_eq_true, if_false, Int32.add_zero]
      · rw [yy, ny 0 (by decide) (by decide), ny 1 (by decide) (by decide), ny 3 (by decide) (by decide)]
        cases lmB lv 2 with
        | true => simp only [if_true]; ac_rfl
        | false => simp only [Bool.false_eq_true, if_false, Int32.add_zero]
      · rw [yy, ny 0 (by decide) (by decide), ny 1 (by decide) (by decide), ny 2 (by decide) (by decide)]
        cases lmB lv 3 with
        | true => simp only [if_true]; ac_rfl
        | false => simp only [Bool.false_eq_true, if_false, Int32.add_zero]
    · have k0 : ¬ rows (6 * a) = 0 := by rw [k1]; decide
      have hb : ¬ bq rows lv a = true := by unfold bq; rw [if_neg k0]; decide
      have ny : ∀ m, osB L B cam rows c m (a + 1) = osB L B cam rows c m a := fun m => osB_no (fun z => k0 z.1)
      rw [if_neg hb, Int32.add_zero, ny 0, ny 1, ny 2, ny 3]
    · have k0 : ¬ rows (6 * a) = 0 := by rw [k1]; decide
      have hb : ¬ bq rows lv a = true := by unfold bq; rw [if_neg k0]; decide
      have ny : ∀ m, osB L B cam rows c m (a + 1) = osB L B cam rows c m a := fun m => osB_no (fun z => k0 z.1)
      rw [if_neg hb, Int32.add_zero, ny 0, ny 1, ny 2, ny 3]
theorem osum_c (N c a : Nat) (hN : 100 < N) (hc : c < 189) {L B cam rows os : Nat → Int32} (lv : Int32) (h : ∀ m, m ≤ 3 → os (189 * m + c) = osB L B cam rows c m a) (hG : ∀ i, i < a → GR rows i) : fX7_offSum N (nI c) lv os = some (s2B L B cam rows lv c a) := by
  obtain ⟨n, rfl⟩ : ∃ n, N = n + 5 := ⟨N - 5, by omega⟩
  unfold fX7_offSum
  simp only [jn]
  have st : ∀ (m k : Nat) (x : Int32), m ≤ 3 → fX7_offSum_p4 (n + 5) (nI c) lv os (fun x => some x) (k + 1) x (nI m) = fX7_offSum_p4 (n + 5) (nI c) lv os (fun x => some x) k (x + (if lmB lv m = true then osB L B cam rows c m a else 0)) (nI (m + 1)) := fun m k x hm => by
    have e : nI m * (189 : Int32) + nI c = nI (189 * m + c) := by rw [show (189 : Int32) = nI 189 from rfl, pk_mul, nI_add, Nat.mul_comm]
    rw [fX7_offSum_p4, if_neg (show ¬ (4 : Int32) ≤ nI m from nI_ge (b := 4) (by omega) (by decide)), show fX8_leftOut (n + 5) lv = some lv from rfl, Option.bind_some]
    simp only [jn]
    rw [e, if_neg (nI_pos (by omega)), if_neg (show ¬ (756 : Int32) ≤ nI (189 * m + c) from nI_ge (b := 756) (by omega) (by decide)), if_pos (ixb_nI (by omega) (by decide)), nI_clamp (by omega), nI_1, h m hm]
    unfold lmB
    by_cases d : ((lv >>> (nI m &&& 31)) &&& (1 : Int32)) = 0
    · rw [if_neg (fun z => z d), if_pos (decide_eq_true d)]
    · rw [if_pos d, if_neg (by simp [d]), Int32.add_zero]
  rw [show fX7_offSum_p4 (n + 5) (nI c) lv os (fun x => some x) (n + 5) 0 0 = some (os4 L B cam rows lv c a) by
    show fX7_offSum_p4 (n + 5) (nI c) lv os (fun x => some x) (n + 4 + 1) 0 (nI 0) = _
    rw [st 0 (n + 3 + 1) 0 (by decide), st 1 (n + 2 + 1) _ (by decide), st 2 (n + 1 + 1) _ (by decide), st 3 (n + 0 + 1) _ (by decide), fX7_offSum_p4, if_pos (show (4 : Int32) ≤ nI (3 + 1) by decide)]
    rfl, os4_s2 L B cam rows lv c a hG]
def nrF (S : Nat → Int32) : Nat → Nat × Int32
  | 0 => (0, S 0)
  | k + 1 => if (nrF S k).2 ≤ S (k + 1) then nrF S k else (k + 1, S (k + 1))
theorem nrF_ok (S : Nat → Int32) : ∀ k, (nrF S k).1 ≤ k ∧ (nrF S k).2 = S (nrF S k).1
  | 0 => ⟨Nat.le_refl 0, rfl⟩
  | k + 1 => by
    have ih := nrF_ok S k
    rw [nrF]
    by_cases c : (nrF S k).2 ≤ S (k + 1)
    · rw [if_pos c]; exact ⟨by omega, ih.2⟩
    · rw [if_neg c]; exact ⟨Nat.le_refl _, rfl⟩
theorem near_c (N : Nat) (hN : 1000 < N) {os : Nat → Int32} (lv : Int32) (S : Nat → Int32) (h : ∀ c, c < 189 → fX7_offSum N (nI c) lv os = some (S c)) : fX7_nearest N lv os = some (nI (nrF S 188).1) := by
  unfold fX7_nearest
  rw [show fX7_offSum N (0 : Int32) lv os = some (S 0) from h 0 (by decide), Option.bind_some]
  simp only [jn]
  refine loopR (fun m (q : Int32 × Int32) i => fX7_nearest_p10 N lv os (fun x => some x) m q.1 q.2 (nI i)) (fun i q => ∃ k, i = k + 1 ∧ q = (nI (nrF S k).1, (nrF S k).2)) 189 (fun o => o = some (nI (nrF S 188).1)) (fun m q hI => ?_) (fun m q i hi hI => ?_) N 1 (0, S 0) (by decide) (by omega) ⟨0, rfl, rfl⟩
  · obtain ⟨k, hk, rfl⟩ := hI
    rw [fX7_nearest_p10, if_pos (show (189 : Int32) ≤ nI 189 by decide), show k = 188 by omega]
  · obtain ⟨k, rfl, rfl⟩ := hI
    rw [fX7_nearest_p10, if_neg (show ¬ (189 : Int32) ≤ nI (k + 1) from nI_ge (b := 189) hi (by decide)), h (k + 1) hi, Option.bind_some, nI_1]
    simp only [jn]
    refine ⟨(nI (nrF S (k + 1)).1, (nrF S (k + 1)).2), ⟨k + 1, rfl, rfl⟩, ?_⟩
    rw [nrF]
    by_cases c : (nrF S k).2 ≤ S (k + 1)
    · rw [if_pos c, if_pos c]
    · rw [if_neg c, if_neg c]
theorem sum_r (N c a : Nat) (hN : 100 < N) (ha : a ≤ 30) {L B cam rows sm sg ou us vs ws xs ys zs : Nat → Int32} {tt th lv : Int32} (hm : sm 0 = nI a) (ho : ou 0 = lv) (hS : ∀ i, i < a → SRw rows sg (6 * i) (6 * i)) (hL : LC L B c tt th us vs ws xs ys zs) (y1 y2 y3 y4 : Int32) (K : Int32 → Option (Int32 × Int32 × Int32 × (Nat → Int32) × (Nat → Int32) × (Nat → Int32) × (Nat → Int32) × (Nat → Int32) × (Nat → Int32))) : fX10_shown_p40 N y1 y2 y3 y4 cam ou sm sg xs ys zs K N 0 0 = K (s2B L B cam rows lv c a) := by
  refine loopR (fun m (_ : Unit) i => fX10_shown_p40 N y1 y2 y3 y4 cam ou sm sg xs ys zs K m (s2B L B cam rows lv c i) (nI i)) (fun _ _ => True) a (fun o => o = K (s2B L B cam rows lv c a)) (fun m _ _ => ?_) (fun m _ i hi _ => ⟨(), trivial, ?_⟩) N 0 () (Nat.zero_le a) (by omega) trivial
  · rw [fX10_shown_p40, sb_cl0, hm, if_pos (nI_le (Nat.le_refl a) (by omega))]
  · have hSi := hS i hi
    have e6 : (6 : Int32) * nI i = nI (6 * i) := pk_mul 6 i
    have hk : sg (6 * i) = 0 ↔ rows (6 * i) = 0 := by
      obtain ⟨-, -, hk⟩ := hSi
      rcases hk with ⟨y, y1, -⟩ | ⟨y, y1, -⟩ | ⟨y, y1, -⟩ <;> rw [y, y1]
    rw [fX10_shown_p40, sb_cl0, hm, if_neg (nI_ge hi (by omega)), e6, if_pos (ixb_nI (by omega) (by decide)), nI_clamp (by omega), ho, isA_r N i (by omega) hSi, nI_1, s2B]
    simp only [jn, Option.bind_some]
    by_cases k0 : rows (6 * i) = 0
    · rw [if_neg (fun z => z (hk.mpr k0)), off_r N i c (by omega) hSi k0 hL, Option.bind_some]
      have e : bq rows lv i = aq rows lv i := by unfold bq aq; rw [if_pos k0, if_pos k0]
      rw [e]
      by_cases d : aq rows lv i = true
      · rw [if_pos d, if_neg (show ¬ (1 : Int32) = 0 by decide), if_pos d]
      · rw [if_neg d, if_pos rfl, if_neg d]
    · have e : ¬ bq rows lv i = true := by unfold bq; rw [if_neg k0]; decide
      rw [if_pos (fun z => k0 (hk.mp z)), if_neg e]
theorem shw_r {N : Nat} (hN : 1000 < N) {lc w1 wx wd wh items flown kn tt tx tl hf known stale am lv : Int32} {nb lf ly im it B bl cam rows xs zs us ws tys fb os sm sg ou : Nat → Int32} {a : Nat} (h : PV N lc w1 wx wd wh items nb lf ly im it B bl cam rows xs zs us ws tys fb os flown kn tt tx tl hf known stale am lv sm sg ou a) (y1 : Int32) (S : Nat → Int32) (eS : ∀ c, S c = s2B nb B cam rows lv c a) (K : Int32 → Int32 → Int32 → Int32 → (Nat → Int32) → (Nat → Int32) → (Nat → Int32) → (Nat → Int32) → (Nat → Int32) → (Nat → Int32) → Option (Int32 × Int32 × Int32 × (Nat → Int32) × (Nat → Int32) × (Nat → Int32) × (Nat → Int32) × (Nat → Int32) × (Nat → Int32))) (rt rh : Int32) (r1 r2 r3 r4 r5 r6 : Nat → Int32) : ∃ t : Int32 × Int32 × (Nat → Int32) × (Nat → Int32) × (Nat → Int32) × (Nat → Int32) × (Nat → Int32) × (Nat → Int32), fX10_shown_p20 N y1 bl cam im it ou sm sg K N (-4) 0 0 rt rh r1 r2 r3 r4 r5 r6 = K (nI (nrF S 188).1) (nrF S 188).2 t.1 t.2.1 t.2.2.1 t.2.2.2.1 t.2.2.2.2.1 t.2.2.2.2.2.1 t.2.2.2.2.2.2.1 t.2.2.2.2.2.2.2 := by
  refine loopR (fun m (t : Int32 × Int32 × Int32 × Int32 × (Nat → Int32) × (Nat → Int32) × (Nat → Int32) × (Nat → Int32) × (Nat → Int32) × (Nat → Int32)) c => fX10_shown_p20 N y1 bl cam im it ou sm sg K m t.1 t.2.1 (nI c) t.2.2.1 t.2.2.2.1 t.2.2.2.2.1 t.2.2.2.2.2.1 t.2.2.2.2.2.2.1 t.2.2.2.2.2.2.2.1 t.2.2.2.2.2.2.2.2.1 t.2.2.2.2.2.2.2.2.2) (fun c t => (c = 0 ∧ t.1 = -4) ∨ (∃ k, c = k + 1 ∧ t.1 = nI (nrF S k).1 ∧ t.2.1 = (nrF S k).2)) 189 (fun z => ∃ t : Int32 × Int32 × (Nat → Int32) × (Nat → Int32) × (Nat → Int32) × (Nat → Int32) × (Nat → Int32) × (Nat → Int32), z = K (nI (nrF S 188).1) (nrF S 188).2 t.1 t.2.1 t.2.2.1 t.2.2.2.1 t.2.2.2.2.1 t.2.2.2.2.2.1 t.2.2.2.2.2.2.1 t.2.2.2.2.2.2.2) (fun m t hI => ?_) (fun m t c hc hI => ?_) N 0 (-4, 0, rt, rh, r1, r2, r3, r4, r5, r6) (by decide) (by omega) (Or.inl ⟨rfl, rfl⟩)
  · rw [fX10_shown_p20, if_pos (show (189 : Int32) ≤ nI 189 by decide)]
    rcases hI with ⟨z, -⟩ | ⟨k, hk, z1, z2⟩
    · exact absurd z (by decide)
    · rw [z1, z2, show k = 188 by omega]
      exact ⟨t.2.2, rfl⟩
  · obtain ⟨b, l, s⟩ := t
    obtain ⟨ru, l1, l2, -, -⟩ := lays hN h c s.1 s.2.1 s.2.2.1 s.2.2.2.1 s.2.2.2.2.1 s.2.2.2.2.2.1 s.2.2.2.2.2.2.1 s.2.2.2.2.2.2.2
    obtain ⟨-, -, -, -, -, h6, h7, h8, h9⟩ := h
    rw [fX10_shown_p20, if_neg (show ¬ (189 : Int32) ≤ nI c from nI_ge (b := 189) hc (by decide)), l1, Option.bind_some]
    simp only [jn]
    rw [sum_r N c a (by omega) h6 h7 h8 h9 l2, ← eS c, nI_1]
    rcases hI with ⟨rfl, z⟩ | ⟨k, rfl, z1, z2⟩
    · dsimp only at z
      subst z
      refine ⟨(nI 0, S 0, ru), Or.inr ⟨0, rfl, rfl, rfl⟩, ?_⟩
      rw [if_pos rfl]
    · dsimp only at z1 z2
      subst z1 z2
      refine ⟨(nI (nrF S (k + 1)).1, (nrF S (k + 1)).2, ru), Or.inr ⟨k + 1, rfl, rfl, rfl⟩, ?_⟩
      have hb := (nrF_ok S k).1
      rw [if_neg (fun z => nI_pos (show (nrF S k).1 < 2 ^ 31 by omega) (by rw [z]; decide)), nrF]
      by_cases d : (nrF S k).2 ≤ S (k + 1)
      · rw [if_pos d, if_pos d]
      · rw [if_neg d, if_neg d]
theorem shown_eq (N : Nat) (hN : 1000 < N) (a1 : Int32) {lc w1 wx wd wh items flown kn tt tx tl hf known stale am lv : Int32} {nb lf ly im it B bl cam rows xs zs us ws tys fb os sm sg ou : Nat → Int32} {a : Nat} (h : PV N lc w1 wx wd wh items nb lf ly im it B bl cam rows xs zs us ws tys fb os flown kn tt tx tl hf known stale am lv sm sg ou a) (sv : Int32) (ys : Nat → Int32) (rt rh : Int32) (r1 r2 r3 r4 r5 r6 : Nat → Int32) : ∃ q z, fX9_shown N a1 flown kn sv tt tx tl hf tys us ws xs ys zs lc lf ly nb cam am lv rows B known stale fb os = some q ∧ fX10_shown N a1 rt rh bl cam im it ou sm sg r1 r2 r3 r4 r5 r6 = some z ∧ q.1 = z.1 ∧ VS N lc lf ly nb B cam rows a q.2 := by
  have v0 := vs_old h sv ys
  obtain ⟨ru, g1, -, g3, -, g5, -⟩ := learn_vs hN h sv ys
  have hs := fun K => shw_r hN h a1 (fun c => s2B nb B cam rows lv c a) (fun _ => rfl) K rt rh r1 r2 r3 r4 r5 r6
  obtain ⟨h1, h2, h3, h4, rfl, h6, h7, h8, h9⟩ := h
  have ho := fun c hc => osum_c N c a (by omega) hc lv (g3 c hc) (fun i hi => gr_of (h9 i hi))
  unfold fX9_shown fX10_shown
  rw [g1]
  simp only [Option.bind_some, wi_def, in_def N a1 0 1 0 1 rfl rfl]
  by_cases c1 : wi a1 0 1 = 0
  · rw [if_neg (fun z => z c1), if_neg (fun z => z c1)]; exact ⟨_, _, rfl, rfl, rfl, v0⟩
  · rw [if_pos c1, if_pos c1, near_c N hN lv (fun c => s2B nb B cam rows lv c a) ho, Option.bind_some]
    have hb := nrF_ok (fun c => s2B nb B cam rows lv c a) 188
    rw [ho _ (show (nrF (fun c => s2B nb B cam rows lv c a) 188).1 < 189 by omega), Option.bind_some]
    simp only [jn]
    obtain ⟨t, t1⟩ := hs (fun (x2_124 : Int32) (x3_124 : Int32) (v0_touchTick_124 : Int32) (v0_touchHalf_124 : Int32) (c8_124 : Nat → Int32) (c9_124 : Nat → Int32) (c10_124 : Nat → Int32) (c11_124 : Nat → Int32) (c12_124 : Nat → Int32) (c13_124 : Nat → Int32) => (if ¬ a1 = 0 then some (x3_124, v0_touchTick_124, v0_touchHalf_124, c8_124, c9_124, c10_124, c11_124, c12_124, c13_124) else some (x2_124, v0_touchTick_124, v0_touchHalf_124, c8_124, c9_124, c10_124, c11_124, c12_124, c13_124)))
    rw [t1]
    by_cases d : a1 = 0
    · rw [if_neg (fun z => z d), if_neg (fun z => z d)]
      exact ⟨_, _, rfl, rfl, rfl, g5⟩
    · rw [if_pos d, if_pos d]
      exact ⟨_, _, rfl, rfl, hb.2.symm, g5⟩
