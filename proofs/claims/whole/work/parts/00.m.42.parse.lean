/-! reading: one number -/
def tx (len : Nat) (bt : Nat → Int32) (p : Nat) : Int32 := if p < len then bt p else -1
def tz (len : Nat) (bt : Nat → Int32) (p : Nat) : Int32 := if p < len then bt p else 0
theorem by_c (N len p : Nat) (hl : len ≤ 200) (hp : p < 2 ^ 31) (bt : Nat → Int32) : fX6_byteAt N (nI p) (nI len) bt = some (tx len bt p) := by
  unfold fX6_byteAt tx
  rw [if_neg (nI_pos hp)]
  by_cases c : p < len
  · rw [if_neg (nI_ge c (by omega)), if_neg (show ¬ (200 : Int32) ≤ nI p from nI_ge (b := 200) (by omega) (by decide)), if_pos (ixb_nI (by omega) (by decide)), nI_clamp hp, if_pos c]
  · rw [if_pos (nI_le (by omega) hp), if_neg c]
theorem by_r (N len p : Nat) (hl : len ≤ 200) (hp : p < 2 ^ 31) (bt : Nat → Int32) : fX10_byteAt N (nI p) (nI len) bt = some (tz len bt p) := by
  unfold fX10_byteAt tz
  by_cases c : p < len
  · rw [if_neg (nI_ge c (by omega)), if_pos (ixb_nI (by omega) (by decide)), nI_clamp hp, if_pos c]
  · rw [if_pos (nI_le (by omega) hp), if_neg c]
theorem tz_wi (len : Nat) (bt : Nat → Int32) (p : Nat) : wi (tz len bt p) 48 57 = wi (tx len bt p) 48 57 := by
  unfold tx tz
  by_cases c : p < len
  · rw [if_pos c, if_pos c]
  · rw [if_neg c, if_neg c]; rfl
theorem tz_eq {len : Nat} {bt : Nat → Int32} {p : Nat} {x : Int32} (h0 : ¬ (0 : Int32) = x) (h1 : ¬ (-1 : Int32) = x) : tz len bt p = x ↔ tx len bt p = x := by
  unfold tx tz
  by_cases c : p < len
  · rw [if_pos c, if_pos c]
  · rw [if_neg c, if_neg c]
    exact ⟨fun h => absurd h h0, fun h => absurd h h1⟩
theorem tx_dig {len : Nat} {bt : Nat → Int32} {p : Nat} (h : ¬ wi (tx len bt p) 48 57 = 0) : p < len ∧ tz len bt p = tx len bt p := by
  unfold tx tz at *
  by_cases c : p < len
  · rw [if_pos c, if_pos c]; exact ⟨c, rfl⟩
  · rw [if_neg c] at h; exact absurd (show wi (-1) 48 57 = 0 from rfl) h
theorem tx_lt {len : Nat} {bt : Nat → Int32} {p : Nat} {x : Int32} (h1 : ¬ (-1 : Int32) = x) (h : tx len bt p = x) : p < len := by
  unfold tx at h
  by_cases c : p < len
  · exact c
  · rw [if_neg c] at h; exact absurd h h1
def nd (len : Nat) (bt : Nat → Int32) (s m : Nat) : Nat := fa_first (fun i => decide (wi (tx len bt (s + i)) 48 57 = 0)) m
def vl (len : Nat) (bt : Nat → Int32) (s : Nat) : Nat → Int32
  | 0 => 0
  | k + 1 => (vl len bt s k * (10 : Int32) + tx len bt (s + k)) - (48 : Int32)
theorem nd_dig {len : Nat} {bt : Nat → Int32} {s m k : Nat} (h : k < nd len bt s m) : ¬ wi (tx len bt (s + k)) 48 57 = 0 := by
  have := fa_first_no _ _ _ h
  exact of_decide_eq_false this
theorem nd_end {len : Nat} {bt : Nat → Int32} {s m : Nat} (h : nd len bt s m < m) : wi (tx len bt (s + nd len bt s m)) 48 57 = 0 := by
  have := fa_first_yes _ _ h
  exact of_decide_eq_true this
theorem nd_45 (len : Nat) (bt : Nat → Int32) (s : Nat) : (nd len bt s 5 < 5 ∧ nd len bt s 4 = nd len bt s 5) ∨ (nd len bt s 5 = 5 ∧ nd len bt s 4 = 4 ∧ ¬ wi (tx len bt (s + 4)) 48 57 = 0) := by
  have h4 : nd len bt s 4 ≤ 4 := fa_first_le _ _
  have e : nd len bt s 5 = if nd len bt s 4 < 4 then nd len bt s 4 else if decide (wi (tx len bt (s + 4)) 48 57 = 0) then 4 else 5 := rfl
  by_cases c : nd len bt s 4 < 4
  · rw [if_pos c] at e; left; omega
  · rw [if_neg c] at e
    by_cases d : wi (tx len bt (s + 4)) 48 57 = 0
    · rw [if_pos (decide_eq_true d)] at e; left; omega
    · rw [if_neg (by simp [d])] at e; right; exact ⟨e, by omega, d⟩
theorem vl_rng (len : Nat) (bt : Nat → Int32) (s : Nat) : ∀ k, k ≤ 5 → (∀ j, j < k → ¬ wi (tx len bt (s + j)) 48 57 = 0) → 0 ≤ (vl len bt s k).toInt ∧ (vl len bt s k).toInt < 10 ^ k
  | 0, _, _ => ⟨show (0 : Int) ≤ (0 : Int32).toInt by decide, show (0 : Int32).toInt < 10 ^ 0 by decide⟩
  | k + 1, hk, h => by
    obtain ⟨i1, i2⟩ := vl_rng len bt s k (by omega) (fun j hj => h j (by omega))
    obtain ⟨d1, d2⟩ := wi_yes (h k (by omega))
    have e48 : (48 : Int32).toInt = 48 := rfl
    have e57 : (57 : Int32).toInt = 57 := rfl
    have e10 : (10 : Int32).toInt = 10 := rfl
    rw [e48] at d1
    rw [e57] at d2
    have hp : (10 : Int) ^ k ≤ 10000 := by
      rcases (show k = 0 ∨ k = 1 ∨ k = 2 ∨ k = 3 ∨ k = 4 by omega) with rfl | rfl | rfl | rfl | rfl <;> decide
    have m1 : (vl len bt s k * (10 : Int32)).toInt = (vl len bt s k).toInt * 10 := by
      rw [fb_mulI, e10] <;> rw [e10] <;> omega
    have m2 : (vl len bt s k * (10 : Int32) + tx len bt (s + k)).toInt = (vl len bt s k).toInt * 10 + (tx len bt (s + k)).toInt := by
      rw [fb_addI, m1] <;> rw [m1] <;> omega
    have m3 : (vl len bt s (k + 1)).toInt = (vl len bt s k).toInt * 10 + (tx len bt (s + k)).toInt - 48 := by
      show ((vl len bt s k * (10 : Int32) + tx len bt (s + k)) - (48 : Int32)).toInt = _
      rw [fb_subI, m2, e48] <;> rw [m2, e48] <;> omega
    rw [m3, Int.pow_succ]
    omega
theorem fig_c (N len s : Nat) (hN : 10 < N) (hl : len ≤ 200) (hs : s < 10000) (bt : Nat → Int32) (y3 y4 : Int32) (K : Int32 → Int32 → Option (Int32 × (Nat → Int32))) : fX3_readNumber_p38 N y3 y4 (nI s) (nI len) bt K N (nI s) 0 = K (nI (s + nd len bt s 4)) (vl len bt s (nd len bt s 4)) := by
  have h4 : nd len bt s 4 ≤ 4 := fa_first_le _ _
  refine loopR (fun m (_ : Unit) i => fX3_readNumber_p38 N y3 y4 (nI s) (nI len) bt K m (nI (s + i)) (vl len bt s i)) (fun _ _ => True) (nd len bt s 4) (fun o => o = K (nI (s + nd len bt s 4)) (vl len bt s (nd len bt s 4))) (fun m _ _ => ?_) (fun m _ i hi _ => ?_) N 0 () (Nat.zero_le _) (by omega) trivial
  · rw [fX3_readNumber_p38, show nI s + (4 : Int32) = nI (s + 4) from nI_add s 4]
    by_cases c : nd len bt s 4 < 4
    · rw [if_neg (nI_ge (by omega) (by omega)), by_c N len _ hl (by omega), Option.bind_some]
      have := nd_end c
      rw [show fX3_isFigure N (tx len bt (s + nd len bt s 4)) = some (wi (tx len bt (s + nd len bt s 4)) 48 57) from wi_def N _ 48 57, Option.bind_some, if_pos this]
    · have e : nd len bt s 4 = 4 := by omega
      rw [e, if_pos (nI_le (Nat.le_refl _) (by omega))]
  · refine ⟨(), trivial, ?_⟩
    rw [fX3_readNumber_p38, show nI s + (4 : Int32) = nI (s + 4) from nI_add s 4, if_neg (nI_ge (by omega) (by omega)), by_c N len _ hl (by omega), Option.bind_some, show fX3_isFigure N (tx len bt (s + i)) = some (wi (tx len bt (s + i)) 48 57) from wi_def N _ 48 57, Option.bind_some, if_neg (nd_dig hi), Option.bind_some, nI_1]
    rfl
theorem fig_r (N len s : Nat) (hN : 10 < N) (hl : len ≤ 200) (hs : s < 10000) (bt : Nat → Int32) (y1 y2 y3 : Int32) (K : Int32 → Int32 → Int32 → Option (Int32 × Int32 × (Nat → Int32))) : fX10_figures_p50 N y1 y2 y3 (nI len) bt K N 0 0 (nI s) = K (nI (nd len bt s 5)) (vl len bt s (nd len bt s 5)) (nI (s + nd len bt s 5)) := by
  have h4 : nd len bt s 5 ≤ 5 := fa_first_le _ _
  refine loopR (fun m (_ : Unit) i => fX10_figures_p50 N y1 y2 y3 (nI len) bt K m (nI i) (vl len bt s i) (nI (s + i))) (fun _ _ => True) (nd len bt s 5) (fun o => o = K (nI (nd len bt s 5)) (vl len bt s (nd len bt s 5)) (nI (s + nd len bt s 5))) (fun m _ _ => ?_) (fun m _ i hi _ => ?_) N 0 () (Nat.zero_le _) (by omega) trivial
  · rw [fX10_figures_p50, by_r N len _ hl (by omega), Option.bind_some, in_def N _ 48 57 48 57 rfl rfl, Option.bind_some, tz_wi]
    by_cases c : nd len bt s 5 < 5
    · rw [if_pos (nd_end c)]
    · have e : nd len bt s 5 = 5 := by omega
      rw [e, if_pos (show (5 : Int32) ≤ nI 5 by decide)]
      by_cases d : wi (tx len bt (s + 5)) 48 57 = 0
      · rw [if_pos d]
      · rw [if_neg d]
  · refine ⟨(), trivial, ?_⟩
    have hd := nd_dig hi
    rw [fX10_figures_p50, by_r N len _ hl (by omega), Option.bind_some, in_def N _ 48 57 48 57 rfl rfl, Option.bind_some, tz_wi, if_neg hd, if_neg (show ¬ (5 : Int32) ≤ nI i from nI_ge (b := 5) (by omega) (by decide)), Option.bind_some, nI_1, nI_1, (tx_dig hd).2, Int32.mul_comm]
    rfl
def nS (len : Nat) (bt : Nat → Int32) (p : Nat) : Nat := if tx len bt p = 45 then p + 1 else p
def nN (len : Nat) (bt : Nat → Int32) (p : Nat) : Nat := nd len bt (nS len bt p) 5
def nV (len : Nat) (bt : Nat → Int32) (p : Nat) : Int32 := vl len bt (nS len bt p) (nN len bt p)
def num (len : Nat) (bt : Nat → Int32) (p : Nat) (sep : Int32) : Option (Nat × Int32) := if nN len bt p = 0 ∨ 5 ≤ nN len bt p ∨ (tx len bt p = 45 ∧ nV len bt p = 0) ∨ ¬ tx len bt (nS len bt p + nN len bt p) = sep then none else some (nS len bt p + nN len bt p + 1, if tx len bt p = 45 then -(nV len bt p) else nV len bt p)
theorem num_some {len : Nat} {bt : Nat → Int32} {p : Nat} {sep : Int32} {a : Nat × Int32} (h : num len bt p sep = some a) : 0 < nN len bt p ∧ nN len bt p < 5 ∧ ¬ (tx len bt p = 45 ∧ nV len bt p = 0) ∧ tx len bt (nS len bt p + nN len bt p) = sep ∧ a.1 = nS len bt p + nN len bt p + 1 ∧ a.2 = (if tx len bt p = 45 then -(nV len bt p) else nV len bt p) := by
  unfold num at h
  by_cases c : nN len bt p = 0 ∨ 5 ≤ nN len bt p ∨ (tx len bt p = 45 ∧ nV len bt p = 0) ∨ ¬ tx len bt (nS len bt p + nN len bt p) = sep
  · rw [if_pos c] at h; exact nomatch h
  · rw [if_neg c] at h
    injection h with h
    subst h
    refine ⟨?_, ?_, ?_, ?_, rfl, rfl⟩
    · rcases Nat.eq_zero_or_pos (nN len bt p) with q | q
      · exact absurd (Or.inl q) c
      · exact q
    · rcases Nat.lt_or_ge (nN len bt p) 5 with q | q
      · exact q
      · exact absurd (Or.inr (Or.inl q)) c
    · exact fun q => c (Or.inr (Or.inr (Or.inl q)))
    · exact Classical.byContradiction fun q => c (Or.inr (Or.inr (Or.inr q)))
theorem nS_le (len : Nat) (bt : Nat → Int32) (p : Nat) : p ≤ nS len bt p ∧ nS len bt p ≤ p + 1 := by
  unfold nS
  split <;> omega
theorem num_rng {len : Nat} {bt : Nat → Int32} {p : Nat} {sep : Int32} {a : Nat × Int32} (hsep : ¬ (-1 : Int32) = sep) (h : num len bt p sep = some a) : p + 2 ≤ a.1 ∧ a.1 ≤ len ∧ -9999 ≤ a.2.toInt ∧ a.2.toInt ≤ 9999 := by
  obtain ⟨h1, h2, h3, h4, h5, h6⟩ := num_some h
  have hs := nS_le len bt p
  have hl := tx_lt hsep h4
  obtain ⟨r1, r2⟩ := vl_rng len bt (nS len bt p) (nN len bt p) (by omega) (fun j hj => nd_dig hj)
  have r3 : (nV len bt p).toInt < 10 ^ (nN len bt p) := r2
  have r4 : 0 ≤ (nV len bt p).toInt := r1
  have r5 : (10 : Int) ^ (nN len bt p) ≤ 10000 := by
    rcases (show nN len bt p = 1 ∨ nN len bt p = 2 ∨ nN len bt p = 3 ∨ nN len bt p = 4 by omega) with q | q | q | q <;> rw [q] <;> decide
  refine ⟨by omega, by omega, ?_⟩
  rw [h6]
  by_cases c : tx len bt p = 45
  · rw [if_pos c, fb_negI (by omega)]; omega
  · rw [if_neg c]; omega
theorem rn_c (N len p i : Nat) (hN : 10 < N) (hl : len ≤ 200) (hp : p ≤ 200) (hi : i < 3) (bt c1 : Nat → Int32) (sep : Int32) (hsep : wi sep 48 57 = 0) : (num len bt p sep = none → ∃ q, fX3_readNumber N (nI p) (nI i) c1 (nI len) bt = some q ∧ (q.1 < 0 ∨ ∃ e : Nat, e < 1000 ∧ q.1 = nI e ∧ ¬ tx len bt e = sep)) ∧ (∀ a, num len bt p sep = some a → ∃ e : Nat, e < 1000 ∧ a.1 = e + 1 ∧ fX3_readNumber N (nI p) (nI i) c1 (nI len) bt = some (nI e, upd c1 i a.2) ∧ tx len bt e = sep) := by
  have hs := nS_le len bt p
  have h4 : nd len bt (nS len bt p) 4 ≤ 4 := fa_first_le _ _
  have e0 : fX3_readNumber N (nI p) (nI i) c1 (nI len) bt = (if nI (nS len bt p + nd len bt (nS len bt p) 4) = nI (nS len bt p) then some ((-1 : Int32), c1) else if tx len bt p = 45 ∧ vl len bt (nS len bt p) (nd len bt (nS len bt p) 4) = 0 then some (-1, c1) else some (nI (nS len bt p + nd len bt (nS len bt p) 4), upd c1 i (if tx len bt p = 45 then -(vl len bt (nS len bt p) (nd len bt (nS len bt p) 4)) else vl len bt (nS len bt p) (nd len bt (nS len bt p) 4)))) := by
    unfold fX3_readNumber
    rw [by_c N len p hl (by omega), Option.bind_some]
    simp only [jn]
    by_cases c : tx len bt p = 45
    · have eS : nS len bt p = p + 1 := if_pos c
      rw [if_neg (fun z => z c)]
      simp only [show ¬ (1 : Int32) = 0 by decide, if_false]
      rw [nI_1, fig_c N len (p + 1) hN hl (by omega), eS, if_neg (nI_pos (by omega)), if_pos (show nI i < (3 : Int32) from nI_lt (b := 3) hi (by decide)), if_pos (ixb_nI hi (by decide)), nI_clamp (by omega)]
      simp only [c, true_and, if_true]
    · have eS : nS len bt p = p := if_neg c
      rw [if_pos c]
      simp only [if_true]
      rw [fig_c N len p hN hl (by omega), eS, if_neg (nI_pos (by omega)), if_pos (show nI i < (3 : Int32) from nI_lt (b := 3) hi (by decide)), if_pos (ixb_nI hi (by decide)), nI_clamp (by omega)]
      simp only [c, false_and, if_false]
  rw [e0]
  have hz : nI (nS len bt p + nd len bt (nS len bt p) 4) = nI (nS len bt p) ↔ nd len bt (nS len bt p) 4 = 0 := by
    rw [nI_eq (by omega) (by omega)]; omega
  refine ⟨fun hn => ?_, fun a ha => ?_⟩
  · by_cases c1 : nd len bt (nS len bt p) 4 = 0
    · rw [if_pos (hz.mpr c1)]; exact ⟨_, rfl, Or.inl (show (-1 : Int32) < 0 by decide)⟩
    · rw [if_neg (fun z => c1 (hz.mp z))]
      by_cases c2 : tx len bt p = 45 ∧ vl len bt (nS len bt p) (nd len bt (nS len bt p) 4) = 0
      · rw [if_pos c2]; exact ⟨_, rfl, Or.inl (show (-1 : Int32) < 0 by decide)⟩
      · rw [if_neg c2]
        refine ⟨_, rfl, Or.inr ⟨nS len bt p + nd len bt (nS len bt p) 4, by omega, rfl, ?_⟩⟩
        intro q
        rcases nd_45 len bt (nS len bt p) with ⟨g1, g2⟩ | ⟨g1, g2, g3⟩
        · rw [g2] at c1 c2 q
          unfold num at hn
          rw [if_neg] at hn
          · exact nomatch hn
          · rintro (k | k | k | k)
            · exact c1 k
            · exact absurd k (Nat.not_le.mpr g1)
            · exact c2 k
            · exact k q
        · rw [g2] at q
          rw [q] at g3
          exact g3 hsep
  · obtain ⟨h1, h2, h3, h4', h5, h6⟩ := num_some ha
    rcases nd_45 len bt (nS len bt p) with ⟨g1, g2⟩ | ⟨g1, g2, g3⟩
    · refine ⟨nS len bt p + nN len bt p, by omega, h5, ?_, h4'⟩
      have g2' : nd len bt (nS len bt p) 4 = nN len bt p := g2
      rw [if_neg (fun z => by have := hz.mp z; omega), g2', show vl len bt (nS len bt p) (nN len bt p) = nV len bt p from rfl, if_neg h3, h6]
    · have : nN len bt p = 5 := g1
      omega
