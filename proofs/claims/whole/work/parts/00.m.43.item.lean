/-! reading: an item -/
theorem fg_end (N k n : Nat) (hk : k < 2 ^ 31) (len p : Int32) (bt c1 : Nat → Int32) : fX10_figures_p2 N (nI k) len bt (n + 1) (nI k) p c1 = some (1, p, c1) := by
  rw [fX10_figures_p2, if_pos (nI_le (Nat.le_refl k) hk)]
theorem fg_r (N len p k many n : Nat) (hN : 10 < N) (hl : len ≤ 200) (hp : p ≤ 200) (hk : k < many) (hm : many ≤ 3) (bt c1 : Nat → Int32) (sep : Int32) (hsep : sep = if k + 1 = many then 59 else 44) : (num len bt p sep = none → ∃ z, fX10_figures_p2 N (nI many) (nI len) bt (n + 1) (nI k) (nI p) c1 = some z ∧ z.1 = 0) ∧ (∀ a, num len bt p sep = some a → fX10_figures_p2 N (nI many) (nI len) bt (n + 1) (nI k) (nI p) c1 = fX10_figures_p2 N (nI many) (nI len) bt n (nI (k + 1)) (nI a.1) (upd c1 k a.2)) := by
  have hs := nS_le len bt p
  have h5 : nN len bt p ≤ 5 := fa_first_le _ _
  have s0 : ¬ (0 : Int32) = sep := by rw [hsep]; split <;> decide
  have s1 : ¬ (-1 : Int32) = sep := by rw [hsep]; split <;> decide
  have esep : ∀ (X : Int32 → Option (Int32 × Int32 × (Nat → Int32))), (if nI many - (1 : Int32) ≤ nI k then X 59 else X 44) = X sep := fun X => by
    obtain ⟨m, rfl⟩ : ∃ m, many = m + 1 := ⟨many - 1, by omega⟩
    rw [nI_pred, hsep]
    by_cases c : k + 1 = m + 1
    · rw [if_pos c, if_pos (nI_le (by omega) (by omega))]
    · rw [if_neg c, if_neg (nI_ge (by omega) (by omega))]
  have e0 : fX10_figures_p2 N (nI many) (nI len) bt (n + 1) (nI k) (nI p) c1 = (if nN len bt p = 0 ∨ 5 ≤ nN len bt p then some ((0 : Int32), nI (nS len bt p + nN len bt p), c1) else if tx len bt p = 45 ∧ nV len bt p = 0 then some ((0 : Int32), nI (nS len bt p + nN len bt p), c1) else if ¬ tx len bt (nS len bt p + nN len bt p) = sep then some ((0 : Int32), nI (nS len bt p + nN len bt p), c1) else fX10_figures_p2 N (nI many) (nI len) bt n (nI (k + 1)) (nI (nS len bt p + nN len bt p + 1)) (upd c1 k (if tx len bt p = 45 then -(nV len bt p) else nV len bt p))) := by
    rw [fX10_figures_p2, if_neg (nI_ge hk (by omega)), by_r N len p hl (by omega), Option.bind_some]
    have hw : wi (nI (nN len bt p)) 1 4 = 0 ↔ (nN len bt p = 0 ∨ 5 ≤ nN len bt p) := by
      rcases (show nN len bt p = 0 ∨ nN len bt p = 1 ∨ nN len bt p = 2 ∨ nN len bt p = 3 ∨ nN len bt p = 4 ∨ nN len bt p = 5 by omega) with q | q | q | q | q | q <;> rw [q] <;> decide
    have hq : ∀ (r : Option (Int32 × Int32 × (Nat → Int32))), (if tz len bt (nS len bt p + nN len bt p) = sep then r else some ((0 : Int32), nI (nS len bt p + nN len bt p), c1)) = (if ¬ tx len bt (nS len bt p + nN len bt p) = sep then some ((0 : Int32), nI (nS len bt p + nN len bt p), c1) else r) := fun r => by
      by_cases d : tx len bt (nS len bt p + nN len bt p) = sep
      · rw [if_pos ((tz_eq s0 s1).mpr d), if_neg (fun z => z d)]
      · rw [if_neg (fun z => d ((tz_eq s0 s1).mp z)), if_pos d]
    by_cases c : tx len bt p = 45
    · have c' : tz len bt p = 45 := (tz_eq (by decide) (by decide)).mpr c
      have eS : nS len bt p = p + 1 := if_pos c
      have eN : nd len bt (p + 1) 5 = nN len bt p := by unfold nN; rw [eS]
      have eV : vl len bt (p + 1) (nN len bt p) = nV len bt p := by unfold nV; rw [eS]
      simp only [jn]
      rw [if_neg (fun z => z c')]
      simp only [show ¬ (1 : Int32) = 0 by decide, if_false]
      rw [nI_1 p, fig_r N len (p + 1) hN hl (by omega), in_def N _ 1 4 1 4 rfl rfl, Option.bind_some, eN, eV, ← eS, by_r N len _ hl (by omega), Option.bind_some, esep (fun y => if tz len bt (nS len bt p + nN len bt p) = y then (if ixb (nI k) 3 = true then fX10_figures_p2 N (nI many) (nI len) bt n (nI k + 1) (nI (nS len bt p + nN len bt p) + 1) (upd c1 (nI k).toNatClampNeg (-(nV len bt p))) else none) else some (0, nI (nS len bt p + nN len bt p), c1)), hq, if_pos (ixb_nI (by omega) (by decide)), nI_1, nI_1, nI_clamp (by omega)]
      simp only [c, true_and, if_true]
      by_cases d1 : wi (nI (nN len bt p)) 1 4 = 0
      · rw [if_pos d1, if_pos (hw.mp d1)]
      · rw [if_neg d1, if_neg (fun z => d1 (hw.mpr z))]
    · have c' : ¬ tz len bt p = 45 := fun z => c ((tz_eq (by decide) (by decide)).mp z)
      have eS : nS len bt p = p := if_neg c
      have eN : nd len bt p 5 = nN len bt p := by unfold nN; rw [eS]
      have eV : vl len bt p (nN len bt p) = nV len bt p := by unfold nV; rw [eS]
      simp only [jn]
      rw [if_pos c']
      simp only [if_true, Int32.add_zero]
      rw [fig_r N len p hN hl (by omega), in_def N _ 1 4 1 4 rfl rfl, Option.bind_some, eN, eV, show p + nN len bt p = nS len bt p + nN len bt p by rw [eS], by_r N len _ hl (by omega), Option.bind_some, esep (fun y => if tz len bt (nS len bt p + nN len bt p) = y then (if ixb (nI k) 3 = true then fX10_figures_p2 N (nI many) (nI len) bt n (nI k + 1) (nI (nS len bt p + nN len bt p) + 1) (upd c1 (nI k).toNatClampNeg (nV len bt p)) else none) else some (0, nI (nS len bt p + nN len bt p), c1)), hq, if_pos (ixb_nI (by omega) (by decide)), nI_1, nI_1, nI_clamp (by omega)]
      simp only [c, false_and, if_false]
      by_cases d1 : wi (nI (nN len bt p)) 1 4 = 0
      · rw [if_pos d1, if_pos (hw.mp d1)]
      · rw [if_neg d1, if_neg (fun z => d1 (hw.mpr z))]
  rw [e0]
  refine ⟨fun hn => ?_, fun a ha => ?_⟩
  · by_cases c1' : nN len bt p = 0 ∨ 5 ≤ nN len bt p
    · rw [if_pos c1']; exact ⟨_, rfl, rfl⟩
    · rw [if_neg c1']
      by_cases c2 : tx len bt p = 45 ∧ nV len bt p = 0
      · rw [if_pos c2]; exact ⟨_, rfl, rfl⟩
      · rw [if_neg c2]
        by_cases c3 : tx len bt (nS len bt p + nN len bt p) = sep
        · unfold num at hn
          rw [if_neg] at hn
          · exact nomatch hn
          · rintro (z | z | z | z)
            · exact c1' (Or.inl z)
            · exact c1' (Or.inr z)
            · exact c2 z
            · exact z c3
        · rw [if_pos c3]; exact ⟨_, rfl, rfl⟩
  · obtain ⟨g1, g2, g3, g4, g5, g6⟩ := num_some ha
    rw [if_neg (by omega), if_neg g3, if_neg (fun z => z g4), g5, g6]
/-- the bounds of an item's numbers, by kind -/
def loB (k i : Nat) : Int32 := tb_Item_LOWEST ((tb_Item_FIRST_BOUNDS k).toNatClampNeg + i)
def hiB (k i : Nat) : Int32 := tb_Item_HIGHEST ((tb_Item_FIRST_BOUNDS k).toNatClampNeg + i)
def amt (k : Nat) : Nat := if k < 6 then 1 else if k = 6 then 2 else 3
theorem bd_c (N k i : Nat) (hk : k < 8) (hi : i < amt k) (c1 : Nat → Int32) : fX3_isBounded N (nI i) (nI k) c1 = some (wi (c1 i) (loB k i) (hiB k i)) := by
  have hi3 : i < 3 := by
    unfold amt at hi
    split at hi
    · omega
    · split at hi <;> omega
  have hn : fX3_number N (nI i) c1 = some (c1 i) := by
    unfold fX3_number
    rw [if_neg (nI_pos (by omega)), if_neg (show ¬ (3 : Int32) ≤ nI i from nI_ge (b := 3) hi3 (by decide)), if_pos (ixb_nI hi3 (by decide)), nI_clamp (by omega)]
  unfold fX3_isBounded
  rw [if_neg (nI_pos (by omega)), if_pos (show nI k < (8 : Int32) from nI_lt (b := 8) hk (by decide)), if_pos (ixb_nI hk (by decide)), nI_clamp (by omega), hn]
  obtain ⟨f, hf, ef⟩ : ∃ f : Nat, f + i < 11 ∧ tb_Item_FIRST_BOUNDS k = nI f := by
    unfold amt at hi
    rcases (show k = 0 ∨ k = 1 ∨ k = 2 ∨ k = 3 ∨ k = 4 ∨ k = 5 ∨ k = 6 ∨ k = 7 by omega) with rfl | rfl | rfl | rfl | rfl | rfl | rfl | rfl
    · exact ⟨0, by simp at hi; omega, rfl⟩
    · exact ⟨1, by simp at hi; omega, rfl⟩
    · exact ⟨2, by simp at hi; omega, rfl⟩
    · exact ⟨3, by simp at hi; omega, rfl⟩
    · exact ⟨4, by simp at hi; omega, rfl⟩
    · exact ⟨5, by simp at hi; omega, rfl⟩
    · exact ⟨6, by simp at hi; omega, rfl⟩
    · exact ⟨8, by simp at hi; omega, rfl⟩
  unfold loB hiB
  rw [ef, nI_add, if_neg (nI_pos (by omega)), if_neg (show ¬ (11 : Int32) ≤ nI (f + i) from nI_ge (b := 11) hf (by decide)), if_pos (show nI (f + i) < (11 : Int32) from nI_lt (b := 11) hf (by decide)), Option.bind_some, if_pos (ixb_nI hf (by decide)), if_pos (ixb_nI hf (by decide)), nI_clamp (by omega), nI_clamp (by omega), wi_def, Option.bind_some]
theorem rf_end (N m n : Nat) (hm : m < 2 ^ 31) (k len p : Int32) (bt c1 : Nat → Int32) : fX3_readFrom_p49 N (nI m) k len bt (n + 1) p (nI m) c1 = some (p, k, c1) := by
  rw [fX3_readFrom_p49, if_pos (nI_le (Nat.le_refl m) hm)]
theorem rf_c (N len p k i n : Nat) (hN : 10 < N) (hl : len ≤ 200) (hp : p ≤ 200) (hk : k < 8) (hi : i < amt k) (bt c1 : Nat → Int32) (sep : Int32) (hsep : sep = if i + 1 = amt k then 59 else 44) : (num len bt p sep = none → ∃ q, fX3_readFrom_p49 N (nI (amt k)) (nI k) (nI len) bt (n + 1) (nI p) (nI i) c1 = some q ∧ q.1 < 0) ∧ (∀ a, num len bt p sep = some a → (wi a.2 (loB k i) (hiB k i) = 0 → ∃ q, fX3_readFrom_p49 N (nI (amt k)) (nI k) (nI len) bt (n + 1) (nI p) (nI i) c1 = some q ∧ q.1 < 0) ∧ (¬ wi a.2 (loB k i) (hiB k i) = 0 → fX3_readFrom_p49 N (nI (amt k)) (nI k) (nI len) bt (n + 1) (nI p) (nI i) c1 = fX3_readFrom_p49 N (nI (amt k)) (nI k) (nI len) bt n (nI a.1) (nI (i + 1)) (upd c1 i a.2))) := by
  have ha3 : amt k ≤ 3 := by
    unfold amt
    split
    · omega
    · split <;> omega
  have hw : wi sep 48 57 = 0 := by rw [hsep]; split <;> rfl
  have esep : ∀ (X : Int32 → Option (Int32 × Int32 × (Nat → Int32))), (if ¬ nI i = nI (amt k) - (1 : Int32) then X 44 else X 59) = X sep := fun X => by
    obtain ⟨m, hm⟩ : ∃ m, amt k = m + 1 := ⟨amt k - 1, by omega⟩
    rw [hm, nI_pred, hsep, hm]
    by_cases c : i + 1 = m + 1
    · rw [if_pos c, if_neg (fun z => z (by rw [show i = m by omega]))]
    · rw [if_neg c, if_pos (fun z => c (by rw [(nI_eq (by omega) (by omega)).mp z]))]
  obtain ⟨r1, r2⟩ := rn_c N len p i hN hl hp (by omega) bt c1 sep hw
  have e0 : ∀ q, fX3_readNumber N (nI p) (nI i) c1 (nI len) bt = some q → fX3_readFrom_p49 N (nI (amt k)) (nI k) (nI len) bt (n + 1) (nI p) (nI i) c1 = (if q.1 < 0 then some ((-1 : Int32), nI k, q.2) else ((fX6_byteAt N q.1 (nI len) bt).bind (fun q91 => (if ¬ q91 = sep then some ((-1 : Int32), nI k, q.2) else ((fX3_isBounded N (nI i) (nI k) q.2).bind (fun q102 => (if ¬ q102 = 0 then fX3_readFrom_p49 N (nI (amt k)) (nI k) (nI len) bt n ((q.1 + (1 : Int32))) ((nI i + (1 : Int32))) q.2 else some ((-1 : Int32), nI k, q.2)))))))) := fun q hq => by
    rw [fX3_readFrom_p49, if_neg (nI_ge hi (by omega)), hq, Option.bind_some]
    simp only [jn]
    exact esep (fun z0_81 => (if q.1 < 0 then some ((-1 : Int32), nI k, q.2) else ((fX6_byteAt N q.1 (nI len) bt).bind (fun q91 => (if ¬ q91 = z0_81 then some ((-1 : Int32), nI k, q.2) else ((fX3_isBounded N (nI i) (nI k) q.2).bind (fun q102 => (if ¬ q102 = 0 then fX3_readFrom_p49 N (nI (amt k)) (nI k) (nI len) bt n ((q.1 + (1 : Int32))) ((nI i + (1 : Int32))) q.2 else some ((-1 : Int32), nI k, q.2)))))))))
  have neg : (-1 : Int32) < 0 := by decide
  refine ⟨fun hn => ?_, fun a ha => ?_⟩
  · obtain ⟨q, q1, q2⟩ := r1 hn
    rw [e0 q q1]
    rcases q2 with q2 | ⟨e, he, q2, q3⟩
    · rw [if_pos q2]; exact ⟨_, rfl, neg⟩
    · by_cases z : q.1 < 0
      · rw [if_pos z]; exact ⟨_, rfl, neg⟩
      · rw [if_neg z, q2, by_c N len e hl (by omega), Option.bind_some, if_pos q3]; exact ⟨_, rfl, neg⟩
  · obtain ⟨e, he, a1, q1, q2⟩ := r2 a ha
    rw [e0 _ q1]
    dsimp only
    rw [if_neg (nI_pos (by omega)), by_c N len e hl (by omega), Option.bind_some, if_neg (fun z => z q2), bd_c N k i hk hi, Option.bind_some, pk_us, nI_1, nI_1, ← a1]
    refine ⟨fun z => ?_, fun z => ?_⟩
    · rw [if_neg (fun y => y z)]; exact ⟨_, rfl, neg⟩
    · rw [if_pos z]
def kdN (b : Int32) : Option Nat := if b = 97 then some 0 else if b = 103 then some 1 else if b = 98 then some 2 else if b = 114 then some 3 else if b = 113 then some 4 else if b = 116 then some 5 else if b = 108 then some 6 else if b = 107 then some 7 else none
def kdI (o : Option Nat) : Int32 := match o with
  | none => -1
  | some k => nI k
theorem kd_c (N : Nat) (hN : 10 < N) (b : Int32) : fX3_kindOf N b = some (kdI (kdN b)) := by
  obtain ⟨m, rfl⟩ : ∃ m, N = m + 9 := ⟨N - 9, by omega⟩
  have st : ∀ (i n : Nat), i < 8 → fX3_kindOf_p2 (m + 9) b (n + 1) (nI i) = (if ¬ tb_Item_LETTERS i = b then fX3_kindOf_p2 (m + 9) b n (nI (i + 1)) else some (nI i)) := fun i n hi => by
    rw [fX3_kindOf_p2, if_neg (show ¬ (8 : Int32) ≤ nI i from nI_ge (b := 8) hi (by decide)), if_pos (ixb_nI hi (by decide)), nI_clamp (by omega), nI_1]
  have en : ∀ n, fX3_kindOf_p2 (m + 9) b (n + 1) (nI 8) = some (-1) := fun n => by
    rw [fX3_kindOf_p2, if_pos (show (8 : Int32) ≤ nI 8 by decide)]
  unfold fX3_kindOf
  show fX3_kindOf_p2 (m + 9) b (m + 8 + 1) (nI 0) = _
  rw [st 0 (m + 7 + 1) (by decide), st 1 (m + 6 + 1) (by decide), st 2 (m + 5 + 1) (by decide), st 3 (m + 4 + 1) (by decide), st 4 (m + 3 + 1) (by decide), st 5 (m + 2 + 1) (by decide), st 6 (m + 1 + 1) (by decide), st 7 (m + 0 + 1) (by decide), en]
  have t0 : tb_Item_LETTERS 0 = 97 := rfl
  have t1 : tb_Item_LETTERS 1 = 103 := rfl
  have t2 : tb_Item_LETTERS 2 = 98 := rfl
  have t3 : tb_Item_LETTERS 3 = 114 := rfl
  have t4 : tb_Item_LETTERS 4 = 113 := rfl
  have t5 : tb_Item_LETTERS 5 = 116 := rfl
  have t6 : tb_Item_LETTERS 6 = 108 := rfl
  have t7 : tb_Item_LETTERS 7 = 107 := rfl
  rw [t0, t1, t2, t3, t4, t5, t6, t7]
  unfold kdN
  simp only [eq_comm (a := b)]
  by_cases c0 : 97 = b
  · rw [if_neg (fun z => z c0), if_pos c0]; rfl
  rw [if_pos c0, if_neg c0]
  by_cases c1 : 103 = b
  · rw [if_neg (fun z => z c1), if_pos c1]; rfl
  rw [if_pos c1, if_neg c1]
  by_cases c2 : 98 = b
  · rw [if_neg (fun z => z c2), if_pos c2]; rfl
  rw [if_pos c2, if_neg c2]
  by_cases c3 : 114 = b
  · rw [if_neg (fun z => z c3), if_pos c3]; rfl
  rw [if_pos c3, if_neg c3]
  by_cases c4 : 113 = b
  · rw [if_neg (fun z => z c4), if_pos c4]; rfl
  rw [if_pos c4, if_neg c4]
  by_cases c5 : 116 = b
  · rw [if_neg (fun z => z c5), if_pos c5]; rfl
  rw [if_pos c5, if_neg c5]
  by_cases c6 : 108 = b
  · rw [if_neg (fun z => z c6), if_pos c6]; rfl
  rw [if_pos c6, if_neg c6]
  by_cases c7 : 107 = b
  · rw [if_neg (fun z => z c7), if_pos c7]; rfl
  rw [if_pos c7, if_neg c7]
  rfl
