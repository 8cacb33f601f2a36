/-! the law: closed forms of what is asked of it -/
def lk (it : Nat → Int32) (x : Int32) : Nat → Option Nat
  | 0 => none
  | k + 1 => if it (4 * k) = x then some k else lk it x k
def lkI (o : Option Nat) : Int32 := match o with
  | none => -4
  | some k => nI (4 * k)
theorem lk_lt (it : Nat → Int32) (x : Int32) : ∀ (n k : Nat), lk it x n = some k → k < n ∧ it (4 * k) = x
  | 0, _, h => nomatch h
  | n + 1, k, h => by
    rw [lk] at h
    by_cases c : it (4 * n) = x
    · rw [if_pos c] at h
      injection h with h
      subst h
      exact ⟨Nat.lt_succ_self _, c⟩
    · rw [if_neg c] at h
      have := lk_lt it x n k h
      exact ⟨by omega, this.2⟩
theorem itF_lk (it : Nat → Int32) (y : Int32) : ∀ n, itF (fun i (x : Int32) => if it (4 * i) = y then nI (4 * i) else x) 0 n (-4) = lkI (lk it y n)
  | 0 => rfl
  | n + 1 => by
    rw [itF_succ, itF_lk it y n, Nat.zero_add]
    by_cases c : it (4 * n) = y
    · rw [if_pos c, lk, if_pos c]; rfl
    · rw [if_neg c, lk, if_neg c]
theorem last_def (N n : Nat) (hn : n ≤ 67) (hN : 100 < N) (y : Int32) (im it : Nat → Int32) (h0 : im 0 = nI n) : fX10_last N y im it = some (lkI (lk it y n)) := by
  unfold fX10_last jn
  have h := loopF (fun m x i => fX10_last_p5 N y im it (fun x2 => some x2) m x (nI i)) (fun x => some x) (fun i (x : Int32) => if it (4 * i) = y then nI (4 * i) else x) n
    (fun m x => by
      show fX10_last_p5 N y im it (fun x2 => some x2) (m + 1) x (nI n) = some x
      rw [fX10_last_p5, sb_cl0, h0, if_pos (nI_le (Nat.le_refl n) (by omega))])
    (fun m x i hi => by
      have e4 : (4 : Int32) * nI i = nI (4 * i) := pk_mul 4 i
      show fX10_last_p5 N y im it (fun x2 => some x2) (m + 1) x (nI i) = fX10_last_p5 N y im it (fun x2 => some x2) m (if it (4 * i) = y then nI (4 * i) else x) (nI (i + 1))
      rw [fX10_last_p5, sb_cl0, h0, if_neg (nI_ge hi (by omega)), e4, if_pos (ixb_nI (by omega) (by decide)), nI_clamp (by omega), nI_1]
      simp only [jn]
      by_cases c : it (4 * i) = y <;> simp [c])
    N 0 (-4) (Nat.zero_le n) (by omega)
  rw [Nat.sub_zero] at h
  exact h.trans (congrArg some (itF_lk it y n))
/-- the letter of a number of the law, and what it is without -/
def ltr (k : Nat) : Int32 := if k = 0 then 97 else if k = 1 then 103 else if k = 2 then 98 else if k = 3 then 114 else if k = 4 then 113 else 116
def dfl (k : Nat) : Int32 := if k = 1 then 1 else if k = 2 then 500 else if k = 3 then 1000 else if k = 5 then 90 else 0
def lw (it : Nat → Int32) (n k : Nat) : Int32 := match lk it (ltr k) n with
  | none => dfl k
  | some j => it (4 * j + 1)
theorem lawOf_def (N n : Nat) (hn : n ≤ 67) (hN : 100 < N) (im it : Nat → Int32) (h0 : im 0 = nI n) (k : Nat) (hk : k < 6) : fX10_lawOf N (nI k) im it = some (lw it n k) := by
  have key : (fX10_last N (ltr k) im it).bind (fun q54 => (if q54 < 0 then (if ¬ nI k = (1 : Int32) then (if ¬ nI k = (2 : Int32) then (if ¬ nI k = (3 : Int32) then (if ¬ nI k = (5 : Int32) then some ((0 : Int32)) else some ((90 : Int32))) else some ((1000 : Int32))) else some ((500 : Int32))) else some ((1 : Int32))) else (if ixb (q54 + (1 : Int32)) 536 = true then some ((it (q54 + (1 : Int32)).toNatClampNeg)) else none))) = some (lw it n k) := by
    rw [last_def N n hn hN _ im it h0, Option.bind_some]
    unfold lw
    cases e : lk it (ltr k) n with
    | none =>
      rw [show lkI none = (-4 : Int32) from rfl, if_pos (by decide)]
      rcases (show k = 0 ∨ k = 1 ∨ k = 2 ∨ k = 3 ∨ k = 4 ∨ k = 5 by omega) with rfl | rfl | rfl | rfl | rfl | rfl <;> rfl
    | some j =>
      have hj := (lk_lt it _ n j e).1
      rw [show lkI (some j) = nI (4 * j) from rfl, if_neg (nI_pos (by omega)), nI_1, if_pos (ixb_nI (by omega) (by decide)), nI_clamp (by omega)]
  unfold fX10_lawOf
  simp only [jn]
  rcases (show k = 0 ∨ k = 1 ∨ k = 2 ∨ k = 3 ∨ k = 4 ∨ k = 5 by omega) with rfl | rfl | rfl | rfl | rfl | rfl <;> exact key
/-- the line at a place: what the lines up to here leave as the best one -/
def lnS (x : Int32) (b : Option (Int32 × Int32)) (f y : Int32) : Option (Int32 × Int32) := match b with
  | none => if x < f then none else some (f, y)
  | some p => if x < f then some p else if f < p.1 then some p else some (f, y)
def paV (lf ly : Nat → Int32) (x : Int32) : Nat → Option (Int32 × Int32)
  | 0 => none
  | k + 1 => lnS x (paV lf ly x k) (lf k) (ly k)
def laV (it : Nat → Int32) (x : Int32) : Nat → Option (Int32 × Int32)
  | 0 => none
  | k + 1 => if it (4 * k) = 108 then lnS x (laV it x k) (it (4 * k + 1)) (it (4 * k + 2)) else laV it x k
def lnY (b : Option (Int32 × Int32)) : Int32 := match b with
  | none => 0
  | some p => p.2
theorem pa_def (N n : Nat) (hn : n ≤ 40) (hN : 100 < N) (x : Int32) (lf ly : Nat → Int32) : fX5_paintedAt N x (nI n) lf ly = some (lnY (paV lf ly x n)) := by
  unfold fX5_paintedAt jn
  have h := loopI (fun m (z : Int32 × Int32) i => fX5_paintedAt_p7 N x (nI n) lf ly (fun x3 => some x3) m z.1 z.2 (nI i)) (fun z => some z.2)
    (fun i z => if x < lf i then z else if z.1 < 0 then (nI i, ly i) else if lf i < lf z.1.toNatClampNeg then z else (nI i, ly i))
    (fun i z => (paV lf ly x i = none ∧ z = (-1, 0)) ∨ (∃ j p, j < i ∧ paV lf ly x i = some p ∧ z = (nI j, p.2) ∧ lf j = p.1)) n
    (fun m z _ => by
      show fX5_paintedAt_p7 N x (nI n) lf ly (fun x3 => some x3) (m + 1) z.1 z.2 (nI n) = some z.2
      rw [fX5_paintedAt_p7, if_pos (nI_le (Nat.le_refl n) (by omega))])
    (fun m z i hi hI => by
      rw [fX5_paintedAt_p7, if_neg (nI_ge hi (by omega)), if_neg (show ¬ (40 : Int32) ≤ nI i from nI_ge (b := 40) (by omega) (by decide)), if_pos (ixb_nI (by omega) (by decide))]
      simp only [jn, ixb_nI (show i < 40 by omega) (by decide), if_true, nI_clamp (show i < 2 ^ 31 by omega), nI_1]
      by_cases c1 : x < lf i
      · simp only [if_pos c1]
      · rcases hI with ⟨_, rfl⟩ | ⟨j, p, hj, _, rfl, _⟩
        · simp only [if_neg c1, if_pos (show (-1 : Int32) < 0 by decide)]
        · have hj2 : j < 40 := by omega
          simp only [if_neg c1, if_neg (nI_pos (show j < 2 ^ 31 by omega)), ixb_nI hj2 (by decide), if_true, nI_clamp (show j < 2 ^ 31 by omega)]
          by_cases c2 : lf i < lf j
          · simp only [if_pos c2]
          · simp only [if_neg c2])
    (fun z i hi hI => by
      rw [paV]
      rcases hI with ⟨e1, rfl⟩ | ⟨j, p, hj, e1, rfl, e2⟩
      · rw [e1]
        by_cases c1 : x < lf i
        · left; simp [lnS, c1]
        · right; exact ⟨i, (lf i, ly i), Nat.lt_succ_self i, by simp [lnS, c1], by simp [c1], rfl⟩
      · rw [e1]
        by_cases c1 : x < lf i
        · right; exact ⟨j, p, by omega, by simp [lnS, c1], by simp [c1], e2⟩
        · by_cases c2 : lf i < lf j
          · right; refine ⟨j, p, by omega, ?_, ?_, e2⟩
            · rw [e2] at c2; simp [lnS, c1, c2]
            · simp only [if_neg c1, if_neg (nI_pos (show j < 2 ^ 31 by omega)), nI_clamp (show j < 2 ^ 31 by omega), if_pos c2]
          · right; refine ⟨i, (lf i, ly i), Nat.lt_succ_self i, ?_, ?_, rfl⟩
            · rw [e2] at c2; simp [lnS, c1, c2]
            · simp only [if_neg c1, if_neg (nI_pos (show j < 2 ^ 31 by omega)), nI_clamp (show j < 2 ^ 31 by omega), if_neg c2])
    N 0 (-1, 0) (Nat.zero_le n) (by omega) (Or.inl ⟨rfl, rfl⟩)
  obtain ⟨h1, h2⟩ := h
  refine h1.trans ?_
  rcases h2 with ⟨e1, e2⟩ | ⟨j, p, _, e1, e2, _⟩
  · rw [e1, e2]; rfl
  · rw [e1, e2]; rfl
theorem la_def (N n : Nat) (hn : n ≤ 67) (hN : 100 < N) (x : Int32) (im it : Nat → Int32) (h0 : im 0 = nI n) : fX10_lineAt N x im it = some (lnY (laV it x n)) := by
  unfold fX10_lineAt jn
  have h := loopI (fun m (z : Int32) i => fX10_lineAt_p5 N x im it (fun x2_80 => (if ¬ x2_80 = (-4 : Int32) then (if ixb (x2_80 + (2 : Int32)) 536 = true then some ((it (x2_80 + (2 : Int32)).toNatClampNeg)) else none) else some ((0 : Int32)))) m z (nI i)) (fun x2_80 => (if ¬ x2_80 = (-4 : Int32) then (if ixb (x2_80 + (2 : Int32)) 536 = true then some ((it (x2_80 + (2 : Int32)).toNatClampNeg)) else none) else some ((0 : Int32))))
    (fun i z => if ¬ it (4 * i) = 108 then z else if x < it (4 * i + 1) then z else if z = -4 then nI (4 * i) else if it (4 * i + 1) < it (z + 1).toNatClampNeg then z else nI (4 * i))
    (fun i z => (laV it x i = none ∧ z = -4) ∨ (∃ j p, j < i ∧ laV it x i = some p ∧ z = nI (4 * j) ∧ it (4 * j + 1) = p.1 ∧ it (4 * j + 2) = p.2)) n
    (fun m z _ => by
      rw [fX10_lineAt_p5, sb_cl0, h0, if_pos (nI_le (Nat.le_refl n) (by omega))])
    (fun m z i hi hI => by
      have e4 : (4 : Int32) * nI i = nI (4 * i) := pk_mul 4 i
      rw [fX10_lineAt_p5, sb_cl0, h0, if_neg (nI_ge hi (by omega)), e4, if_pos (ixb_nI (by omega) (by decide))]
      simp only [jn, nI_1, ixb_nI (show 4 * i + 1 < 536 by omega) (by decide), if_true, nI_clamp (show 4 * i < 2 ^ 31 by omega), nI_clamp (show 4 * i + 1 < 2 ^ 31 by omega)]
      by_cases c0 : it (4 * i) = 108
      · simp only [c0, not_true, if_false]
        by_cases c1 : x < it (4 * i + 1)
        · simp only [if_pos c1]
        · rcases hI with ⟨_, rfl⟩ | ⟨j, p, hj, _, rfl, _⟩
          · simp only [if_neg c1, if_true]
          · have hj4 : ¬ nI (4 * j) = (-4 : Int32) := fun q => nI_pos (show 4 * j < 2 ^ 31 by omega) (by rw [q]; decide)
            simp only [if_neg c1, if_neg hj4, nI_1, ixb_nI (show 4 * j + 1 < 536 by omega) (by decide), if_true, nI_clamp (show 4 * j + 1 < 2 ^ 31 by omega)]
            by_cases c2 : it (4 * i + 1) < it (4 * j + 1)
            · simp only [if_pos c2]
            · simp only [if_neg c2]
      · simp only [c0, not_false_iff, if_true])
    (fun z i hi hI => by
      rw [laV]
      by_cases c0 : it (4 * i) = 108
      · rw [if_pos c0, if_neg (fun q => q c0)]
        rcases hI with ⟨e1, rfl⟩ | ⟨j, p, hj, e1, rfl, e2, e3⟩
        · rw [e1]
          by_cases c1 : x < it (4 * i + 1)
          · left; simp [lnS, c1]
          · right; exact ⟨i, (it (4 * i + 1), it (4 * i + 2)), Nat.lt_succ_self i, by simp [lnS, c1], by simp [c1], rfl, rfl⟩
        · rw [e1]
          have hj4 : ¬ nI (4 * j) = (-4 : Int32) := fun q => nI_pos (show 4 * j < 2 ^ 31 by omega) (by rw [q]; decide)
          by_cases c1 : x < it (4 * i + 1)
          · right; exact ⟨j, p, by omega, by simp [lnS, c1], by simp [c1], e2, e3⟩
          · by_cases c2 : it (4 * i + 1) < it (4 * j + 1)
            · right; refine ⟨j, p, by omega, ?_, ?_, e2, e3⟩
              · rw [e2] at c2; simp [lnS, c1, c2]
              · simp only [if_neg c1, if_neg hj4, nI_1, nI_clamp (show 4 * j + 1 < 2 ^ 31 by omega), if_pos c2]
            · right; refine ⟨i, (it (4 * i + 1), it (4 * i + 2)), Nat.lt_succ_self i, ?_, ?_, rfl, rfl⟩
              · rw [e2] at c2; simp [lnS, c1, c2]
              · simp only [if_neg c1, if_neg hj4, nI_1, nI_clamp (show 4 * j + 1 < 2 ^ 31 by omega), if_neg c2]
      · rw [if_neg c0, if_pos c0]
        rcases hI with h | ⟨j, p, hj, h⟩
        · exact Or.inl h
        · exact Or.inr ⟨j, p, by omega, h⟩)
    N 0 (-4) (Nat.zero_le n) (by omega) (Or.inl ⟨rfl, rfl⟩)
  obtain ⟨h1, h2⟩ := h
  refine h1.trans ?_
  rcases h2 with ⟨e1, e2⟩ | ⟨j, p, hj, e1, e2, _, e3⟩
  · rw [e1, e2]; rfl
  · have hj4 : ¬ nI (4 * j) = (-4 : Int32) := fun q => nI_pos (show 4 * j < 2 ^ 31 by omega) (by rw [q]; decide)
    have e5 : nI (4 * j) + (2 : Int32) = nI (4 * j + 2) := nI_add _ 2
    rw [e1, e2, if_pos hj4, e5, if_pos (ixb_nI (by omega) (by decide)), nI_clamp (by omega), e3]
    rfl
/-- the laws laid are alike -/
def RLw (lc ws wx wd wh items : Int32) (nb lf ly im it : Nat → Int32) : Prop := ∃ n ln : Nat, n ≤ 67 ∧ ln ≤ 40 ∧ items = nI n ∧ im 0 = nI n ∧ lc = nI ln ∧ (∀ k, k < 6 → nb k = lw it n k) ∧ (∀ x, paV lf ly x ln = laV it x n) ∧ (match lk it 107 n with | none => ws = 0 | some j => ws = 1 ∧ wx = it (4 * j + 1) ∧ wd = it (4 * j + 2) ∧ wh = it (4 * j + 3)) ∧ (0 ≤ (nb 0).toInt ∧ (nb 0).toInt ≤ 500)
theorem num_c (N k : Nat) (hk : k < 6) (nb : Nat → Int32) : fX5_number N (nI k) nb = some (nb k) := by
  unfold fX5_number
  rw [if_neg (nI_pos (by omega)), if_neg (show ¬ (6 : Int32) ≤ nI k from nI_ge (b := 6) hk (by decide)), if_pos (ixb_nI hk (by decide)), nI_clamp (by omega)]
theorem start_c (N k : Nat) (hk : k < 6) (nb : Nat → Int32) : fX8_startOf N (nI k) nb = some (nb k) := by
  unfold fX8_startOf
  rw [if_neg (nI_pos (by omega)), if_neg (show ¬ (6 : Int32) ≤ nI k from nI_ge (b := 6) hk (by decide)), if_pos (ixb_nI hk (by decide)), nI_clamp (by omega)]
theorem law_eq (N : Nat) (hN : 100 < N) (a1 : Int32) {lc ws wx wd wh items : Int32} {nb lf ly im it : Nat → Int32} (hR : RLw lc ws wx wd wh items nb lf ly im it) : ∃ r, fX9_law N a1 nb = some r ∧ fX10_law N a1 im it = some r := by
  obtain ⟨n, ln, hn, hl, -, h0, -, h1, -⟩ := hR
  unfold fX9_law fX10_law
  rw [wi_def, in_def N a1 0 5 0 5 rfl rfl, Option.bind_some, Option.bind_some]
  by_cases c1 : wi a1 0 5 = 0
  · rw [if_pos c1, if_pos c1]; exact ⟨_, rfl, rfl⟩
  · rw [if_neg c1, if_neg c1]
    obtain ⟨k, hk, rfl⟩ := wi_ok (m := 5) (by decide) c1
    rw [num_c N k (by omega), lawOf_def N n hn hN im it h0 k (by omega), h1 k (by omega)]
    exact ⟨_, rfl, rfl⟩
theorem line_eq (N : Nat) (hN : 100 < N) (a1 : Int32) {lc ws wx wd wh items : Int32} {nb lf ly im it : Nat → Int32} (hR : RLw lc ws wx wd wh items nb lf ly im it) : ∃ r, fX9_line N a1 lc lf ly = some r ∧ fX10_line N a1 im it = some r := by
  obtain ⟨n, ln, hn, hl, -, h0, rfl, -, h2, -⟩ := hR
  unfold fX9_line fX10_line fX9_onField
  rw [wi_def, in_def N a1 (-100000) 100000 (-100000) 100000 rfl rfl]
  simp only [Option.bind_some]
  by_cases c1 : wi a1 (-100000) 100000 = 0
  · rw [if_pos c1, if_pos c1]; exact ⟨_, rfl, rfl⟩
  · rw [if_neg c1, if_neg c1, pa_def N ln hl hN, la_def N n hn hN a1 im it h0, h2]
    exact ⟨_, rfl, rfl⟩
