/-! loops of the models, as folds -/
def itF {α : Type} (g : Nat → α → α) : Nat → Nat → α → α
  | _, 0, x => x
  | i, m + 1, x => itF g (i + 1) m (g i x)
theorem itF_succ {α : Type} (g : Nat → α → α) : ∀ (m i : Nat) (x : α), itF g i (m + 1) x = g (i + m) (itF g i m x)
  | 0, _, _ => rfl
  | m + 1, i, x => by
    have h := itF_succ g m (i + 1) (g i x)
    show itF g (i + 1) (m + 1) (g i x) = g (i + (m + 1)) (itF g (i + 1) m (g i x))
    rw [h, show i + 1 + m = i + (m + 1) by omega]
theorem loopI {α R : Type} (F : Nat → α → Nat → R) (K : α → R) (g : Nat → α → α) (I : Nat → α → Prop) (a : Nat) (hx : ∀ n x, I a x → F (n + 1) x a = K x) (hs : ∀ n x i, i < a → I i x → F (n + 1) x i = F n (g i x) (i + 1)) (hI : ∀ x i, i < a → I i x → I (i + 1) (g i x)) : ∀ (n i : Nat) (x : α), i ≤ a → a - i < n → I i x → F n x i = K (itF g i (a - i) x) ∧ I a (itF g i (a - i) x)
  | 0, _, _, _, h2, _ => absurd h2 (Nat.not_lt_zero _)
  | n + 1, i, x, h1, h2, h3 => by
    rcases Nat.lt_or_ge i a with q | q
    · have e : a - i = (a - (i + 1)) + 1 := by omega
      have ih := loopI F K g I a hx hs hI n (i + 1) (g i x) q (by omega) (hI x i q h3)
      rw [hs n x i q h3, e]
      exact ih
    · have e : i = a := by omega
      subst e
      rw [Nat.sub_self]
      exact ⟨hx n x h3, h3⟩
theorem loopF {α R : Type} (F : Nat → α → Nat → R) (K : α → R) (g : Nat → α → α) (a : Nat) (hx : ∀ n x, F (n + 1) x a = K x) (hs : ∀ n x i, i < a → F (n + 1) x i = F n (g i x) (i + 1)) (n i : Nat) (x : α) (h1 : i ≤ a) (h2 : a - i < n) : F n x i = K (itF g i (a - i) x) :=
  (loopI F K g (fun _ _ => True) a (fun n x _ => hx n x) (fun n x i h _ => hs n x i h) (fun _ _ _ _ => trivial) n i x h1 h2 trivial).1
theorem ixb_nI {i n : Nat} (h : i < n) (hn : n < 2 ^ 31) : ixb (nI i) n = true := by
  unfold ixb
  rw [nI_toInt (Nat.lt_trans h hn)]
  exact decide_eq_true ⟨by omega, by omega⟩
theorem itF_cnt (p : Nat → Bool) : ∀ (m c : Nat), itF (fun i x => x + (if p i then 1 else 0 : Int32)) 0 m (nI c) = nI (c + fb_ct p m)
  | 0, c => by simp [itF, fb_ct]
  | m + 1, c => by
    rw [itF_succ, itF_cnt p m c, fb_ct_succ, Nat.zero_add]
    by_cases h : p m = true
    · rw [if_pos h, if_pos h]; exact nI_1 _
    · rw [if_neg h, if_neg h, Nat.add_zero]; exact Int32.add_zero _
def wi (a b c : Int32) : Int32 := if a < b then 0 else if c < a then 0 else 1
theorem wi_def (N : Nat) (a b c : Int32) : fX9_within N a b c = some (wi a b c) := by
  unfold fX9_within wi
  by_cases h : a < b
  · simp [h]
  · by_cases h2 : c < a <;> simp [h, h2]
theorem lg_lt (x y : Int64) : lg_cmp x y < 0 ↔ x < y := by
  unfold lg_cmp
  by_cases h : y < x
  · simp only [h, if_true]
    constructor
    · intro q; exact absurd q (by decide)
    · intro q; rw [fa_lt64] at *; omega
  · by_cases h2 : x = y
    · subst h2
      simp [h]
    · have h3 : x < y := by rw [fa_lt64] at *; rw [fa_eq64] at h2; omega
      simp [h, h2, h3]
theorem lg_gt (x y : Int64) : 0 < lg_cmp x y ↔ y < x := by
  unfold lg_cmp
  by_cases h : y < x
  · simp [h]
  · by_cases h2 : x = y
    · subst h2
      simp [h]
    · simp [h, h2]
theorem in_def (N : Nat) (a b c : Int32) (bl cl : Int64) (hb : bl = b.toInt64) (hc : cl = c.toInt64) : fX10_in N a.toInt64 bl cl = some (wi a b c) := by
  subst hb; subst hc
  unfold fX10_in wi
  simp only [lg_lt, lg_gt, fa_wide_lt]
  by_cases h : a < b
  · simp [h]
  · by_cases h2 : c < a <;> simp [h, h2]
