/-! the models' words: a continuation that several ways share; an index that is in its row -/
def jn {α β : Type} (k : α) (f : α → β) : β := f k
theorem jn_e {α β : Type} {k : α} {f : α → β} {r : β} (h : jn k f = r) : ∃ k', k' = k ∧ f k' = r := ⟨k, rfl, h⟩
def ixb (i : Int32) (n : Nat) : Bool := decide (0 ≤ i.toInt ∧ i.toInt < (n : Int))
theorem ixk {i : Int32} {n : Nat} (h : ixb i n = true) : vp_in i n := vp_in_iff.mpr (of_decide_eq_true h)
theorem oi_t {α : Type} {c : Prop} {d : Decidable c} {a b : Option α} {r : α} (h : @ite (Option α) c d a b = some r) (hc : c) : a = some r := by rw [if_pos hc] at h; exact h
theorem oi_f {α : Type} {c : Prop} {d : Decidable c} {a b : Option α} {r : α} (h : @ite (Option α) c d a b = some r) (hc : ¬ c) : b = some r := by rw [if_neg hc] at h; exact h
theorem oi_n {α : Type} {c : Prop} {d : Decidable (¬ c)} {a b : Option α} {r : α} (h : @ite (Option α) (¬ c) d a b = some r) (hc : c) : b = some r := by rw [if_neg (fun k => k hc)] at h; exact h
theorem oi_g {α : Type} {c : Prop} {d : Decidable c} {a : Option α} {r : α} (h : @ite (Option α) c d a none = some r) : c ∧ a = some r := by
  by_cases hc : c
  · rw [if_pos hc] at h; exact ⟨hc, h⟩
  · rw [if_neg hc] at h; cases h
theorem oi_x {α : Type} {i : Int32} {n : Nat} {d : Decidable (ixb i n = true)} {a : Option α} {r : α} (h : @ite (Option α) (ixb i n = true) d a none = some r) : vp_in i n ∧ a = some r := ⟨ixk (oi_g h).1, (oi_g h).2⟩
theorem ob_e {α β : Type} {x : Option α} {f : α → Option β} {r : β} (h : x.bind f = some r) : ∃ y, x = some y ∧ f y = some r := Option.bind_eq_some_iff.mp h
theorem on_e {α : Type} {r : α} {P : Prop} (h : (none : Option α) = some r) : P := nomatch h
theorem nz_b {x : Int32} (h : x = 0 ∨ x = 1) : narrow .boolean (.int x) = .int x := by rcases h with h | h <;> subst h <;> rfl
/-! the constant rows of the class, and the words of nest mates, as they stand at a state -/
def wv (f : Nat → Int32) : Nat → Value := fun j => .int (f j)
def tb (l : List Int32) : Nat → Int32 := fun j => l.getD j 0

def tb_Item_LETTERS : Nat → Int32 := tb [97, 103, 98, 114, 113, 116, 108, 107]
def tb_Item_AMOUNTS : Nat → Int32 := tb [1, 1, 1, 1, 1, 1, 2, 3]
def tb_Item_FIRST_BOUNDS : Nat → Int32 := tb [0, 1, 2, 3, 4, 5, 6, 8]
def tb_Item_LOWEST : Nat → Int32 := tb [0, 0, 0, 0, 0, 51, -9999, -9999, -9999, 0, 0]
def tb_Item_HIGHEST : Nat → Int32 := tb [500, 100, 1000, 1000, 100, 100, 9999, 9999, 9999, 9999, 9999]
def tb_Law_WITHOUT : Nat → Int32 := tb [0, 1, 500, 1000, 0, 90]
def tb_World_LOWEST : Nat → Int32 := tb [-100000, -100000, 0, -2000, -2000, -2000]
def tb_World_HIGHEST : Nat → Int32 := tb [100000, 100000, 100000, 2000, 2000, 2000]
