/-! the common divisor, by both roads -/
theorem lg_0 {y : Nat} (h : y < 2 ^ 63) : lg_cmp (lN y) 0 = 0 ↔ y = 0 := by
  have e : (0 : Int64) = lN 0 := rfl
  unfold lg_cmp
  rw [e]
  rcases Nat.eq_zero_or_pos y with q | q
  · subst q; simp
  · have h1 : lN 0 < lN y := (pk_lLT (by decide) h).mpr q
    simp [h1]; omega
theorem lN_ne0 {y : Nat} (h : y < 2 ^ 63) (h0 : 0 < y) : ¬ lN y = 0 := fun z => by
  have := (pk_lEQ (a := y) (b := 0) h (by decide)).mp z
  omega
theorem half_mod {x y k : Nat} (hy : 0 < y) (hz : 0 < x % y) (h : y < 2 ^ (k + 1)) : y % (x % y) < 2 ^ k := by
  have h1 := Nat.mod_lt x hy
  have h2 := Nat.mod_lt y hz
  have h3 : y % (x % y) ≤ y - x % y := by
    rw [Nat.mod_eq_sub_mod (Nat.le_of_lt h1)]
    exact Nat.mod_le _ _
  have h4 : 2 ^ (k + 1) = 2 * 2 ^ k := by rw [Nat.pow_succ]; omega
  omega
theorem gcd_step (x y : Nat) : Nat.gcd x y = Nat.gcd y (x % y) := by
  rw [Nat.gcd_comm x y, Nat.gcd_rec y x, Nat.gcd_comm]
theorem cm_def (N : Nat) (K : Int64 → Option Int64) : ∀ (k n x y : Nat), x < 2 ^ 63 → y < 2 ^ 63 → y < 2 ^ k → 2 * k < n → fX10_common_p6 N K n (lN x) (lN y) = K (lN (Nat.gcd x y))
  | 0, n, x, y, hx, _, hy, hn => by
    obtain ⟨n, rfl⟩ : ∃ m, n = m + 1 := ⟨n - 1, by omega⟩
    have : y = 0 := by simpa using hy
    subst this
    rw [fX10_common_p6, if_pos ((lg_0 (by decide)).mpr rfl), Nat.gcd_zero_right]
  | k + 1, n, x, y, hx, hy63, hy, hn => by
    obtain ⟨n, rfl⟩ : ∃ m, n = m + 2 := ⟨n - 2, by omega⟩
    rcases Nat.eq_zero_or_pos y with q | q
    · subst q
      rw [fX10_common_p6, if_pos ((lg_0 (by decide)).mpr rfl), Nat.gcd_zero_right]
    · rw [fX10_common_p6, if_neg (fun z => by have := (lg_0 hy63).mp z; omega), if_pos (lN_ne0 hy63 q), pk_lRem hx q hy63, gcd_step x y]
      have hm := Nat.mod_lt x q
      rcases Nat.eq_zero_or_pos (x % y) with q2 | q2
      · rw [q2, fX10_common_p6, if_pos ((lg_0 (by decide)).mpr rfl), Nat.gcd_zero_right]
      · rw [fX10_common_p6, if_neg (fun z => by have := (lg_0 (show x % y < 2 ^ 63 by omega)).mp z; omega), if_pos (lN_ne0 (by omega) q2), pk_lRem hy63 q2 (by omega), gcd_step y (x % y)]
        exact cm_def N K k n (x % y) (y % (x % y)) (by omega) (by have := Nat.mod_lt y q2; omega) (half_mod q q2 hy) (by omega)
theorem cd_def (N : Nat) (K : Int64 → Option Int64) : ∀ (k n x y i : Nat), x < 2 ^ 63 → y < 2 ^ 63 → y < 2 ^ k → 2 * k < n → i + 2 * k < 200 → fX0_commonDivisor_p3 N K n (lN x) (lN y) (nI i) = K (lN (Nat.gcd x y))
  | 0, n, x, y, i, hx, _, hy, hn, hi => by
    obtain ⟨n, rfl⟩ : ∃ m, n = m + 1 := ⟨n - 1, by omega⟩
    have : y = 0 := by simpa using hy
    subst this
    rw [fX0_commonDivisor_p3, if_neg (show ¬ (200 : Int32) ≤ nI i from nI_ge (b := 200) (by omega) (by decide)), if_pos ((lg_0 (by decide)).mpr rfl), Nat.gcd_zero_right]
  | k + 1, n, x, y, i, hx, hy63, hy, hn, hi => by
    obtain ⟨n, rfl⟩ : ∃ m, n = m + 2 := ⟨n - 2, by omega⟩
    rcases Nat.eq_zero_or_pos y with q | q
    · subst q
      rw [fX0_commonDivisor_p3, if_neg (show ¬ (200 : Int32) ≤ nI i from nI_ge (b := 200) (by omega) (by decide)), if_pos ((lg_0 (by decide)).mpr rfl), Nat.gcd_zero_right]
    · rw [fX0_commonDivisor_p3, if_neg (show ¬ (200 : Int32) ≤ nI i from nI_ge (b := 200) (by omega) (by decide)), if_neg (fun z => by have := (lg_0 hy63).mp z; omega), if_pos (lN_ne0 hy63 q), pk_lRem hx q hy63, gcd_step x y, nI_1]
      have hm := Nat.mod_lt x q
      rcases Nat.eq_zero_or_pos (x % y) with q2 | q2
      · rw [q2, fX0_commonDivisor_p3, if_neg (show ¬ (200 : Int32) ≤ nI (i + 1) from nI_ge (b := 200) (by omega) (by decide)), if_pos ((lg_0 (by decide)).mpr rfl), Nat.gcd_zero_right]
      · rw [fX0_commonDivisor_p3, if_neg (show ¬ (200 : Int32) ≤ nI (i + 1) from nI_ge (b := 200) (by omega) (by decide)), if_neg (fun z => by have := (lg_0 (show x % y < 2 ^ 63 by omega)).mp z; omega), if_pos (lN_ne0 (by omega) q2), pk_lRem hy63 q2 (by omega), gcd_step y (x % y), nI_1]
        exact cd_def N K k n (x % y) (y % (x % y)) (i + 1 + 1) (by omega) (by have := Nat.mod_lt y q2; omega) (half_mod q q2 hy) (by omega) (by omega)
