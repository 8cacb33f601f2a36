def bX (d : Nat) : Int32 := if d = 0 then -8 else nI (8 * (d - 1))
def bY (d : Nat) : Int32 := if d = 0 then -1 else nI (d - 1)
def wB (v : Int64) : Nat → Nat → (Nat → Int32) → (Nat → Int32)
  | 0, _, bt => bt
  | d + 1, len, bt => wB v d (len + 1) (upd bt len ((v.toUInt64 >>> ((nI (8 * d)).toInt64.toUInt64 &&& Int64.toUInt64 63)).toInt64.toInt32 &&& (255 : Int32)))
theorem bX_step (d : Nat) : nI (8 * d) + (-8) = bX d := by
  unfold bX
  rcases Nat.eq_zero_or_pos d with q | q
  · subst q; rfl
  · obtain ⟨m, rfl⟩ : ∃ m, d = m + 1 := ⟨d - 1, by omega⟩
    rw [if_neg (by omega), show 8 * (m + 1) = 8 * m + 8 by omega, ← nI_add, Int32.add_assoc, show nI 8 + (-8 : Int32) = 0 from rfl, Int32.add_zero]
    rfl
theorem bY_step (d : Nat) : nI d + (-1) = bY d := by
  unfold bY
  rcases Nat.eq_zero_or_pos d with q | q
  · subst q; rfl
  · obtain ⟨m, rfl⟩ : ∃ m, d = m + 1 := ⟨d - 1, by omega⟩
    rw [if_neg (by omega), pk_m1]
    rfl
theorem app_c (N : Nat) (v : Int64) (K : Int32 → (Nat → Int32) → Option (Int32 × Int32 × (Nat → Int32))) : ∀ (d len m : Nat) (bt : Nat → Int32), d < m → d ≤ 8 → len + d ≤ 200 → fX6_append_p23 N v K m (bX d) (nI len) bt = K (nI (len + d)) (wB v d len bt)
  | 0, len, m, bt, hm, _, hl => by
    obtain ⟨m, rfl⟩ : ∃ z, m = z + 1 := ⟨m - 1, by omega⟩
    rw [fX6_append_p23, if_pos (show bX 0 < 0 by decide)]
    rfl
  | d + 1, len, m, bt, hm, h8, hl => by
    obtain ⟨m, rfl⟩ : ∃ z, m = z + 1 := ⟨m - 1, by omega⟩
    rw [fX6_append_p23, show bX (d + 1) = nI (8 * d) from rfl, if_neg (nI_pos (by omega)), if_neg (show ¬ (200 : Int32) ≤ nI len from nI_ge (b := 200) (by omega) (by decide)), if_pos (ixb_nI (by omega) (by decide)), bX_step, nI_1, nI_clamp (by omega), app_c N v K d (len + 1) m _ (by omega) (by omega) (by omega), show len + 1 + d = len + (d + 1) by omega]
    rfl
theorem app_r (N : Nat) (v : Int64) (K : Int32 → (Nat → Int32) → Option (Int32 × Int32 × (Nat → Int32))) : ∀ (d len m : Nat) (bt : Nat → Int32), d < m → d ≤ 8 → len + d ≤ 200 → fX10_write_p34 N v K m (bY d) (nI len) bt = K (nI (len + d)) (wB v d len bt)
  | 0, len, m, bt, hm, _, hl => by
    obtain ⟨m, rfl⟩ : ∃ z, m = z + 1 := ⟨m - 1, by omega⟩
    rw [fX10_write_p34, if_pos (show bY 0 < 0 by decide)]
    rfl
  | d + 1, len, m, bt, hm, h8, hl => by
    obtain ⟨m, rfl⟩ : ∃ z, m = z + 1 := ⟨m - 1, by omega⟩
    have e8 : (8 : Int32) * nI d = nI (8 * d) := pk_mul 8 d
    rw [fX10_write_p34, show bY (d + 1) = nI d from rfl, if_neg (nI_pos (by omega)), if_pos (ixb_nI (by omega) (by decide)), bY_step, nI_1, nI_clamp (by omega), e8, ← byte_eq v d (by omega), app_r N v K d (len + 1) m _ (by omega) (by omega) (by omega), show len + 1 + d = len + (d + 1) by omega]
    rfl
theorem wi_ok1 {v : Int32} {m : Nat} (hm : m < 2 ^ 31) (h : ¬ wi v 1 (nI m) = 0) : ∃ n : Nat, n + 1 ≤ m ∧ v = nI (n + 1) := by
  unfold wi at h
  by_cases c1 : v < 1
  · rw [if_pos c1] at h; exact absurd rfl h
  · rw [if_neg c1] at h
    by_cases c2 : nI m < v
    · rw [if_pos c2] at h; exact absurd rfl h
    · have c3 : ¬ v < 0 := fun z => c1 (by rw [fa_lt] at z ⊢; have : (1 : Int32).toInt = 1 := rfl; have : (0 : Int32).toInt = 0 := rfl; omega)
      obtain ⟨n, hn, rfl⟩ := nI_of2 (M := nI m) (nI_toInt hm) c3 (fa_of_nlt c2)
      rcases Nat.eq_zero_or_pos n with q | q
      · subst q; exact absurd (show nI 0 < 1 by decide) c1
      · exact ⟨n - 1, by omega, by rw [show n - 1 + 1 = n by omega]⟩
theorem write_eq (N : Nat) (hN : 20 < N) (a1 : Int32) (v : Int64) {len mlen : Int32} {bt mt : Nat → Int32} (hR : RT len bt mlen mt) : ∃ q z, fX9_write N a1 v len bt = some q ∧ fX10_write N a1 v mlen mt = some z ∧ q.1 = z.1 ∧ RT q.2.1 q.2.2 z.2.1 z.2.2 := by
  obtain ⟨n, hn, rfl, rfl, rfl⟩ := id hR
  unfold fX9_write fX10_write
  rw [wi_def, in_def N a1 1 8 1 8 rfl rfl, Option.bind_some, Option.bind_some]
  by_cases c1 : wi a1 1 8 = 0
  · rw [if_pos c1, if_neg (fun z => z c1)]; exact ⟨_, _, rfl, rfl, rfl, hR⟩
  · rw [if_neg c1, if_pos c1]
    obtain ⟨d, hd, rfl⟩ := wi_ok1 (m := 8) (by decide) c1
    unfold fX6_append
    rw [nI_add]
    have e1 : (8 : Int32) * (nI (d + 1) - 1) = bX (d + 1) := by rw [nI_pred]; exact pk_mul 8 d
    have e2 : nI (d + 1) - 1 = bY (d + 1) := nI_pred d
    by_cases c2 : n + (d + 1) ≤ 200
    · have c3 : nI (n + (d + 1)) ≤ (200 : Int32) := nI_le (b := 200) c2 (by decide)
      rw [if_pos c3, if_pos c3, e1, e2]
      simp only [jn]
      rw [app_c N v _ (d + 1) n N bt (by omega) (by omega) c2, app_r N v _ (d + 1) n N bt (by omega) (by omega) c2]
      exact ⟨_, _, rfl, rfl, rfl, n + (d + 1), c2, rfl, rfl, rfl⟩
    · have c3 : ¬ nI (n + (d + 1)) ≤ (200 : Int32) := nI_ge (a := 200) (by omega) (by omega)
      rw [if_neg c3, if_neg c3]
      exact ⟨_, _, rfl, rfl, rfl, hR⟩
theorem wipe_eq (N : Nat) {len mlen : Int32} {bt mt : Nat → Int32} (hR : RT len bt mlen mt) : ∃ q z, fX9_wipe N len = some q ∧ fX10_wipe N mlen = some z ∧ q.1 = z.1 ∧ RT q.2 bt z.2 mt := by
  obtain ⟨n, hn, rfl, rfl, rfl⟩ := hR
  exact ⟨_, _, rfl, rfl, rfl, 0, by omega, rfl, rfl, rfl⟩
