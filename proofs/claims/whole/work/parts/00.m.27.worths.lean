theorem nI_sub1 {n : Nat} (h : 0 < n) : nI n - 1 = nI (n - 1) := by
  obtain ⟨m, rfl⟩ : ∃ m, n = m + 1 := ⟨n - 1, by omega⟩
  rw [nI_pred]; rfl
theorem up_s {f : Nat → Int64} {k : Nat} {x : Int64} : vp_updL f k x k = x := pk_uLs
theorem up_n {f : Nat → Int64} {k j : Nat} {x : Int64} (h : j ≠ k) : vp_updL f k x j = f j := pk_uLn h
/-- rows below n hold, and k places of row n -/
def RB (p r : Nat → Nat) (n k : Nat) (c4 : Nat → Int64) : Prop := (∀ m, m < n → ∀ j, j ≤ 8 → c4 (9 * m + j) = lN (WN p r m j)) ∧ ∀ j, j < k → c4 (9 * n + j) = lN (WN p r n j)
theorem RB_up {p r : Nat → Nat} {n k : Nat} {c4 : Nat → Int64} (hk : k < 9) (h : RB p r n k c4) : RB p r n (k + 1) (vp_updL c4 (9 * n + k) (lN (WN p r n k))) := by
  refine ⟨fun m hm j hj => ?_, fun j hj => ?_⟩
  · rw [up_n (by omega)]; exact h.1 m hm j hj
  · by_cases q : j = k
    · subst q; exact up_s
    · rw [up_n (by omega)]; exact h.2 j (by omega)
theorem RB_next {p r : Nat → Nat} {n : Nat} {c4 : Nat → Int64} (h : RB p r n 9 c4) : RB p r (n + 1) 0 c4 := by
  refine ⟨fun m hm j hj => ?_, fun j hj => absurd hj (Nat.not_lt_zero _)⟩
  rcases (show m < n ∨ m = n by omega) with q | q
  · exact h.1 m q j hj
  · subst q; exact h.2 j (by omega)
theorem row_c (N : Nat) (hN : 20 < N) {p r : Nat → Nat} (hp : fb_sm p 4 = 10) (hp1 : ∀ s, p s ≤ 10) (hr : ∀ s, r s ≤ 10) {comes right : Nat → Int32} (hC : ∀ s, s < 4 → comes s = nI (p s)) (hR : ∀ s, s < 4 → right s = nI (r s)) {c3 : Nat → Int64} {n : Nat} (hn : n ≤ 8) (h3 : ∀ m, m ≤ n → c3 m = lN (100 ^ m)) (y1 : Int64) (K : (Nat → Int64) → Option (Int32 × (Nat → Int64) × (Nat → Int64))) {c4 : Nat → Int64} (h4 : RB p r n 0 c4) : ∃ c4', RB p r n 9 c4' ∧ fX0_learn_p39 N y1 (nI n) comes right c3 K N (0 : Int32) c4 = K c4' := by
  have h := loopI (fun m (x : Nat → Int64) k => fX0_learn_p39 N y1 (nI n) comes right c3 K m (nI k) x) K (fun k x => vp_updL x (9 * n + k) (lN (WN p r n k))) (fun k x => RB p r n k x) 9
    (fun m x _ => by
      show fX0_learn_p39 N y1 (nI n) comes right c3 K (m + 1) (nI 9) x = K x
      rw [fX0_learn_p39, if_pos (show (9 : Int32) ≤ nI 9 by decide)])
    (fun m x k hk hI => by
      show fX0_learn_p39 N y1 (nI n) comes right c3 K (m + 1) (nI k) x = fX0_learn_p39 N y1 (nI n) comes right c3 K m (nI (k + 1)) (vp_updL x (9 * n + k) (lN (WN p r n k)))
      have e : nI n * (9 : Int32) + nI k = nI (9 * n + k) := by rw [show (9 : Int32) = nI 9 from rfl, pk_mul, nI_add, Nat.mul_comm]
      rw [fX0_learn_p39, if_neg (show ¬ (9 : Int32) ≤ nI k from nI_ge (b := 9) hk (by decide))]
      simp only [jn, e, ixb_nI (show 9 * n + k < 81 by omega) (by decide), if_true, nI_clamp (show 9 * n + k < 2 ^ 31 by omega), nI_1]
      rcases Nat.eq_zero_or_pos n with q | q
      · subst q
        rw [if_neg (fun z => z (show nI 0 = 0 from rfl))]
        rfl
      · rw [if_pos (nI_ne0 q (by omega)), nI_sub1 q, avg_c N (by omega) hp hp1 hr hC hR (by omega) (by omega) ⟨h3 (n - 1) (by omega), fun j hj => hI.1 (n - 1) (by omega) j hj⟩, Option.bind_some, show n - 1 + 1 = n by omega])
    (fun x k hk hI => RB_up hk hI)
    N 0 c4 (by decide) (by omega) h4
  exact ⟨_, h.2, h.1⟩
theorem learn_c (N : Nat) (hN : 20 < N) {p r : Nat → Nat} (hp : fb_sm p 4 = 10) (hp1 : ∀ s, p s ≤ 10) (hr : ∀ s, r s ≤ 10) {comes right : Nat → Int32} (hC : ∀ s, s < 4 → comes s = nI (p s)) (hR : ∀ s, s < 4 → right s = nI (r s)) (c3 c4 : Nat → Int64) : ∃ c3' c4', (∀ n, n ≤ 8 → TV p r c3' c4' n) ∧ fX0_learn N 0 comes right c3 c4 = some (1, c3', c4') := by
  have key : ∀ (d n m : Nat) (c3 c4 : Nat → Int64), n + d = 9 → d < m → (∀ j, j < n → c3 j = lN (100 ^ j)) → RB p r n 0 c4 → ∃ c3' c4', (∀ n, n ≤ 8 → TV p r c3' c4' n) ∧ fX0_learn_p17 N comes right (fun c3 c4 => some ((1 : Int32), c3, c4)) m (lN (100 ^ n)) (nI n) c3 c4 = some (1, c3', c4') := by
    intro d
    induction d with
    | zero =>
      intro n m c3 c4 hd hm h3 h4
      obtain ⟨m, rfl⟩ : ∃ z, m = z + 1 := ⟨m - 1, by omega⟩
      have : n = 9 := by omega
      subst this
      refine ⟨c3, c4, fun n hn => ⟨h3 n (by omega), fun k hk => h4.1 n (by omega) k hk⟩, ?_⟩
      rw [fX0_learn_p17, if_pos (show (9 : Int32) ≤ nI 9 by decide)]
    | succ d ih =>
      intro n m c3 c4 hd hm h3 h4
      obtain ⟨m, rfl⟩ : ∃ z, m = z + 1 := ⟨m - 1, by omega⟩
      have h3' : ∀ j, j ≤ n → vp_updL c3 n (lN (100 ^ n)) j = lN (100 ^ j) := fun j hj => by
        by_cases q : j = n
        · subst q; exact up_s
        · rw [up_n q]; exact h3 j (by omega)
      rw [fX0_learn_p17, if_neg (show ¬ (9 : Int32) ≤ nI n from nI_ge (b := 9) (by omega) (by decide)), if_pos (ixb_nI (by omega) (by decide))]
      simp only [jn, nI_clamp (show n < 2 ^ 31 by omega)]
      obtain ⟨c4', e1, e2⟩ := row_c N hN hp hp1 hr hC hR (show n ≤ 8 by omega) h3' (lN (100 ^ n) * (100 : Int64)) (fun c4_81 => fX0_learn_p17 N comes right (fun c3 c4 => some ((1 : Int32), c3, c4)) m (lN (100 ^ n) * (100 : Int64)) (nI n + (1 : Int32)) (vp_updL c3 n (lN (100 ^ n))) c4_81) h4
      rw [e2, show (100 : Int64) = lN 100 from rfl, lN_mul, ← Nat.pow_succ, nI_1]
      exact ih (n + 1) m _ _ (by omega) (by omega) (fun j hj => h3' j (by omega)) (RB_next e1)
  unfold fX0_learn jn
  rw [if_pos rfl]
  exact key 9 0 N c3 c4 rfl (by omega) (fun j hj => absurd hj (Nat.not_lt_zero _)) ⟨fun m hm => absurd hm (Nat.not_lt_zero _), fun j hj => absurd hj (Nat.not_lt_zero _)⟩
/-! the reference's table -/
theorem ask_r (N : Nat) {p r : Nat → Nat} (hr : ∀ s, r s ≤ 10) {right : Nat → Int32} (hR : ∀ s, s < 4 → right s = nI (r s)) {c3 c4 : Nat → Int64} {n k s : Nat} (hn : n ≤ 8) (hk : k ≤ 8) (hk0 : 0 < k) (hs : s < 4) (hT : TV p r c3 c4 n) : fX10_asked N (nI n) (nI k) (nI s) c3 right c4 = some (lN (AN p r n k s)) := by
  obtain ⟨m, rfl⟩ : ∃ m, k = m + 1 := ⟨k - 1, by omega⟩
  have e : (9 : Int32) * nI n + nI (m + 1) = nI (9 * n + m + 1) := by rw [show (9 : Int32) = nI 9 from rfl, pk_mul, nI_add, Nat.add_assoc]
  unfold fX10_asked
  rw [e, nI_pred]
  simp only [ixb_nI hs (by decide), ixb_nI (show n < 9 by omega) (by decide), ixb_nI (show 9 * n + m + 1 < 81 by omega) (by decide), ixb_nI (show 9 * n + m < 81 by omega) (by decide), if_true, nI_clamp (show s < 2 ^ 31 by omega), nI_clamp (show n < 2 ^ 31 by omega), nI_clamp (show 9 * n + m + 1 < 2 ^ 31 by omega), nI_clamp (show 9 * n + m < 2 ^ 31 by omega)]
  rw [hR s hs, nI_l (show r s < 2 ^ 31 by have := hr s; omega), hT.1, Nat.add_assoc, hT.2 _ hk, hT.2 m (by omega), show (10 : Int64) = lN 10 from rfl, lN_sub (hr s), lN_add, lN_mul, lN_mul, lN_add]
  rfl
