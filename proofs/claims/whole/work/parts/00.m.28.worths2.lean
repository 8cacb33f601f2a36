theorem lg_le (x y : Int64) : lg_cmp x y ≤ 0 ↔ ¬ y < x := by
  constructor
  · intro h q
    have := (lg_gt x y).mpr q
    rw [fa_lt] at this
    rw [fa_le] at h
    omega
  · intro h
    have : ¬ 0 < lg_cmp x y := fun z => h ((lg_gt x y).mp z)
    exact fa_of_nlt this
theorem avg_r (N : Nat) (hN : 10 < N) {p r : Nat → Nat} (hp : fb_sm p 4 = 10) (hp1 : ∀ s, p s ≤ 10) (hr : ∀ s, r s ≤ 10) {comes right : Nat → Int32} (hC : ∀ s, s < 4 → comes s = nI (p s)) (hR : ∀ s, s < 4 → right s = nI (r s)) {c3 c4 : Nat → Int64} {n k : Nat} (hn : n ≤ 7) (hk : k ≤ 8) (hT : TV p r c3 c4 n) (K : Int64 → Option ((Nat → Int64) × (Nat → Int64))) : fX10_layWorths_p67 N (nI (n + 1)) (nI k) c3 right comes c4 K N (0 : Int64) (0 : Int32) = K (lN (WN p r (n + 1) k)) := by
  have h := loopF (fun m (x : Nat) i => fX10_layWorths_p67 N (nI (n + 1)) (nI k) c3 right comes c4 K m (lN x) (nI i)) (fun x => K (lN x)) (fun s x => x + p s * max (10 * WN p r n k) (if k = 0 then 0 else AN p r n k s)) 4
    (fun m x => by
      show fX10_layWorths_p67 N (nI (n + 1)) (nI k) c3 right comes c4 K (m + 1) (lN x) (nI 4) = K (lN x)
      rw [fX10_layWorths_p67, if_pos (show (4 : Int32) ≤ nI 4 by decide)])
    (fun m x s hs => by
      show fX10_layWorths_p67 N (nI (n + 1)) (nI k) c3 right comes c4 K (m + 1) (lN x) (nI s) = fX10_layWorths_p67 N (nI (n + 1)) (nI k) c3 right comes c4 K m (lN (x + p s * max (10 * WN p r n k) (if k = 0 then 0 else AN p r n k s))) (nI (s + 1))
      have hw := WN_63 hp hr (show n ≤ 8 by omega) k
      have ha := AN_63 hp hr (show n ≤ 8 by omega) k s
      have e : (9 : Int32) * nI n + nI k = nI (9 * n + k) := by rw [show (9 : Int32) = nI 9 from rfl, pk_mul, nI_add]
      rw [fX10_layWorths_p67, if_neg (show ¬ (4 : Int32) ≤ nI s from nI_ge (b := 4) hs (by decide)), nI_pred]
      simp only [jn, e, ixb_nI (show 9 * n + k < 81 by omega) (by decide), ixb_nI hs (by decide), if_true, nI_clamp (show 9 * n + k < 2 ^ 31 by omega), nI_clamp (show s < 2 ^ 31 by omega), hT.2 k hk, hC s hs, nI_l (show p s < 2 ^ 31 by have := hp1 s; omega), nI_1, show (10 : Int64) = lN 10 from rfl, lN_mul, lg_le]
      rcases Nat.eq_zero_or_pos k with q | q
      · subst q
        rw [if_neg (fun z => z (show nI 0 = 0 from rfl)), if_pos (show ¬ lN (10 * WN p r n 0) < 0 from fun z => by
          have := (pk_lLT (a := 10 * WN p r n 0) (b := 0) (by omega) (by decide)).mp z
          omega), lN_add, if_pos rfl, Nat.max_eq_left (Nat.zero_le _)]
      · rw [if_pos (nI_ne0 q (by omega)), ask_r N hr hR (by omega) hk q hs hT, Option.bind_some, if_neg (show ¬ k = 0 by omega)]
        simp only [pk_lLT (show 10 * WN p r n k < 2 ^ 63 by omega) (show AN p r n k s < 2 ^ 63 by omega), lN_mul]
        by_cases c : 10 * WN p r n k < AN p r n k s
        · rw [if_neg (fun z => z c), lN_add, Nat.max_eq_right (by omega)]
        · rw [if_pos c, lN_add, Nat.max_eq_left (by omega)])
    N 0 0 (by decide) (by omega)
  have e := itF_sm (fun s => p s * max (10 * WN p r n k) (if k = 0 then 0 else AN p r n k s)) 4 0
  rw [Nat.zero_add] at e
  refine h.trans (congrArg (fun z => K (lN z)) ?_)
  rw [Nat.sub_zero, e]
  rfl
theorem row_r (N : Nat) (hN : 20 < N) {p r : Nat → Nat} (hp : fb_sm p 4 = 10) (hp1 : ∀ s, p s ≤ 10) (hr : ∀ s, r s ≤ 10) {comes right : Nat → Int32} (hC : ∀ s, s < 4 → comes s = nI (p s)) (hR : ∀ s, s < 4 → right s = nI (r s)) {c3 : Nat → Int64} {n : Nat} (hn : n ≤ 7) (h3 : ∀ m, m ≤ n + 1 → c3 m = lN (100 ^ m)) (K : (Nat → Int64) → Option ((Nat → Int64) × (Nat → Int64))) {c4 : Nat → Int64} (h4 : RB p r (n + 1) 0 c4) : ∃ c4', RB p r (n + 1) 9 c4' ∧ fX10_layWorths_p56 N (nI (n + 1)) c3 right comes K N (0 : Int32) c4 = K c4' := by
  have h := loopI (fun m (x : Nat → Int64) k => fX10_layWorths_p56 N (nI (n + 1)) c3 right comes K m (nI k) x) K (fun k x => vp_updL x (9 * (n + 1) + k) (lN (WN p r (n + 1) k))) (fun k x => RB p r (n + 1) k x) 9
    (fun m x _ => by
      show fX10_layWorths_p56 N (nI (n + 1)) c3 right comes K (m + 1) (nI 9) x = K x
      rw [fX10_layWorths_p56, if_pos (show (9 : Int32) ≤ nI 9 by decide)])
    (fun m x k hk hI => by
      show fX10_layWorths_p56 N (nI (n + 1)) c3 right comes K (m + 1) (nI k) x = fX10_layWorths_p56 N (nI (n + 1)) c3 right comes K m (nI (k + 1)) (vp_updL x (9 * (n + 1) + k) (lN (WN p r (n + 1) k)))
      have e : (9 : Int32) * nI (n + 1) + nI k = nI (9 * (n + 1) + k) := by rw [show (9 : Int32) = nI 9 from rfl, pk_mul, nI_add]
      rw [fX10_layWorths_p56, if_neg (show ¬ (9 : Int32) ≤ nI k from nI_ge (b := 9) hk (by decide))]
      simp only [jn]
      rw [avg_r N (by omega) hp hp1 hr hC hR hn (by omega) ⟨h3 n (by omega), fun j hj => hI.1 n (by omega) j hj⟩, e, if_pos (ixb_nI (by omega) (by decide)), nI_clamp (by omega), nI_1])
    (fun x k hk hI => RB_up hk hI)
    N 0 c4 (by decide) (by omega) h4
  exact ⟨_, h.2, h.1⟩
theorem zero_r (N : Nat) (hN : 20 < N) (p r : Nat → Nat) (K : (Nat → Int64) → Option ((Nat → Int64) × (Nat → Int64))) (c4 : Nat → Int64) : ∃ c4', RB p r 0 9 c4' ∧ fX10_layWorths_p9 N K N (0 : Int32) c4 = K c4' := by
  have h := loopI (fun m (x : Nat → Int64) k => fX10_layWorths_p9 N K m (nI k) x) K (fun k x => vp_updL x (9 * 0 + k) (lN (WN p r 0 k))) (fun k x => RB p r 0 k x) 9
    (fun m x _ => by
      show fX10_layWorths_p9 N K (m + 1) (nI 9) x = K x
      rw [fX10_layWorths_p9, if_pos (show (9 : Int32) ≤ nI 9 by decide)])
    (fun m x k hk hI => by
      show fX10_layWorths_p9 N K (m + 1) (nI k) x = fX10_layWorths_p9 N K m (nI (k + 1)) (vp_updL x (9 * 0 + k) (lN (WN p r 0 k)))
      rw [fX10_layWorths_p9, if_neg (show ¬ (9 : Int32) ≤ nI k from nI_ge (b := 9) hk (by decide)), if_pos (ixb_nI (by omega) (by decide)), nI_clamp (by omega), nI_1, Nat.mul_zero, Nat.zero_add]
      rfl)
    (fun x k hk hI => RB_up hk hI)
    N 0 c4 (by decide) (by omega) ⟨fun m hm => absurd hm (Nat.not_lt_zero _), fun j hj => absurd hj (Nat.not_lt_zero _)⟩
  exact ⟨_, h.2, h.1⟩
theorem learn_r (N : Nat) (hN : 20 < N) {p r : Nat → Nat} (hp : fb_sm p 4 = 10) (hp1 : ∀ s, p s ≤ 10) (hr : ∀ s, r s ≤ 10) {comes right : Nat → Int32} (hC : ∀ s, s < 4 → comes s = nI (p s)) (hR : ∀ s, s < 4 → right s = nI (r s)) (c3 c4 : Nat → Int64) : ∃ c3' c4', (∀ n, n ≤ 8 → TV p r c3' c4' n) ∧ fX10_layWorths N c3 right comes c4 = some (c3', c4') := by
  have key : ∀ (d n m : Nat) (c3 c4 : Nat → Int64), n + d = 9 → 1 ≤ n → d < m → (∀ j, j < n → c3 j = lN (100 ^ j)) → RB p r n 0 c4 → ∃ c3' c4', (∀ n, n ≤ 8 → TV p r c3' c4' n) ∧ fX10_layWorths_p30 N right comes (fun c3 c4 => some (c3, c4)) m (nI n) c3 c4 = some (c3', c4') := by
    intro d
    induction d with
    | zero =>
      intro n m c3 c4 hd hn1 hm h3 h4
      obtain ⟨m, rfl⟩ : ∃ z, m = z + 1 := ⟨m - 1, by omega⟩
      have : n = 9 := by omega
      subst this
      refine ⟨c3, c4, fun n hn => ⟨h3 n (by omega), fun k hk => h4.1 n (by omega) k hk⟩, ?_⟩
      rw [fX10_layWorths_p30, if_pos (show (8 : Int32) < nI 9 by decide)]
    | succ d ih =>
      intro n m c3 c4 hd hn1 hm h3 h4
      obtain ⟨m, rfl⟩ : ∃ z, m = z + 1 := ⟨m - 1, by omega⟩
      obtain ⟨n, rfl⟩ : ∃ z, n = z + 1 := ⟨n - 1, by omega⟩
      have e100 : (100 : Int64) * lN (100 ^ n) = lN (100 ^ (n + 1)) := by rw [show (100 : Int64) = lN 100 from rfl, lN_mul, Nat.pow_succ, Nat.mul_comm]
      have h3' : ∀ j, j ≤ n + 1 → vp_updL c3 (n + 1) (lN (100 ^ (n + 1))) j = lN (100 ^ j) := fun j hj => by
        by_cases q : j = n + 1
        · subst q; exact up_s
        · rw [up_n q]; exact h3 j (by omega)
      rw [fX10_layWorths_p30, if_neg (show ¬ (8 : Int32) < nI (n + 1) from nI_nlt (a := 8) (by omega) (by decide)), nI_pred, if_pos (ixb_nI (by omega) (by decide)), if_pos (ixb_nI (by omega) (by decide))]
      simp only [jn, nI_clamp (show n + 1 < 2 ^ 31 by omega), nI_clamp (show n < 2 ^ 31 by omega), h3 n (by omega), e100]
      obtain ⟨c4', e1, e2⟩ := row_r N hN hp hp1 hr hC hR (show n ≤ 7 by omega) h3' (fun c4_163 => fX10_layWorths_p30 N right comes (fun c3 c4 => some (c3, c4)) m (nI (n + 1) + (1 : Int32)) (vp_updL c3 (n + 1) (lN (100 ^ (n + 1)))) c4_163) h4
      rw [e2, nI_1]
      exact ih (n + 1 + 1) m _ _ (by omega) (by omega) (by omega) (fun j hj => h3' j (by omega)) (RB_next e1)
  unfold fX10_layWorths
  simp only [jn]
  obtain ⟨c40, z1, z2⟩ := zero_r N hN p r (fun c4_28 => fX10_layWorths_p30 N right comes (fun c3 c4 => some (c3, c4)) N (1 : Int32) (vp_updL c3 (0 : Int32).toNatClampNeg (1 : Int64)) c4_28) c4
  rw [z2]
  exact key 8 1 N _ _ rfl (by omega) (by omega) (fun j hj => by
    have : j = 0 := by omega
    subst this; exact up_s) (RB_next z1)
