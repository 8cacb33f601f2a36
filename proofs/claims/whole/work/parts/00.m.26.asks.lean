/-! what asks are worth: the table as plain numbers -/
def WN (p r : Nat → Nat) : Nat → Nat → Nat
  | 0, _ => 0
  | n + 1, k => fb_sm (fun s => p s * max (10 * WN p r n k) (if k = 0 then 0 else r s * (100 ^ n + WN p r n k) + (10 - r s) * WN p r n (k - 1))) 4
def AN (p r : Nat → Nat) (n k s : Nat) : Nat := r s * (100 ^ n + WN p r n k) + (10 - r s) * WN p r n (k - 1)
theorem AN_le {p r : Nat → Nat} {n k s : Nat} (hr : r s ≤ 10) (h1 : WN p r n k ≤ n * 100 ^ n) (h2 : WN p r n (k - 1) ≤ n * 100 ^ n) : AN p r n k s ≤ 10 * ((n + 1) * 100 ^ n) := by
  unfold AN
  have a1 : r s * (100 ^ n + WN p r n k) ≤ r s * ((n + 1) * 100 ^ n) := Nat.mul_le_mul_left _ (by rw [Nat.add_mul]; omega)
  have a2 : (10 - r s) * WN p r n (k - 1) ≤ (10 - r s) * ((n + 1) * 100 ^ n) := Nat.mul_le_mul_left _ (by rw [Nat.add_mul]; omega)
  have a3 : r s * ((n + 1) * 100 ^ n) + (10 - r s) * ((n + 1) * 100 ^ n) = 10 * ((n + 1) * 100 ^ n) := by rw [← Nat.add_mul]; congr 1; omega
  omega
theorem WN_le {p r : Nat → Nat} (hp : fb_sm p 4 = 10) (hr : ∀ s, r s ≤ 10) : ∀ n k, WN p r n k ≤ n * 100 ^ n
  | 0, k => by simp [WN]
  | n + 1, k => by
    have h1 := WN_le hp hr n k
    have h2 := WN_le hp hr n (k - 1)
    have hB : ∀ s, s < 4 → p s * max (10 * WN p r n k) (if k = 0 then 0 else r s * (100 ^ n + WN p r n k) + (10 - r s) * WN p r n (k - 1)) ≤ p s * (10 * ((n + 1) * 100 ^ n)) := fun s _ => by
      refine Nat.mul_le_mul_left _ (Nat.max_le.mpr ⟨?_, ?_⟩)
      · refine Nat.mul_le_mul_left _ ?_
        rw [Nat.add_mul]; omega
      · split
        · exact Nat.zero_le _
        · exact AN_le (hr s) h1 h2
    have h3 := fb_sm_le hB
    have h4 : fb_sm (fun s => p s * (10 * ((n + 1) * 100 ^ n))) 4 = fb_sm p 4 * (10 * ((n + 1) * 100 ^ n)) := by
      simp only [fb_sm, Nat.add_mul, Nat.zero_mul]
    rw [h4, hp] at h3
    show fb_sm _ 4 ≤ _
    rw [Nat.pow_succ]
    have h5 : 10 * (10 * ((n + 1) * 100 ^ n)) = (n + 1) * (100 ^ n * 100) := by
      rw [← Nat.mul_assoc (n + 1), Nat.mul_comm ((n + 1) * 100 ^ n) 100]; omega
    omega
theorem WN_63 {p r : Nat → Nat} (hp : fb_sm p 4 = 10) (hr : ∀ s, r s ≤ 10) {n : Nat} (hn : n ≤ 8) (k : Nat) : WN p r n k ≤ 8 * 100 ^ 8 := by
  refine Nat.le_trans (WN_le hp hr n k) (Nat.mul_le_mul hn (Nat.pow_le_pow_right (by decide) hn))
theorem AN_63 {p r : Nat → Nat} (hp : fb_sm p 4 = 10) (hr : ∀ s, r s ≤ 10) {n : Nat} (hn : n ≤ 8) (k s : Nat) : AN p r n k s ≤ 10 * (9 * 100 ^ 8) := by
  refine Nat.le_trans (AN_le (hr s) (WN_le hp hr n k) (WN_le hp hr n (k - 1))) (Nat.mul_le_mul_left _ (Nat.mul_le_mul (by omega) (Nat.pow_le_pow_right (by decide) hn)))
theorem wi_in {v lo hi : Int32} (h1 : ¬ v < lo) (h2 : ¬ hi < v) : wi v lo hi = 1 := by unfold wi; rw [if_neg h1, if_neg h2]
theorem wi_nI {n m : Nat} (h : n ≤ m) (hm : m < 2 ^ 31) : wi (nI n) 0 (nI m) = 1 := wi_in (nI_pos (by omega)) (nI_nlt h (by omega))
theorem ten_def (N s : Nat) (hs : s < 4) (c : Nat → Int32) : fX0_tenths N 4 (nI s) c = some (c s) := by
  unfold fX0_tenths
  rw [if_neg (nI_pos (by omega)), if_neg (show ¬ Int32.ofNat 4 ≤ nI s from nI_ge (b := 4) hs (by decide)), if_pos (ixb_nI hs (by decide)), nI_clamp (by omega)]
theorem wo_def (N n k : Nat) (hn : n ≤ 8) (hk : k ≤ 8) (c : Nat → Int64) : fX0_worthOf N (nI n) (nI k) c = some (c (9 * n + k)) := by
  have e : nI n * (9 : Int32) + nI k = nI (9 * n + k) := by rw [show (9 : Int32) = nI 9 from rfl, pk_mul, nI_add, Nat.mul_comm]
  unfold fX0_worthOf
  rw [wi_def, wi_def, show (8 : Int32) = nI 8 from rfl, wi_nI hn (by decide), wi_nI hk (by decide), Option.bind_some, if_neg (by decide), Option.bind_some, if_neg (by decide), e, if_pos (ixb_nI (by omega) (by decide)), nI_clamp (by omega)]
theorem sc_def (N n : Nat) (hn : n ≤ 8) (c : Nat → Int64) : fX0_scaleOf N (nI n) c = some (c n) := by
  unfold fX0_scaleOf
  rw [wi_def, show (8 : Int32) = nI 8 from rfl, wi_nI hn (by decide), Option.bind_some, if_neg (by decide), if_pos (ixb_nI (by omega) (by decide)), nI_clamp (by omega)]
/-- a row of the table holds -/
def TV (p r : Nat → Nat) (c3 c4 : Nat → Int64) (n : Nat) : Prop := c3 n = lN (100 ^ n) ∧ ∀ k, k ≤ 8 → c4 (9 * n + k) = lN (WN p r n k)
theorem ask_c (N : Nat) {p r : Nat → Nat} (hr : ∀ s, r s ≤ 10) {right : Nat → Int32} (hR : ∀ s, s < 4 → right s = nI (r s)) {c3 c4 : Nat → Int64} {n k s : Nat} (hn : n ≤ 8) (hk : k ≤ 8) (hk0 : 0 < k) (hs : s < 4) (hT : TV p r c3 c4 n) : fX0_asking N (nI n) (nI k) (nI s) right c3 c4 = some (lN (AN p r n k s)) := by
  unfold fX0_asking
  obtain ⟨m, rfl⟩ : ∃ m, k = m + 1 := ⟨k - 1, by omega⟩
  rw [ten_def N s hs, Option.bind_some, sc_def N n hn, Option.bind_some, wo_def N n _ hn hk, Option.bind_some, nI_pred, wo_def N n m hn (by omega), Option.bind_some, hR s hs, nI_l (show r s < 2 ^ 31 by have := hr s; omega), hT.1, hT.2 _ hk, hT.2 m (by omega), show (10 : Int64) = lN 10 from rfl, lN_sub (hr s), lN_add, lN_mul, lN_mul, lN_add]
  rfl
theorem itF_sm (f : Nat → Nat) : ∀ m c, itF (fun s x => x + f s) 0 m c = c + fb_sm f m
  | 0, c => rfl
  | m + 1, c => by rw [itF_succ, itF_sm f m c, fb_sm_succ, Nat.zero_add, Nat.add_assoc]
theorem avg_c (N : Nat) (hN : 10 < N) {p r : Nat → Nat} (hp : fb_sm p 4 = 10) (hp1 : ∀ s, p s ≤ 10) (hr : ∀ s, r s ≤ 10) {comes right : Nat → Int32} (hC : ∀ s, s < 4 → comes s = nI (p s)) (hR : ∀ s, s < 4 → right s = nI (r s)) {c3 c4 : Nat → Int64} {n k : Nat} (hn : n ≤ 7) (hk : k ≤ 8) (hT : TV p r c3 c4 n) : fX0_average N (nI n) (nI k) comes right c3 c4 = some (lN (WN p r (n + 1) k)) := by
  unfold fX0_average jn
  have h := loopF (fun m (x : Nat) i => fX0_average_p5 N (nI n) (nI k) comes right c3 c4 (fun x3 => some x3) m (lN x) (nI i)) (fun x => some (lN x)) (fun s x => x + p s * max (10 * WN p r n k) (if k = 0 then 0 else AN p r n k s)) 4
    (fun m x => by
      show fX0_average_p5 N (nI n) (nI k) comes right c3 c4 (fun x3 => some x3) (m + 1) (lN x) (nI 4) = some (lN x)
      rw [fX0_average_p5, if_pos (show (4 : Int32) ≤ nI 4 by decide)])
    (fun m x s hs => by
      show fX0_average_p5 N (nI n) (nI k) comes right c3 c4 (fun x3 => some x3) (m + 1) (lN x) (nI s) = fX0_average_p5 N (nI n) (nI k) comes right c3 c4 (fun x3 => some x3) m (lN (x + p s * max (10 * WN p r n k) (if k = 0 then 0 else AN p r n k s))) (nI (s + 1))
      have hw := WN_63 hp hr (show n ≤ 8 by omega) k
      have ha := AN_63 hp hr (show n ≤ 8 by omega) k s
      rw [fX0_average_p5, if_neg (show ¬ (4 : Int32) ≤ nI s from nI_ge (b := 4) hs (by decide)), wo_def N n k (by omega) hk, Option.bind_some, hT.2 k hk, show (10 : Int64) = lN 10 from rfl, lN_mul]
      simp only [jn, ten_def N s hs, Option.bind_some, hC s hs, nI_l (show p s < 2 ^ 31 by have := hp1 s; omega), nI_1]
      rcases Nat.eq_zero_or_pos k with q | q
      · subst q
        rw [if_pos (show nI 0 ≤ 0 by decide), lN_mul, lN_add, if_pos rfl, Nat.max_eq_left (Nat.zero_le _)]
      · rw [if_neg (nI_nle q (by omega)), ask_c N hr hR (by omega) hk q hs hT, Option.bind_some, if_neg (show ¬ k = 0 by omega)]
        simp only [pk_lLT (show AN p r n k s < 2 ^ 63 by omega) (show 10 * WN p r n k < 2 ^ 63 by omega)]
        by_cases c : AN p r n k s < 10 * WN p r n k
        · rw [if_pos c, lN_mul, lN_add, Nat.max_eq_left (by omega)]
        · rw [if_neg c, lN_mul, lN_add, Nat.max_eq_right (by omega)])
    N 0 0 (by decide) (by omega)
  have e := itF_sm (fun s => p s * max (10 * WN p r n k) (if k = 0 then 0 else AN p r n k s)) 4 0
  rw [Nat.zero_add] at e
  refine h.trans (congrArg (fun z => some (lN z)) ?_)
  rw [Nat.sub_zero, e]
  rfl
