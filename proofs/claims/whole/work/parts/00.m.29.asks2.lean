/-! asks: kept alike, answered alike -/
def RA (known : Int32) (comes right : Nat → Int32) (scales worths : Nat → Int64) (shares rights : Nat → Int32) : Prop := ∃ p r : Nat → Nat, (∀ s, p s ≤ 10) ∧ (∀ s, r s ≤ 10) ∧ (∀ s, s < 4 → comes s = nI (p s) ∧ shares s = nI (p s) ∧ right s = nI (r s) ∧ rights s = nI (r s)) ∧ (known = 0 ∨ (known = 1 ∧ fb_sm p 4 = 10 ∧ ∀ n, n ≤ 8 → TV p r scales worths n))
theorem sm4 (p : Nat → Nat) : fb_sm p 4 = p 0 + p 1 + p 2 + p 3 := by simp [fb_sm]
theorem wh_c (N : Nat) (hN : 10 < N) {p : Nat → Nat} (hp : ∀ s, p s ≤ 10) {comes : Nat → Int32} (hC : ∀ s, s < 4 → comes s = nI (p s)) : fX0_isWhole N comes = some (if fb_sm p 4 = 10 then 1 else 0) := by
  obtain ⟨M, rfl⟩ : ∃ m, N = m + 5 := ⟨N - 5, by omega⟩
  have h0 := hp 0; have h1 := hp 1; have h2 := hp 2; have h3 := hp 3
  unfold fX0_isWhole
  simp only [jn]
  rw [fX0_isWhole_p4, if_neg (by decide), if_pos (by decide), fX0_isWhole_p4, if_neg (by decide), if_pos (by decide), fX0_isWhole_p4, if_neg (by decide), if_pos (by decide), fX0_isWhole_p4, if_neg (by decide), if_pos (by decide), fX0_isWhole_p4, if_pos (by decide)]
  have e : (0 : Int32) + comes (0 : Int32).toNatClampNeg + comes ((0 : Int32) + 1).toNatClampNeg + comes ((0 : Int32) + 1 + 1).toNatClampNeg + comes ((0 : Int32) + 1 + 1 + 1).toNatClampNeg = nI (fb_sm p 4) := by
    rw [show (0 : Int32).toNatClampNeg = 0 from rfl, show ((0 : Int32) + 1).toNatClampNeg = 1 from rfl, show ((0 : Int32) + 1 + 1).toNatClampNeg = 2 from rfl, show ((0 : Int32) + 1 + 1 + 1).toNatClampNeg = 3 from rfl, hC 0 (by decide), hC 1 (by decide), hC 2 (by decide), hC 3 (by decide), show (0 : Int32) = nI 0 from rfl, nI_add, nI_add, nI_add, nI_add, sm4, Nat.zero_add]
  rw [e]
  have k : nI (fb_sm p 4) = 10 ↔ fb_sm p 4 = 10 := nI_eq (b := 10) (by rw [sm4]; omega) (by decide)
  by_cases c : fb_sm p 4 = 10
  · rw [if_neg (fun z => z (k.mpr c)), if_pos c]
  · rw [if_pos (fun z => c (k.mp z)), if_neg c]
theorem wh_r (N : Nat) {p : Nat → Nat} (hp : ∀ s, p s ≤ 10) {shares : Nat → Int32} (hC : ∀ s, s < 4 → shares s = nI (p s)) : fX10_areShares N shares = some (if fb_sm p 4 = 10 then 1 else 0) := by
  have h0 := hp 0; have h1 := hp 1; have h2 := hp 2; have h3 := hp 3
  unfold fX10_areShares
  have e : shares (0 : Int32).toNatClampNeg + shares (1 : Int32).toNatClampNeg + shares (2 : Int32).toNatClampNeg + shares (3 : Int32).toNatClampNeg = nI (fb_sm p 4) := by
    rw [show (0 : Int32).toNatClampNeg = 0 from rfl, show (1 : Int32).toNatClampNeg = 1 from rfl, show (2 : Int32).toNatClampNeg = 2 from rfl, show (3 : Int32).toNatClampNeg = 3 from rfl, hC 0 (by decide), hC 1 (by decide), hC 2 (by decide), hC 3 (by decide), nI_add, nI_add, nI_add, sm4]
  rw [e]
  have k : nI (fb_sm p 4) = 10 ↔ fb_sm p 4 = 10 := nI_eq (b := 10) (by rw [sm4]; omega) (by decide)
  by_cases c : fb_sm p 4 = 10
  · rw [if_neg (fun z => z (k.mpr c)), if_pos c]
  · rw [if_pos (fun z => c (k.mp z)), if_neg c]
/-- what 'within' found, as a number -/
theorem wi_ok {v : Int32} {m : Nat} (hm : m < 2 ^ 31) (h : ¬ wi v 0 (nI m) = 0) : ∃ n : Nat, n ≤ m ∧ v = nI n := by
  unfold wi at h
  by_cases c1 : v < 0
  · rw [if_pos c1] at h; exact absurd rfl h
  · rw [if_neg c1] at h
    by_cases c2 : nI m < v
    · rw [if_pos c2] at h; exact absurd rfl h
    · exact nI_of2 (M := nI m) (nI_toInt hm) c1 (fa_of_nlt c2)
theorem learn_any (N : Nat) (hN : 20 < N) {p r : Nat → Nat} (hp : fb_sm p 4 = 10) (hp1 : ∀ s, p s ≤ 10) (hr : ∀ s, r s ≤ 10) {known : Int32} {comes right : Nat → Int32} {scales worths : Nat → Int64} (hC : ∀ s, s < 4 → comes s = nI (p s)) (hR : ∀ s, s < 4 → right s = nI (r s)) (hk : known = 0 ∨ (known = 1 ∧ fb_sm p 4 = 10 ∧ ∀ n, n ≤ 8 → TV p r scales worths n)) : ∃ c3' c4', (∀ n, n ≤ 8 → TV p r c3' c4' n) ∧ fX0_learn N known comes right scales worths = some (1, c3', c4') := by
  rcases hk with h | ⟨h, -, h2⟩
  · subst h; exact learn_c N hN hp hp1 hr hC hR scales worths
  · subst h
    refine ⟨scales, worths, h2, ?_⟩
    unfold fX0_learn
    rw [if_neg (by decide)]
theorem sort_eq (N : Nat) (a1 a2 a3 : Int32) {known : Int32} {comes right shares rights : Nat → Int32} {scales worths : Nat → Int64} (hR : RA known comes right scales worths shares rights) : ∃ q z, fX9_sort N a1 a2 a3 known comes right = some q ∧ fX10_sort N a1 a2 a3 rights shares = some z ∧ q.1 = z.1 ∧ RA q.2.1 q.2.2.1 q.2.2.2 scales worths z.2.2 z.2.1 := by
  obtain ⟨p, r, hp, hr, hv, hk⟩ := id hR
  unfold fX9_sort fX10_sort
  rw [wi_def, in_def N a1 0 3 0 3 rfl rfl, Option.bind_some, Option.bind_some]
  by_cases c1 : wi a1 0 3 = 0
  · rw [if_pos c1, if_pos c1]; exact ⟨_, _, rfl, rfl, rfl, hR⟩
  · rw [if_neg c1, if_neg c1, wi_def, in_def N a2 0 1 0 1 rfl rfl, Option.bind_some, Option.bind_some]
    by_cases c2 : wi a2 0 1 = 0
    · rw [if_pos c2, if_pos c2]; exact ⟨_, _, rfl, rfl, rfl, hR⟩
    · rw [if_neg c2, if_neg c2, wi_def, in_def N a3 0 10 0 10 rfl rfl, Option.bind_some, Option.bind_some]
      by_cases c3 : wi a3 0 10 = 0
      · rw [if_neg (fun z => z c3), if_neg (fun z => z c3)]; exact ⟨_, _, rfl, rfl, rfl, hR⟩
      · rw [if_pos c3, if_pos c3]
        obtain ⟨s, hs, rfl⟩ := wi_ok (m := 3) (by decide) c1
        obtain ⟨v, hv3, rfl⟩ := wi_ok (m := 10) (by decide) c3
        obtain ⟨v1, v2, v3, v4⟩ := hv s (by omega)
        have new : ∀ (f : Nat → Nat) (x : Nat → Int32), (∀ j, j < 4 → x j = nI (f j)) → ∀ j, j < 4 → upd x s (nI v) j = nI (if j = s then v else f j) := fun f x hx j hj => by
          unfold upd
          by_cases q : j = s
          · rw [if_pos q, if_pos q]
          · rw [if_neg q, if_neg q]; exact hx j hj
        have le10 : ∀ (f : Nat → Nat), (∀ j, f j ≤ 10) → ∀ j, (if j = s then v else f j) ≤ 10 := fun f hf j => by
          by_cases q : j = s
          · rw [if_pos q]; exact hv3
          · rw [if_neg q]; exact hf j
        unfold fX0_setTenths
        simp only [jn, ten_def N s (by omega), Option.bind_some, ixb_nI (show s < 4 by omega) (by decide), if_true, nI_clamp (show s < 2 ^ 31 by omega)]
        have n0 : ¬ nI s < 0 := nI_pos (by omega)
        have n4 : ¬ (4 : Int32) ≤ nI s := nI_ge (b := 4) (by omega) (by decide)
        by_cases c4 : a2 = 0
        · have cc : ¬ ¬ a2 = 0 := fun z => z c4
          simp only [if_neg cc, if_neg n0, if_neg n4, Option.bind_some]
          refine ⟨_, _, rfl, rfl, v1.trans v2.symm, fun j => if j = s then v else p j, r, le10 p hp, hr, fun j hj => ⟨new p comes (fun j hj => (hv j hj).1) j hj, new p shares (fun j hj => (hv j hj).2.1) j hj, (hv j hj).2.2.1, (hv j hj).2.2.2⟩, Or.inl rfl⟩
        · simp only [if_pos c4, if_neg n0, if_neg n4, Option.bind_some]
          refine ⟨_, _, rfl, rfl, v3.trans v4.symm, p, fun j => if j = s then v else r j, hp, le10 r hr, fun j hj => ⟨(hv j hj).1, (hv j hj).2.1, new r right (fun j hj => (hv j hj).2.2.1) j hj, new r rights (fun j hj => (hv j hj).2.2.2) j hj⟩, Or.inl rfl⟩
theorem gcd_ok {w n : Nat} (hw : w ≤ 8 * 100 ^ 8) (hn : n ≤ 8) : 0 < Nat.gcd w (100 ^ n) ∧ Nat.gcd w (100 ^ n) < 2 ^ 57 ∧ w < 2 ^ 57 ∧ 100 ^ n < 2 ^ 57 := by
  have h1 : 0 < 100 ^ n := Nat.pow_pos (by decide)
  have h2 : 100 ^ n ≤ 100 ^ 8 := Nat.pow_le_pow_right (by decide) hn
  have h3 := Nat.gcd_le_right w h1
  exact ⟨Nat.gcd_pos_of_pos_right w h1, by omega, by omega, by omega⟩
theorem worth_eq (N : Nat) (hN : 200 < N) (a1 a2 a3 : Int32) {known : Int32} {comes right shares rights : Nat → Int32} {scales worths powers worths2 : Nat → Int64} (hR : RA known comes right scales worths shares rights) : ∃ q z, fX9_worth N a1 a2 a3 known comes right scales worths = some q ∧ fX10_worth N a1 a2 a3 powers rights shares worths2 = some z ∧ q.1 = z.1 ∧ RA q.2.1 comes right q.2.2.1 q.2.2.2 shares rights := by
  obtain ⟨p, r, hp, hr, hv, hk⟩ := id hR
  have hC := fun s hs => (hv s hs).1
  have hS := fun s hs => (hv s hs).2.1
  have hR1 := fun s hs => (hv s hs).2.2.1
  have hR2 := fun s hs => (hv s hs).2.2.2
  unfold fX9_worth fX10_worth
  rw [wi_def, in_def N a1 0 8 0 8 rfl rfl, Option.bind_some, Option.bind_some]
  by_cases c1 : wi a1 0 8 = 0
  · rw [if_pos c1, if_pos c1]; exact ⟨_, _, rfl, rfl, rfl, hR⟩
  · rw [if_neg c1, if_neg c1, wi_def, in_def N a2 0 8 0 8 rfl rfl, Option.bind_some, Option.bind_some]
    by_cases c2 : wi a2 0 8 = 0
    · rw [if_pos c2, if_pos c2]; exact ⟨_, _, rfl, rfl, rfl, hR⟩
    · rw [if_neg c2, if_neg c2, wi_def, in_def N a3 0 1 0 1 rfl rfl, Option.bind_some, Option.bind_some]
      by_cases c3 : wi a3 0 1 = 0
      · rw [if_neg (fun z => z c3), if_neg (fun z => z c3)]; exact ⟨_, _, rfl, rfl, rfl, hR⟩
      · rw [if_pos c3, if_pos c3, wh_c N (by omega) hp hC, wh_r N hp hS, Option.bind_some, Option.bind_some]
        by_cases c4 : fb_sm p 4 = 10
        · obtain ⟨n, hn, rfl⟩ := wi_ok (m := 8) (by decide) c1
          obtain ⟨k, hk8, rfl⟩ := wi_ok (m := 8) (by decide) c2
          obtain ⟨t3, t4, hT, e1⟩ := learn_any N (by omega) c4 hp hr hC hR1 hk
          obtain ⟨u3, u4, hU, e2⟩ := learn_r N (by omega) c4 hp hr hS hR2 powers worths2
          have hw := WN_63 c4 hr hn k
          obtain ⟨g1, g2, g3, g4⟩ := gcd_ok hw hn
          have ei : (9 : Int32) * nI n + nI k = nI (9 * n + k) := by rw [show (9 : Int32) = nI 9 from rfl, pk_mul, nI_add]
          have hcd : fX0_commonDivisor N (lN (WN p r n k)) (lN (100 ^ n)) = some (lN (Nat.gcd (WN p r n k) (100 ^ n))) := by
            unfold fX0_commonDivisor
            exact cd_def N _ 57 N _ _ 0 (by omega) (by omega) g4 (by omega) (by omega)
          have hcm : fX10_common N (lN (100 ^ n)) (lN (WN p r n k)) = some (lN (Nat.gcd (WN p r n k) (100 ^ n))) := by
            unfold fX10_common
            rw [Nat.gcd_comm]
            exact cm_def N _ 57 N _ _ (by omega) (by omega) g3 (by omega)
          have hg0 : ¬ lN (Nat.gcd (WN p r n k) (100 ^ n)) = 0 := lN_ne0 (by omega) g1
          have hg1 : 0 ≤ lg_cmp (lN (Nat.gcd (WN p r n k) (100 ^ n))) (1 : Int64) := by
            have h9 : ¬ lN (Nat.gcd (WN p r n k) (100 ^ n)) < 1 := fun z => by
              have := (pk_lLT (a := Nat.gcd (WN p r n k) (100 ^ n)) (b := 1) (by omega) (by decide)).mp z
              omega
            have : ¬ lg_cmp (lN (Nat.gcd (WN p r n k) (100 ^ n))) (1 : Int64) < 0 := fun z => h9 ((lg_lt _ _).mp z)
            exact fa_of_nlt this
          rw [if_pos c4]
          unfold fX0_fraction
          rw [if_neg (show ¬ (1 : Int32) = 0 by decide), if_pos (show ¬ (1 : Int32) = 0 by decide), e1, e2]
          simp only [Option.bind_some, wo_def N n k hn hk8, sc_def N n hn, (hT n hn).1, (hT n hn).2 k hk8, hcd, if_pos hg1, if_pos hg0, ei, ixb_nI (show n < 9 by omega) (by decide), ixb_nI (show 9 * n + k < 81 by omega) (by decide), if_true, nI_clamp (show n < 2 ^ 31 by omega), nI_clamp (show 9 * n + k < 2 ^ 31 by omega), (hU n hn).1, (hU n hn).2 k hk8, hcm]
          by_cases c5 : a3 = 0
          · have cc : ¬ ¬ a3 = 0 := fun z => z c5
            simp only [if_neg cc, Option.bind_some]
            exact ⟨_, _, rfl, rfl, rfl, p, r, hp, hr, hv, Or.inr ⟨rfl, c4, hT⟩⟩
          · simp only [if_pos c5, Option.bind_some]
            exact ⟨_, _, rfl, rfl, rfl, p, r, hp, hr, hv, Or.inr ⟨rfl, c4, hT⟩⟩
        · rw [if_neg c4, if_pos rfl, if_neg (fun z => z rfl)]; exact ⟨_, _, rfl, rfl, rfl, hR⟩
