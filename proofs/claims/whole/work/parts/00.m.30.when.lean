theorem when_eq (N : Nat) (hN : 200 < N) (a1 a2 a3 : Int32) {known : Int32} {comes right shares rights : Nat → Int32} {scales worths powers worths2 : Nat → Int64} (hR : RA known comes right scales worths shares rights) : ∃ q z, fX9_when N a1 a2 a3 known comes right scales worths = some q ∧ fX10_when N a1 a2 a3 powers rights shares worths2 = some z ∧ q.1 = z.1 ∧ RA q.2.1 comes right q.2.2.1 q.2.2.2 shares rights := by
  obtain ⟨p, r, hp, hr, hv, hk⟩ := id hR
  have hC := fun s hs => (hv s hs).1
  have hS := fun s hs => (hv s hs).2.1
  have hR1 := fun s hs => (hv s hs).2.2.1
  have hR2 := fun s hs => (hv s hs).2.2.2
  unfold fX9_when fX10_when
  rw [wi_def, in_def N a1 0 7 0 7 rfl rfl, Option.bind_some, Option.bind_some]
  by_cases c1 : wi a1 0 7 = 0
  · rw [if_pos c1, if_pos c1]; exact ⟨_, _, rfl, rfl, rfl, hR⟩
  · rw [if_neg c1, if_neg c1, wi_def, in_def N a2 0 8 0 8 rfl rfl, Option.bind_some, Option.bind_some]
    by_cases c2 : wi a2 0 8 = 0
    · rw [if_pos c2, if_pos c2]; exact ⟨_, _, rfl, rfl, rfl, hR⟩
    · rw [if_neg c2, if_neg c2, wi_def, in_def N a3 0 3 0 3 rfl rfl, Option.bind_some, Option.bind_some]
      by_cases c3 : wi a3 0 3 = 0
      · rw [if_neg (fun z => z c3), if_neg (fun z => z c3)]; exact ⟨_, _, rfl, rfl, rfl, hR⟩
      · rw [if_pos c3, if_pos c3, wh_c N (by omega) hp hC, wh_r N hp hS, Option.bind_some, Option.bind_some]
        by_cases c4 : fb_sm p 4 = 10
        · obtain ⟨n, hn, rfl⟩ := wi_ok (m := 7) (by decide) c1
          obtain ⟨k, hk8, rfl⟩ := wi_ok (m := 8) (by decide) c2
          obtain ⟨s, hs, rfl⟩ := wi_ok (m := 3) (by decide) c3
          obtain ⟨t3, t4, hT, e1⟩ := learn_any N (by omega) c4 hp hr hC hR1 hk
          obtain ⟨u3, u4, hU, e2⟩ := learn_r N (by omega) c4 hp hr hS hR2 powers worths2
          have ei : (9 : Int32) * nI n + nI k = nI (9 * n + k) := by rw [show (9 : Int32) = nI 9 from rfl, pk_mul, nI_add]
          rw [if_pos c4]
          unfold fX0_shouldAsk
          rw [if_pos (show ¬ (1 : Int32) = 0 by decide), e1, e2]
          simp only [Option.bind_some]
          rcases Nat.eq_zero_or_pos k with q | q
          · subst q
            simp only [if_pos (show nI 0 ≤ 0 by decide), Option.bind_some, if_true]
            exact ⟨_, _, rfl, rfl, rfl, p, r, hp, hr, hv, Or.inr ⟨rfl, c4, hT⟩⟩
          · have n1 : ¬ nI k ≤ 0 := nI_nle q (by omega)
            simp only [if_neg n1, ask_c N hr hR1 (show n ≤ 8 by omega) hk8 q (show s < 4 by omega) (hT n (by omega)), ask_r N hr hR2 (show n ≤ 8 by omega) hk8 q (show s < 4 by omega) (hU n (by omega)), wo_def N n k (by omega) hk8, Option.bind_some, (hT n (show n ≤ 8 by omega)).2 k hk8, ei, ixb_nI (show 9 * n + k < 81 by omega) (by decide), if_true, nI_clamp (show 9 * n + k < 2 ^ 31 by omega), (hU n (show n ≤ 8 by omega)).2 k hk8]
            by_cases c5 : lg_cmp (lN (AN p r n k s)) ((10 : Int64) * lN (WN p r n k)) ≤ 0
            · simp only [if_pos c5, Option.bind_some, if_true]
              exact ⟨_, _, rfl, rfl, rfl, p, r, hp, hr, hv, Or.inr ⟨rfl, c4, hT⟩⟩
            · simp only [if_neg c5, Option.bind_some, if_neg (show ¬ (1 : Int32) = 0 by decide)]
              exact ⟨_, _, rfl, rfl, rfl, p, r, hp, hr, hv, Or.inr ⟨rfl, c4, hT⟩⟩
        · rw [if_neg c4, if_neg (fun z => z rfl), if_neg (fun z => z rfl)]; exact ⟨_, _, rfl, rfl, rfl, hR⟩
/-! the text is written alike -/
def RT (len : Int32) (bt : Nat → Int32) (mlen : Int32) (mt : Nat → Int32) : Prop := ∃ n : Nat, n ≤ 200 ∧ len = nI n ∧ mlen = nI n ∧ bt = mt
