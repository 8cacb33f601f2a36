/-! calls of the judge and cases: kept alike -/
def RJ (am : Int32) (by_ si sa : Nat → Int32) (cm : Int32) (cs : Nat → Int32) : Prop := ∃ a : Nat, a ≤ 60 ∧ am = nI a ∧ cm = nI a ∧ (∀ j, by_ j = cs (3 * j)) ∧ (∀ j, si j = cs (3 * j + 1)) ∧ (∀ j, sa j = cs (3 * j + 2))
theorem nar_b {x : Int32} (h : x = 0 ∨ x = 1) : vp_nar .boolean x = x := by rcases h with h | h <;> subst h <;> rfl
theorem call_eq (N : Nat) (a1 a2 a3 : Int32) (h3 : a3 = 0 ∨ a3 = 1) {am cm : Int32} {by_ si sa cs : Nat → Int32} (hR : RJ am by_ si sa cm cs) : ∃ q p, fX9_call N a1 a2 a3 am by_ sa si = some q ∧ fX10_call N a1 a2 a3 cm cs = some p ∧ q.1 = p.1 ∧ RJ q.2.1 q.2.2.1 q.2.2.2.2 q.2.2.2.1 p.2.1 p.2.2 := by
  obtain ⟨a, ha, rfl, rfl, r1, r2, r3⟩ := id hR
  unfold fX9_call fX10_call
  rw [wi_def, in_def N a1 (-20) 20 (-20) 20 rfl rfl, Option.bind_some, Option.bind_some]
  by_cases c1 : wi a1 (-20) 20 = 0
  · rw [if_pos c1, if_pos c1]; exact ⟨_, _, rfl, rfl, rfl, hR⟩
  · rw [if_neg c1, if_neg c1, wi_def, in_def N a2 0 1 0 1 rfl rfl, Option.bind_some, Option.bind_some]
    by_cases c2 : wi a2 0 1 = 0
    · rw [if_pos c2, if_neg (fun z => z c2)]; exact ⟨_, _, rfl, rfl, rfl, hR⟩
    · rw [if_neg c2, if_pos c2]
      unfold fX4_hear
      rw [if_neg (nI_pos (by omega))]
      by_cases c3 : a = 60
      · subst c3
        rw [if_neg (show ¬ nI 60 < (60 : Int32) by decide), if_neg (fun z => z (show nI 60 = (60 : Int32) from rfl))]
        exact ⟨_, _, rfl, rfl, rfl, hR⟩
      · have c4 : nI a < (60 : Int32) := nI_lt (b := 60) (by omega) (by decide)
        have c5 : ¬ nI a = (60 : Int32) := fun z => c3 ((nI_eq (b := 60) (by omega) (by decide)).mp z)
        have e0 : (3 : Int32) * nI a = nI (3 * a) := pk_mul 3 a
        have e1 : nI (3 * a) + (1 : Int32) = nI (3 * a + 1) := nI_add _ 1
        have e2 : nI (3 * a) + (2 : Int32) = nI (3 * a + 2) := nI_add _ 2
        have e3 : (if a3 = 0 then (0 : Int32) else 1) = a3 := by rcases h3 with h | h <;> subst h <;> rfl
        rw [if_pos c4, if_pos c5]
        simp only [jn, e0, e1, e2, ixb_nI (show a < 60 by omega) (by decide), ixb_nI (show 3 * a < 180 by omega) (by decide), ixb_nI (show 3 * a + 1 < 180 by omega) (by decide), ixb_nI (show 3 * a + 2 < 180 by omega) (by decide), if_true, nI_clamp (show a < 2 ^ 31 by omega), nI_clamp (show 3 * a < 2 ^ 31 by omega), nI_clamp (show 3 * a + 1 < 2 ^ 31 by omega), nI_clamp (show 3 * a + 2 < 2 ^ 31 by omega), nI_1, nar_b h3, Option.bind_some]
        have fin : RJ (nI (a + 1)) (upd by_ a a1) (upd si a a2) (upd sa a a3) (nI (a + 1)) (upd (upd (upd cs (3 * a) a1) (3 * a + 1) a2) (3 * a + 2) a3) := by
          refine ⟨a + 1, by omega, rfl, rfl, fun j => ?_, fun j => ?_, fun j => ?_⟩
          · unfold upd
            by_cases q : j = a
            · subst q; simp
            · rw [if_neg q, if_neg (by omega), if_neg (by omega), if_neg (by omega)]; exact r1 j
          · unfold upd
            by_cases q : j = a
            · subst q; simp
            · rw [if_neg q, if_neg (by omega), if_neg (by omega), if_neg (by omega)]; exact r2 j
          · unfold upd
            by_cases q : j = a
            · subst q; simp
            · rw [if_neg q, if_neg (by omega), if_neg (by omega), if_neg (by omega)]; exact r3 j
        rcases h3 with h | h
        · subst h
          exact ⟨_, _, rfl, rfl, rfl, fin⟩
        · subst h
          exact ⟨_, _, rfl, rfl, rfl, fin⟩
def RK (am : Int32) (o w : Nat → Int32) (cm : Int32) (cs : Nat → Int32) : Prop := ∃ a : Nat, a ≤ 30 ∧ am = nI a ∧ cm = nI a ∧ (∀ j, o j = cs (2 * j)) ∧ (∀ j, w j = cs (2 * j + 1)) ∧ ∀ j, w j = 0 ∨ w j = 1
theorem truly_eq (N : Nat) (a1 a2 : Int32) (h2 : a2 = 0 ∨ a2 = 1) {am cm : Int32} {o w cs : Nat → Int32} (hR : RK am o w cm cs) : ∃ q p, fX9_truly N a1 a2 am o w = some q ∧ fX10_truly N a1 a2 cm cs = some p ∧ q.1 = p.1 ∧ RK q.2.1 q.2.2.1 q.2.2.2 p.2.1 p.2.2 := by
  obtain ⟨a, ha, rfl, rfl, r1, r2, r3⟩ := id hR
  unfold fX9_truly fX10_truly
  rw [wi_def, in_def N a1 0 100 0 100 rfl rfl, Option.bind_some, Option.bind_some]
  by_cases c1 : wi a1 0 100 = 0
  · rw [if_pos c1, if_neg (fun z => z c1)]; exact ⟨_, _, rfl, rfl, rfl, hR⟩
  · rw [if_neg c1, if_pos c1]
    unfold fX1_add
    rw [if_neg (nI_pos (by omega))]
    by_cases c3 : a = 30
    · subst c3
      rw [if_neg (show ¬ nI 30 < (30 : Int32) by decide), if_neg (fun z => z (show nI 30 = (30 : Int32) from rfl))]
      exact ⟨_, _, rfl, rfl, rfl, hR⟩
    · have c4 : nI a < (30 : Int32) := nI_lt (b := 30) (by omega) (by decide)
      have c5 : ¬ nI a = (30 : Int32) := fun z => c3 ((nI_eq (b := 30) (by omega) (by decide)).mp z)
      have e0 : (2 : Int32) * nI a = nI (2 * a) := pk_mul 2 a
      have e1 : nI (2 * a) + (1 : Int32) = nI (2 * a + 1) := nI_add _ 1
      rw [if_pos c4, if_pos c5]
      simp only [jn, e0, e1, ixb_nI (show a < 30 by omega) (by decide), ixb_nI (show 2 * a < 60 by omega) (by decide), ixb_nI (show 2 * a + 1 < 60 by omega) (by decide), if_true, nI_clamp (show a < 2 ^ 31 by omega), nI_clamp (show 2 * a < 2 ^ 31 by omega), nI_clamp (show 2 * a + 1 < 2 ^ 31 by omega), nI_1, nar_b h2, Option.bind_some]
      have fin : RK (nI (a + 1)) (upd o a a1) (upd w a a2) (nI (a + 1)) (upd (upd cs (2 * a) a1) (2 * a + 1) a2) := by
        refine ⟨a + 1, by omega, rfl, rfl, fun j => ?_, fun j => ?_, fun j => ?_⟩
        · unfold upd
          by_cases q : j = a
          · subst q; simp
          · rw [if_neg q, if_neg (by omega), if_neg (by omega)]; exact r1 j
        · unfold upd
          by_cases q : j = a
          · subst q; simp
          · rw [if_neg q, if_neg (by omega), if_neg (by omega)]; exact r2 j
        · unfold upd
          by_cases q : j = a
          · subst q; simp [h2]
          · rw [if_neg q]; exact r3 j
      rcases h2 with h | h
      · subst h
        exact ⟨_, _, rfl, rfl, rfl, fin⟩
      · subst h
        exact ⟨_, _, rfl, rfl, rfl, fin⟩
theorem best_eq (N : Nat) (hN : 60 < N) (a1 : Int32) {am cm : Int32} {o w cs : Nat → Int32} (hR : RK am o w cm cs) : ∃ r, fX9_bestSure N a1 am o w = some r ∧ fX10_bestSure N a1 cm cs = some r := by
  obtain ⟨a, ha, rfl, rfl, r1, r2, r3⟩ := hR
  have eo : o = fun j => cs (2 * j) := funext r1
  have ew : w = fun j => cs (2 * j + 1) := funext r2
  have hw : ∀ j, j < a → cs (2 * j + 1) = 0 ∨ cs (2 * j + 1) = 1 := fun j _ => by rw [← r2]; exact r3 j
  unfold fX9_bestSure fX10_bestSure
  rw [wi_def, in_def N a1 0 2 0 2 rfl rfl, Option.bind_some, Option.bind_some]
  by_cases c1 : wi a1 0 2 = 0
  · exact ⟨-1, by rw [if_neg (fun z => z c1)], by rw [if_neg (fun z => z c1)]⟩
  · rw [if_pos c1, if_pos c1]
    obtain ⟨V, hV⟩ : ∃ V : Nat → Nat, ∀ s, V s = 100 * fb_ct (csW o w (nI s)) a + fb_ct (csU o (nI s)) a := ⟨_, fun _ => rfl⟩
    obtain ⟨b, b1, b2⟩ := br_def N a ha hN o w V hV
    obtain ⟨b', d1, d2⟩ := bs_def N a ha hN a1 cs (fun x2 => if ¬ a1 = 0 then (if ¬ a1 = (1 : Int32) then (fX10_weigh N x2 (nI a) cs).bind (fun q77 => some (q77 - q77 / (100 : Int32) * (100 : Int32))) else (fX10_weigh N x2 (nI a) cs).bind (fun q66 => some (q66 / (100 : Int32)))) else some x2) hw V (by rw [← eo, ← ew]; exact hV)
    have e := fl_one b1 d1
    subst e
    rw [b2, Option.bind_some]
    simp only [jn]
    rw [d2]
    by_cases c2 : a1 = 0
    · exact ⟨nI b, by rw [if_neg (fun z => z c2)], by rw [if_neg (fun z => z c2)]⟩
    · rw [if_pos c2, if_pos c2]
      have hwe := we_def N a ha (by omega) (nI b) cs hw
      have bW : fb_ct (csW o w (nI b)) a ≤ 30 := Nat.le_trans (fb_ct_le _ a) ha
      have bU : fb_ct (csU o (nI b)) a ≤ 30 := Nat.le_trans (fb_ct_le _ a) ha
      rw [← eo, ← ew] at hwe
      rw [hwe]
      by_cases c3 : a1 = 1
      · rw [if_neg (fun z => z c3), if_neg (fun z => z c3), wr_def N a ha (by omega)]
        refine ⟨_, rfl, ?_⟩
        simp only [Option.bind_some]
        rw [show (100 : Int32) = nI 100 from rfl, pk_div (by omega) (by decide) (by decide)]
        congr 2
        omega
      · rw [if_pos c3, if_pos c3, ut_def N a ha (by omega)]
        refine ⟨_, rfl, ?_⟩
        simp only [Option.bind_some]
        rw [show (100 : Int32) = nI 100 from rfl, pk_rem (by omega) (by decide) (by decide)]
        congr 2
        omega
