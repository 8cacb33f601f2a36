/-! the lean, by the reference's road; both answer alike -/
theorem off_def (N : Nat) (x : Int32) : fX10_off N x = some (if 0 ≤ x then x else -x) := by
  unfold fX10_off
  by_cases h : 0 ≤ x <;> simp [h]
theorem abs_small {l : Int} (h : -20 ≤ l ∧ l ≤ 20) : (if 0 ≤ Int32.ofInt l then Int32.ofInt l else -Int32.ofInt l) = nI l.natAbs := by
  have e : (Int32.ofInt l).toInt = l := fb_ofI (by omega) (by omega)
  by_cases c : 0 ≤ l
  · rw [if_pos (by rw [fa_le, e]; exact c), fa_eq, e, nI_toInt (by omega)]; omega
  · rw [if_neg (by rw [fa_le, e]; exact c), fa_eq, fb_negI (by rw [e]; omega), e, nI_toInt (by omega)]; omega
theorem of_lt {a b : Int} (ha : -100 ≤ a ∧ a ≤ 100) (hb : -100 ≤ b ∧ b ≤ 100) : Int32.ofInt a < Int32.ofInt b ↔ a < b := by
  rw [fa_lt, fb_ofI (by omega) (by omega), fb_ofI (by omega) (by omega)]
theorem of_le {a b : Int} (ha : -100 ≤ a ∧ a ≤ 100) (hb : -100 ≤ b ∧ b ≤ 100) : Int32.ofInt a ≤ Int32.ofInt b ↔ a ≤ b := by
  rw [fa_le, fb_ofI (by omega) (by omega), fb_ofI (by omega) (by omega)]
theorem of_1 {a : Int} (ha : -100 ≤ a ∧ a ≤ 100) : Int32.ofInt a + 1 = Int32.ofInt (a + 1) := by
  rw [fa_eq, fb_addI (by rw [fb_ofI (by omega) (by omega)]; show _ ≤ a + 1; omega) (by rw [fb_ofI (by omega) (by omega)]; show a + 1 < _; omega), fb_ofI (by omega) (by omega), fb_ofI (by omega) (by omega)]; rfl
theorem lean_r (N a : Nat) (ha : a ≤ 60) (hN : 60 < N) (side y2 : Int32) (cs : Nat → Int32) (K : Int32 → Option Int32) (U : Int → Nat) (hU : ∀ l : Int, U l = fb_ct (jdB (fun j => cs (3 * j)) (fun j => cs (3 * j + 2)) (fun j => cs (3 * j + 1)) side (Int32.ofInt l)) a) : ∃ b : Int, (-20 ≤ b ∧ b ≤ 20) ∧ (∀ l : Int, -20 ≤ l → l ≤ 20 → ky U b ≤ ky U l) ∧ fX10_lean_p29 N side y2 (nI a) cs K N (0 : Int32) (-20 : Int32) = K (Int32.ofInt b) := by
  have hun : ∀ l : Int, fX10_notSo N side (Int32.ofInt l) (nI a) cs = some (nI (U l)) := fun l => by rw [no_def N a ha hN, hU]
  have hb : ∀ l : Int, U l ≤ 60 := fun l => by
    have := fb_ct_le (jdB (fun j => cs (3 * j)) (fun j => cs (3 * j + 2)) (fun j => cs (3 * j + 1)) side (Int32.ofInt l)) a
    rw [hU]; omega
  have hsub : ∀ l q : Int, (nI (U l) - nI (U q)).toInt = (U l : Int) - U q := fun l q => pk_sub_toInt (Nat.lt_of_le_of_lt (hb l) (by decide)) (Nat.lt_of_le_of_lt (hb q) (by decide))
  have h := loopI (fun n (x : Int) i => fX10_lean_p29 N side y2 (nI a) cs K n (Int32.ofInt x) (Int32.ofInt ((i : Int) - 20))) (fun x => K (Int32.ofInt x)) (fun i x => if ky U ((i : Int) - 20) < ky U x then (i : Int) - 20 else x)
    (fun i x => (-20 ≤ x ∧ x ≤ 20) ∧ ∀ l : Int, -20 ≤ l → l < (i : Int) - 20 → ky U x ≤ ky U l) 41
    (fun n x _ => by
      show fX10_lean_p29 N side y2 (nI a) cs K (n + 1) (Int32.ofInt x) (Int32.ofInt (((41 : Nat) : Int) - 20)) = K (Int32.ofInt x)
      rw [fX10_lean_p29, if_pos (by decide)])
    (fun n x i hi hI => by
      show fX10_lean_p29 N side y2 (nI a) cs K (n + 1) (Int32.ofInt x) (Int32.ofInt ((i : Int) - 20)) = fX10_lean_p29 N side y2 (nI a) cs K n (Int32.ofInt (if ky U ((i : Int) - 20) < ky U x then (i : Int) - 20 else x)) (Int32.ofInt (((i + 1 : Nat) : Int) - 20))
      obtain ⟨⟨hx1, hx2⟩, -⟩ := hI
      have hl : -20 ≤ (i : Int) - 20 ∧ (i : Int) - 20 ≤ 20 := by omega
      generalize hle : (i : Int) - 20 = l at hl ⊢
      have el : ((i + 1 : Nat) : Int) - 20 = l + 1 := by omega
      rw [el]
      have c0 : ¬ (20 : Int32) < Int32.ofInt l := by
        rw [show (20 : Int32) = Int32.ofInt 20 from rfl, of_lt (by omega) (by omega)]; omega
      rw [fX10_lean_p29, if_neg c0, hun, Option.bind_some, hun, Option.bind_some]
      simp only [jn, off_def, Option.bind_some, abs_small hl, abs_small ⟨hx1, hx2⟩, of_1 (show -100 ≤ l ∧ l ≤ 100 by omega)]
      have k1 : (0 : Int32) < nI (U x) - nI (U l) ↔ U l < U x := by rw [fa_lt, hsub]; show (0 : Int) < _ ↔ _; omega
      have k2 : nI (U x) - nI (U l) = 0 ↔ U x = U l := by rw [fa_eq, hsub]; show _ = (0 : Int) ↔ _; omega
      have k3 : nI l.natAbs < nI x.natAbs ↔ l.natAbs < x.natAbs := nI_ltI (by omega) (by omega)
      have k4 : nI l.natAbs = nI x.natAbs ↔ l.natAbs = x.natAbs := nI_eq (by omega) (by omega)
      have k5 : Int32.ofInt x ≤ Int32.ofInt l ↔ x ≤ l := of_le (by omega) (by omega)
      simp only [k1, k2, k3, k4, k5]
      have key : ky U l < ky U x ↔ (U l < U x ∨ (U x = U l ∧ (l.natAbs < x.natAbs ∨ (l.natAbs = x.natAbs ∧ ¬ x ≤ l)))) := by
        have u1 := hb l
        have u2 := hb x
        unfold ky rk
        split <;> split <;> omega
      by_cases q1 : U l < U x
      · rw [if_pos q1, if_pos (key.mpr (Or.inl q1))]
      · rw [if_neg q1]
        by_cases q2 : U x = U l
        · by_cases q3 : l.natAbs < x.natAbs
          · rw [if_pos (key.mpr (Or.inr ⟨q2, Or.inl q3⟩))]
            simp [q2, q3]
          · by_cases q4 : l.natAbs = x.natAbs
            · by_cases q5 : x ≤ l
              · have nk : ¬ ky U l < ky U x := fun z => by have := key.mp z; omega
                simp [q2, q4, q5, nk]
              · rw [if_pos (key.mpr (Or.inr ⟨q2, Or.inr ⟨q4, q5⟩⟩))]
                simp [q2, q4, q5]
            · have nk : ¬ ky U l < ky U x := fun z => by have := key.mp z; omega
              simp [q2, q3, q4, nk]
        · have nk : ¬ ky U l < ky U x := fun z => by have := key.mp z; omega
          simp [q2, nk])
    (fun x i hi hI => by
      obtain ⟨h1, h2⟩ := hI
      refine ⟨by split <;> omega, fun l l1 l2 => ?_⟩
      split
      · rename_i c
        rcases (show l = (i : Int) - 20 ∨ l < (i : Int) - 20 by omega) with q | q
        · subst q; exact Int.le_refl _
        · have := h2 l l1 q; omega
      · rename_i c
        rcases (show l = (i : Int) - 20 ∨ l < (i : Int) - 20 by omega) with q | q
        · subst q; omega
        · exact h2 l l1 q)
    N 0 0 (by decide) (by omega) ⟨by decide, fun l l1 l2 => by omega⟩
  obtain ⟨e1, e2, e3⟩ := h
  exact ⟨_, e2, fun l l1 l2 => e3 l l1 (by show l < ((41 : Nat) : Int) - 20; omega), e1⟩
theorem lean_eq (N a : Nat) (ha : a ≤ 60) (hN : 60 < N) (a1 a2 : Int32) (by_ sa si cs : Nat → Int32) (h1 : by_ = fun j => cs (3 * j)) (h2 : si = fun j => cs (3 * j + 1)) (h3 : sa = fun j => cs (3 * j + 2)) : ∃ r, fX9_lean N a1 a2 (nI a) by_ sa si = some r ∧ fX10_lean N a1 a2 (nI a) cs = some r := by
  unfold fX9_lean fX10_lean
  rw [wi_def, in_def N a1 0 1 0 1 rfl rfl, Option.bind_some, Option.bind_some]
  by_cases c1 : wi a1 0 1 = 0
  · exact ⟨-100, by rw [if_pos c1], by rw [if_pos c1]⟩
  · rw [if_neg c1, if_neg c1, wi_def, in_def N a2 0 1 0 1 rfl rfl, Option.bind_some, Option.bind_some]
    by_cases c2 : wi a2 0 1 = 0
    · exact ⟨-100, by rw [if_neg (fun z => z c2)], by rw [if_neg (fun z => z c2)]⟩
    · rw [if_pos c2, if_pos c2]
      obtain ⟨U, hU⟩ : ∃ U : Int → Nat, ∀ l : Int, U l = fb_ct (jdB by_ sa si a1 (Int32.ofInt l)) a := ⟨_, fun _ => rfl⟩
      obtain ⟨b, b1, b2, b3⟩ := lean_c N a ha hN a1 by_ sa si U hU
      subst h1; subst h2; subst h3
      obtain ⟨b', d1, d2, d3⟩ := lean_r N a ha hN a1 a2 cs (fun x3 => if ¬ a2 = 0 then (fX10_notSo N a1 x3 (nI a) cs).bind (fun q => some q) else some x3) U hU
      have e : b = b' := ky_one b1 d1 (b2 b' d1.1 d1.2) (d2 b b1.1 b1.2)
      subst e
      rw [b3, Option.bind_some]
      simp only [jn]
      rw [d3]
      by_cases c3 : a2 = 0
      · exact ⟨Int32.ofInt b, by rw [if_neg (fun z => z c3)], by rw [if_neg (fun z => z c3)]⟩
      · rw [if_pos c3, if_pos c3, un_def N a ha hN, no_def N a ha hN]
        exact ⟨_, rfl, rfl⟩
