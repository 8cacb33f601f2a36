/-! how far a ball can come to the side: no subtraction of two such places wraps -/
theorem td_p {c : Int} (h : 0 ≤ c) : c.tdiv 1000 = c / 1000 := Int.tdiv_eq_ediv_of_nonneg h
theorem td_n {c : Int} (h : c ≤ 0) : c.tdiv 1000 = -((-c) / 1000) := by
  have e : c = -(-c) := by omega
  rw [e, Int.neg_tdiv, td_p (by omega), ← e]
theorem aR_le {v air : Int32} (h1 : -100000 ≤ v.toInt) (h2 : v.toInt ≤ 100000) (a1 : 0 ≤ air.toInt) (a2 : air.toInt ≤ 500) : (0 ≤ v.toInt → 0 ≤ (aR v air).toInt ∧ (aR v air).toInt ≤ v.toInt) ∧ (v.toInt < 0 → v.toInt ≤ (aR v air).toInt ∧ (aR v air).toInt ≤ 0) := by
  have p1 : 0 ≤ v.toInt → 0 ≤ v.toInt * air.toInt ∧ v.toInt * air.toInt ≤ v.toInt * 500 := fun h => ⟨Int.mul_nonneg h a1, Int.mul_le_mul_of_nonneg_left a2 h⟩
  have p2 : v.toInt < 0 → v.toInt * air.toInt ≤ 0 ∧ v.toInt * 500 ≤ v.toInt * air.toInt := fun h => ⟨Int.mul_nonpos_of_nonpos_of_nonneg (by omega) a1, Int.mul_le_mul_of_nonpos_left (by omega) a2⟩
  have hm : (v * air).toInt = v.toInt * air.toInt := by
    apply fb_mulI
    · rcases Int.lt_or_le v.toInt 0 with q | q
      · have := p2 q; omega
      · have := p1 q; omega
    · rcases Int.lt_or_le v.toInt 0 with q | q
      · have := p2 q; omega
      · have := p1 q; omega
  have hd : ((v * air) / (1000 : Int32)).toInt = (v.toInt * air.toInt).tdiv 1000 := by
    rw [Int32.toInt_div, hm, show (1000 : Int32).toInt = 1000 from rfl]
    apply fb_bmod
    · rcases Int.lt_or_le v.toInt 0 with q | q
      · have := p2 q; have := td_n this.1; omega
      · have := p1 q; have := td_p this.1; omega
    · rcases Int.lt_or_le v.toInt 0 with q | q
      · have := p2 q; have := td_n this.1; omega
      · have := p1 q; have := td_p this.1; omega
  have hs : (aR v air).toInt = v.toInt - (v.toInt * air.toInt).tdiv 1000 := by
    unfold aR
    rw [fb_subI, hd]
    · rw [hd]
      rcases Int.lt_or_le v.toInt 0 with q | q
      · have := p2 q; have := td_n this.1; omega
      · have := p1 q; have := td_p this.1; omega
    · rw [hd]
      rcases Int.lt_or_le v.toInt 0 with q | q
      · have := p2 q; have := td_n this.1; omega
      · have := p1 q; have := td_p this.1; omega
  rw [hs]
  exact ⟨fun q => by have := p1 q; have := td_p this.1; omega, fun q => by have := p2 q; have := td_n this.1; omega⟩
theorem sd_le {L B : Nat → Int32} (a1 : 0 ≤ (L 0).toInt) (a2 : (L 0).toInt ≤ 500) (b1 : -100000 ≤ (B 1).toInt ∧ (B 1).toInt ≤ 100000) (b4 : -2000 ≤ (B 4).toInt ∧ (B 4).toInt ≤ 2000) {c : Nat} (hc : c < 189) : ∀ t : Nat, t ≤ 600 → (-(2010 + 4 * (t : Int)) ≤ (sd L B c t).1.toInt ∧ (sd L B c t).1.toInt ≤ 2010 + 4 * (t : Int)) ∧ (-(100000 + 4410 * (t : Int)) ≤ (sd L B c t).2.toInt ∧ (sd L B c t).2.toInt ≤ 100000 + 4410 * (t : Int))
  | 0, _ => by
    have e9 : nI c / (9 : Int32) = nI (c / 9) := pk_div (by omega) (by decide) (by decide)
    have i9 : (nI (c / 9)).toInt = ((c / 9 : Nat) : Int) := nI_toInt (by omega)
    have s1 : (B 4 + nI (c / 9)).toInt = (B 4).toInt + ((c / 9 : Nat) : Int) := by
      rw [fb_addI, i9] <;> rw [i9] <;> omega
    have s2 : ((B 4 + nI (c / 9)) - (10 : Int32)).toInt = (B 4).toInt + ((c / 9 : Nat) : Int) - 10 := by
      have e10 : (10 : Int32).toInt = 10 := rfl
      rw [fb_subI, s1, e10] <;> rw [s1, e10] <;> omega
    refine ⟨?_, ?_⟩
    · show _ ≤ ((B 4 + nI c / (9 : Int32)) - (10 : Int32)).toInt ∧ ((B 4 + nI c / (9 : Int32)) - (10 : Int32)).toInt ≤ _
      rw [e9, s2]
      omega
    · show _ ≤ (B 1).toInt ∧ (B 1).toInt ≤ _
      omega
  | t + 1, ht => by
    obtain ⟨⟨i1, i2⟩, i3, i4⟩ := sd_le a1 a2 b1 b4 hc t (by omega)
    have hsp : spn c = nI (c % 9) - (4 : Int32) := by
      unfold spn
      rw [show (9 : Int32) = nI 9 from rfl, pk_rem (by omega) (by decide) (by decide)]
    have isp : (spn c).toInt = ((c % 9 : Nat) : Int) - 4 := by
      have e4 : (4 : Int32).toInt = 4 := rfl
      have e5 : (nI (c % 9)).toInt = ((c % 9 : Nat) : Int) := nI_toInt (by omega)
      rw [hsp, fb_subI, e5, e4] <;> rw [e5, e4] <;> omega
    have hr := aR_le (v := (sd L B c t).1) (air := L 0) (by omega) (by omega) a1 a2
    have ev : (sd L B c (t + 1)).1.toInt = (aR (sd L B c t).1 (L 0)).toInt + (spn c).toInt := by
      show (aR (sd L B c t).1 (L 0) + spn c).toInt = _
      apply fb_addI <;> omega
    have v1 : -(2010 + 4 * ((t : Int) + 1)) ≤ (sd L B c (t + 1)).1.toInt ∧ (sd L B c (t + 1)).1.toInt ≤ 2010 + 4 * ((t : Int) + 1) := by
      rw [ev]; omega
    have ey : (sd L B c (t + 1)).2.toInt = (sd L B c t).2.toInt + (sd L B c (t + 1)).1.toInt := by
      show ((sd L B c t).2 + (sd L B c (t + 1)).1).toInt = _
      apply fb_addI <;> omega
    refine ⟨?_, ?_⟩
    · omega
    · rw [ey]; omega
theorem off_d (N : Nat) (a : Int32) : fX10_off N a = some (if 0 ≤ a then a else -a) := by
  unfold fX10_off
  by_cases c : 0 ≤ a
  · rw [if_pos c, if_pos c]
  · rw [if_neg c, if_neg c]
theorem apart_eq (N : Nat) (hN : 1000 < N) (a1 a2 : Int32) {lc w1 wx wd wh items : Int32} {nb lf ly im it : Nat → Int32} (hR : RLw lc w1 wx wd wh items nb lf ly im it) {B bl xs zs us ws tys : Nat → Int32} (hB : ∀ k, k < 6 → bl k = B k) (b1 : -100000 ≤ (B 1).toInt ∧ (B 1).toInt ≤ 100000) (b4 : -2000 ≤ (B 4).toInt ∧ (B 4).toInt ≤ 2000) {flown kn tt tx tl hf : Int32} (hF : RF N lc lf ly nb B flown kn tt tx tl hf xs zs us ws tys) (sv : Int32) (ys : Nat → Int32) (rt rh : Int32) (r1 r2 r3 r4 r5 r6 : Nat → Int32) : ∃ q z, fX9_apart N a1 a2 flown sv tt tx tl hf us ws xs ys zs lc lf ly nb B = some q ∧ fX10_apart N a1 a2 rt rh bl im it r1 r2 r3 r4 r5 r6 = some z ∧ q.1 = z.1 ∧ RF N lc lf ly nb B q.2.1 kn q.2.2.2.1 q.2.2.2.2.1 q.2.2.2.2.2.1 q.2.2.2.2.2.2.1 q.2.2.2.2.2.2.2.2.2.1 q.2.2.2.2.2.2.2.2.2.2.2 q.2.2.2.2.2.2.2.1 q.2.2.2.2.2.2.2.2.1 tys := by
  unfold fX9_apart fX10_apart
  rw [(curve_d N a1).1, (curve_d N a1).2, Option.bind_some, Option.bind_some]
  by_cases c1 : wi a1 0 188 = 0
  · rw [if_pos c1, if_pos c1]; exact ⟨_, _, rfl, rfl, rfl, hF⟩
  · rw [if_neg c1, if_neg c1, (curve_d N a2).1, (curve_d N a2).2, Option.bind_some, Option.bind_some]
    by_cases c2 : wi a2 0 188 = 0
    · rw [if_neg (fun z => z c2), if_neg (fun z => z c2)]; exact ⟨_, _, rfl, rfl, rfl, hF⟩
    · rw [if_pos c2, if_pos c2]
      obtain ⟨c, hc, rfl⟩ := wi_ok (m := 188) (by decide) c1
      obtain ⟨d, hd, rfl⟩ := wi_ok (m := 188) (by decide) c2
      have air : 0 ≤ (nb 0).toInt ∧ (nb 0).toInt ≤ 500 := by
        obtain ⟨n, ln, -, -, -, -, -, -, -, -, h⟩ := hR
        exact h
      obtain ⟨ru, g1, g2, ⟨k1, k2, -⟩, g4⟩ := fly_rf hN hR hF
      obtain ⟨rv, l1, m1, m2, m3⟩ := lay_r N hN nb B c im it bl (rl_law (by omega) hR) hB rt rh r1 r2 r3 r4 r5 r6
      obtain ⟨rw', l1', m1', m2', m3'⟩ := lay_r N hN nb B d im it bl (rl_law (by omega) hR) hB rv.1 rv.2.1 rv.2.2.1 rv.2.2.2.1 rv.2.2.2.2.1 rv.2.2.2.2.2.1 rv.2.2.2.2.2.2.1 rv.2.2.2.2.2.2.2
      have hle := fT_le nb B
      rw [g1, l1, Option.bind_some, Option.bind_some, l1', k1, touches_c N _ (by omega), Option.bind_some]
      by_cases c0 : (fT nb B).1 = 0
      · rw [if_pos c0, if_pos rfl, m1, tk_0 c0, if_neg (fun z => z rfl)]
        refine ⟨_, _, rfl, rfl, rfl, ?_⟩
        rw [k1] at g4
        exact g4
      · obtain ⟨e1, -, -, -, -, e2⟩ := m3 _ hle
        obtain ⟨e1', -, -, -, -, e2'⟩ := m3' _ hle
        obtain ⟨sv', ys', ty⟩ := tY_c N hN nb B c _ hle sv ys
        obtain ⟨sv2, ys2, ty2⟩ := tY_c N hN nb B d _ hle sv' ys'
        obtain ⟨-, y1, y2⟩ := sd_le air.1 air.2 b1 b4 (show c < 189 by omega) _ hle
        obtain ⟨-, y3, y4⟩ := sd_le air.1 air.2 b1 b4 (show d < 189 by omega) _ hle
        rw [k1] at g4
        rw [if_neg c0, if_neg (by decide), m1, if_pos (tk_n c0 (by omega)), tk_p c0]
        unfold fX2_touchGap
        rw [ty, Option.bind_some, ty2]
        simp only [Option.bind_some, ixb_nI (show (fT nb B).1 < 601 by omega) (by decide), if_true, nI_clamp (show (fT nb B).1 < 2 ^ 31 by omega), m1', if_pos (tk_n c0 (show (fT nb B).1 < 2 ^ 31 by omega)), tk_p c0, off_d, e1, e1', e2, e2']
        obtain ⟨p, hp⟩ : ∃ p, p = (sd nb B c (fT nb B).1).2 := ⟨_, rfl⟩
        obtain ⟨r, hr⟩ : ∃ r, r = (sd nb B d (fT nb B).1).2 := ⟨_, rfl⟩
        rw [← hp] at y1 y2 ⊢
        rw [← hr] at y3 y4 ⊢
        have x0 : (fsq nb B (fT nb B).1).1 - (fsq nb B (fT nb B).1).1 = 0 := Int32.sub_self _
        have s1 : (p - r).toInt = p.toInt - r.toInt := by apply fb_subI <;> omega
        have s2 : (r - p).toInt = r.toInt - p.toInt := by apply fb_subI <;> omega
        have z0 : (0 : Int32).toInt = 0 := rfl
        have n1 : (-(r - p)).toInt = p.toInt - r.toInt := by rw [fb_negI, s2] <;> omega
        have n2 : (0 - (p - r)).toInt = r.toInt - p.toInt := by
          have h := fb_subI (x := 0) (y := p - r) (by rw [s1, z0]; omega) (by rw [s1, z0]; omega)
          rw [h, s1, z0]; omega
        have w1 : (if 0 ≤ r - p then r - p else -(r - p)) = (if 0 ≤ p - r then p - r else 0 - (p - r)) := by
          by_cases q : 0 ≤ p - r
          · rw [if_pos q]
            rw [fa_le, s1, z0] at q
            by_cases q2 : 0 ≤ r - p
            · rw [if_pos q2, fa_eq, s1, s2]
              rw [fa_le, s2, z0] at q2
              omega
            · rw [if_neg q2, fa_eq, n1, s1]
          · rw [if_neg q]
            rw [fa_le, s1, z0] at q
            have q2 : 0 ≤ r - p := by rw [fa_le, s2, z0]; omega
            rw [if_pos q2, fa_eq, s2, n2]
        have w2 : (0 : Int32) ≤ (if 0 ≤ p - r then p - r else 0 - (p - r)) := by
          by_cases q : 0 ≤ p - r
          · rw [if_pos q]; exact q
          · rw [if_neg q]
            rw [fa_le, s1, z0] at q
            rw [fa_le, n2, z0]; omega
        rw [x0, w1, if_pos (show (0 : Int32) ≤ 0 by decide), if_pos w2]
        rw [if_pos (show ¬ nI (fT nb B).1 = -4 by rw [← tk_p c0]; exact tk_n c0 (by omega))]
        exact ⟨_, _, rfl, rfl, rfl, g4⟩
