/-! the cases: which are wrong, which can't be told -/
def csW (o w : Nat → Int32) (s : Int32) (j : Nat) : Bool := if w j = 0 then decide (¬ o j < s) else decide (¬ 100 - o j < s)
def csU (o : Nat → Int32) (s : Int32) (j : Nat) : Bool := decide (o j < s) && decide (100 - o j < s)
theorem wr_def (N a : Nat) (ha : a ≤ 30) (hN : 30 < N) (s : Int32) (o w : Nat → Int32) : fX1_wrongUnder N s (nI a) o w = some (nI (fb_ct (csW o w s) a)) := by
  unfold fX1_wrongUnder jn
  have h := loopF (fun n x i => fX1_wrongUnder_p4 N s (nI a) o w (fun x3 => some x3) n x (nI i)) (fun x => some x) (fun i x => x + (if csW o w s i then 1 else 0 : Int32)) a
    (fun n x => by
      show fX1_wrongUnder_p4 N s (nI a) o w (fun x3 => some x3) (n + 1) x (nI a) = some x
      rw [fX1_wrongUnder_p4, if_pos (nI_le (Nat.le_refl a) (by omega))])
    (fun n x i hi => by
      show fX1_wrongUnder_p4 N s (nI a) o w (fun x3 => some x3) (n + 1) x (nI i) = fX1_wrongUnder_p4 N s (nI a) o w (fun x3 => some x3) n (x + (if csW o w s i then 1 else 0 : Int32)) (nI (i + 1))
      rw [fX1_wrongUnder_p4, if_neg (nI_ge hi (by omega)), if_neg (show ¬ (30 : Int32) ≤ nI i from nI_ge (b := 30) (by omega) (by decide)), if_pos (ixb_nI (by omega) (by decide))]
      simp only [jn, ixb_nI (show i < 30 by omega) (by decide), if_true, nI_clamp (show i < 2 ^ 31 by omega), nI_1]
      unfold csW
      by_cases h1 : w i = 0
      · by_cases h2 : o i < s <;> simp [h1, h2]
      · by_cases h2 : 100 - o i < s <;> simp [h1, h2])
    N 0 0 (Nat.zero_le a) (by omega)
  rw [Nat.sub_zero] at h
  have e := itF_cnt (csW o w s) a 0
  rw [Nat.zero_add] at e
  exact h.trans (congrArg some e)
theorem ut_def (N a : Nat) (ha : a ≤ 30) (hN : 30 < N) (s : Int32) (o : Nat → Int32) : fX1_untoldUnder N s (nI a) o = some (nI (fb_ct (csU o s) a)) := by
  unfold fX1_untoldUnder jn
  have h := loopF (fun n x i => fX1_untoldUnder_p4 N s (nI a) o (fun x3 => some x3) n x (nI i)) (fun x => some x) (fun i x => x + (if csU o s i then 1 else 0 : Int32)) a
    (fun n x => by
      show fX1_untoldUnder_p4 N s (nI a) o (fun x3 => some x3) (n + 1) x (nI a) = some x
      rw [fX1_untoldUnder_p4, if_pos (nI_le (Nat.le_refl a) (by omega))])
    (fun n x i hi => by
      show fX1_untoldUnder_p4 N s (nI a) o (fun x3 => some x3) (n + 1) x (nI i) = fX1_untoldUnder_p4 N s (nI a) o (fun x3 => some x3) n (x + (if csU o s i then 1 else 0 : Int32)) (nI (i + 1))
      rw [fX1_untoldUnder_p4, if_neg (nI_ge hi (by omega)), if_neg (show ¬ (30 : Int32) ≤ nI i from nI_ge (b := 30) (by omega) (by decide)), if_pos (ixb_nI (by omega) (by decide))]
      simp only [jn, ixb_nI (show i < 30 by omega) (by decide), if_true, nI_clamp (show i < 2 ^ 31 by omega), nI_1]
      unfold csU
      by_cases h1 : s ≤ o i
      · have h1' : ¬ o i < s := by rw [fa_lt]; rw [fa_le] at h1; omega
        simp [h1, h1']
      · have h1' : o i < s := fa_of_nle h1
        by_cases h2 : s ≤ 100 - o i
        · have h2' : ¬ 100 - o i < s := by rw [fa_lt]; rw [fa_le] at h2; omega
          simp [h1, h1', h2, h2']
        · have h2' : 100 - o i < s := fa_of_nle h2
          simp [h1, h1', h2, h2'])
    N 0 0 (Nat.zero_le a) (by omega)
  rw [Nat.sub_zero] at h
  have e := itF_cnt (csU o s) a 0
  rw [Nat.zero_add] at e
  exact h.trans (congrArg some e)
theorem itF_cnt2 (p q : Nat → Bool) : ∀ (m c d : Nat), itF (fun i (x : Int32 × Int32) => (x.1 + (if p i then 1 else 0 : Int32), x.2 + (if q i then 1 else 0 : Int32))) 0 m (nI c, nI d) = (nI (c + fb_ct p m), nI (d + fb_ct q m))
  | 0, c, d => by simp [itF, fb_ct]
  | m + 1, c, d => by
    rw [itF_succ, itF_cnt2 p q m c d, fb_ct_succ, fb_ct_succ, Nat.zero_add]
    have e : ∀ (r : Nat → Bool) (z : Nat), nI z + (if r m then 1 else 0 : Int32) = nI (z + (if r m then 1 else 0)) := fun r z => by
      by_cases h : r m = true
      · rw [if_pos h, if_pos h]; exact nI_1 _
      · rw [if_neg h, if_neg h, Nat.add_zero]; exact Int32.add_zero _
    simp only [e, Nat.add_assoc]
theorem we_def (N a : Nat) (ha : a ≤ 30) (hN : 30 < N) (s : Int32) (cs : Nat → Int32) (hw : ∀ j, j < a → cs (2 * j + 1) = 0 ∨ cs (2 * j + 1) = 1) : fX10_weigh N s (nI a) cs = some (nI (100 * fb_ct (csW (fun j => cs (2 * j)) (fun j => cs (2 * j + 1)) s) a + fb_ct (csU (fun j => cs (2 * j)) s) a)) := by
  unfold fX10_weigh jn
  have h := loopF (fun n (x : Int32 × Int32) i => fX10_weigh_p7 N s (nI a) cs (fun x2 x3 => some (((100 : Int32) * x2) + x3)) n x.1 x.2 (nI i)) (fun x => some (((100 : Int32) * x.1) + x.2)) (fun i x => (x.1 + (if csW (fun j => cs (2 * j)) (fun j => cs (2 * j + 1)) s i then 1 else 0 : Int32), x.2 + (if csU (fun j => cs (2 * j)) s i then 1 else 0 : Int32))) a
    (fun n x => by
      show fX10_weigh_p7 N s (nI a) cs (fun x2 x3 => some (((100 : Int32) * x2) + x3)) (n + 1) x.1 x.2 (nI a) = some (((100 : Int32) * x.1) + x.2)
      rw [fX10_weigh_p7, if_pos (nI_le (Nat.le_refl a) (by omega))])
    (fun n x i hi => by
      show fX10_weigh_p7 N s (nI a) cs (fun x2 x3 => some (((100 : Int32) * x2) + x3)) (n + 1) x.1 x.2 (nI i) = fX10_weigh_p7 N s (nI a) cs (fun x2 x3 => some (((100 : Int32) * x2) + x3)) n (x.1 + (if csW (fun j => cs (2 * j)) (fun j => cs (2 * j + 1)) s i then 1 else 0 : Int32)) (x.2 + (if csU (fun j => cs (2 * j)) s i then 1 else 0 : Int32)) (nI (i + 1))
      have e0 : (2 : Int32) * nI i = nI (2 * i) := pk_mul 2 i
      have e1 : nI (2 * i) + (1 : Int32) = nI (2 * i + 1) := nI_add _ 1
      rw [fX10_weigh_p7, if_neg (nI_ge hi (by omega))]
      simp only [jn, e0, e1, ixb_nI (show 2 * i < 60 by omega) (by decide), ixb_nI (show 2 * i + 1 < 60 by omega) (by decide), if_true, nI_clamp (show 2 * i < 2 ^ 31 by omega), nI_clamp (show 2 * i + 1 < 2 ^ 31 by omega), nI_1]
      unfold csW csU
      rcases hw i hi with q | q <;> by_cases h1 : cs (2 * i) < s <;> by_cases h2 : 100 - cs (2 * i) < s <;> simp [q, h1, h2])
    N 0 (0, 0) (Nat.zero_le a) (by omega)
  rw [Nat.sub_zero] at h
  have e := itF_cnt2 (csW (fun j => cs (2 * j)) (fun j => cs (2 * j + 1)) s) (csU (fun j => cs (2 * j)) s) a 0 0
  rw [Nat.zero_add, Nat.zero_add] at e
  refine h.trans ?_
  rw [show ((0 : Int32), (0 : Int32)) = (nI 0, nI 0) from rfl, e]
  show some ((100 : Int32) * nI _ + nI _) = _
  rw [show (100 : Int32) = nI 100 from rfl, pk_mul, nI_add]
/-! the first least one, by both roads -/
def fl_ok (V : Nat → Nat) (s b : Nat) : Prop := 51 ≤ b ∧ b < s ∧ ∀ r, 51 ≤ r → r < s → V b ≤ V r ∧ (r < b → V b < V r)
theorem fl_one {V : Nat → Nat} {s b c : Nat} (hb : fl_ok V s b) (hc : fl_ok V s c) : b = c := by
  obtain ⟨b1, b2, b3⟩ := hb
  obtain ⟨c1, c2, c3⟩ := hc
  rcases Nat.lt_trichotomy b c with q | q | q
  · have h1 := (c3 b b1 b2).2 q; have h2 := (b3 c c1 c2).1; omega
  · exact q
  · have h1 := (b3 c c1 c2).2 q; have h2 := (c3 b b1 b2).1; omega
theorem br_def (N a : Nat) (ha : a ≤ 30) (hN : 60 < N) (o w : Nat → Int32) (V : Nat → Nat) (hV : ∀ s, V s = 100 * fb_ct (csW o w (nI s)) a + fb_ct (csU o (nI s)) a) : ∃ b, fl_ok V 101 b ∧ fX1_bestRule N (nI a) o w = some (nI b) := by
  have hW := fun s => wr_def N a ha (by omega) (nI s) o w
  have hU := fun s => ut_def N a ha (by omega) (nI s) o
  have bW : ∀ s, fb_ct (csW o w (nI s)) a ≤ 30 := fun s => Nat.le_trans (fb_ct_le _ a) ha
  have bU : ∀ s, fb_ct (csU o (nI s)) a ≤ 30 := fun s => Nat.le_trans (fb_ct_le _ a) ha
  have h := loopI (fun n (x : Nat × Nat × Nat) i => fX1_bestRule_p13 N (nI a) o w (fun x1 => some x1) n (nI x.1) (nI x.2.1) (nI x.2.2) (nI i)) (fun x => some (nI x.1))
    (fun s x => if fb_ct (csW o w (nI s)) a < x.2.1 ∨ (fb_ct (csW o w (nI s)) a = x.2.1 ∧ fb_ct (csU o (nI s)) a < x.2.2) then (s, fb_ct (csW o w (nI s)) a, fb_ct (csU o (nI s)) a) else x)
    (fun s x => 51 ≤ s ∧ x.2.1 ≤ 31 ∧ x.2.2 ≤ 31 ∧ ((s = 51 ∧ x = (51, 31, 31)) ∨ (51 < s ∧ x.2.1 = fb_ct (csW o w (nI x.1)) a ∧ x.2.2 = fb_ct (csU o (nI x.1)) a ∧ fl_ok V s x.1))) 101
    (fun n x _ => by
      show fX1_bestRule_p13 N (nI a) o w (fun x1 => some x1) (n + 1) (nI x.1) (nI x.2.1) (nI x.2.2) (nI 101) = some (nI x.1)
      rw [fX1_bestRule_p13, if_pos (show (100 : Int32) < nI 101 by decide)])
    (fun n x s hs hI => by
      obtain ⟨b, fw, fu⟩ := x
      obtain ⟨i1, i2, i3, -⟩ := hI
      dsimp only at i2 i3 ⊢
      rw [fX1_bestRule_p13, if_neg (show ¬ (100 : Int32) < nI s from nI_nlt (b := s) (a := 100) (by omega) (by decide)), hW, Option.bind_some, hU, Option.bind_some]
      simp only [jn, nI_1, nI_ltI (Nat.lt_of_le_of_lt (bW s) (by decide)) (Nat.lt_of_le_of_lt i2 (by decide)), nI_eq (Nat.lt_of_le_of_lt (bW s) (by decide)) (Nat.lt_of_le_of_lt i2 (by decide)), nI_leI (Nat.lt_of_le_of_lt i3 (by decide)) (Nat.lt_of_le_of_lt (bU s) (by decide))]
      by_cases c1 : fb_ct (csW o w (nI s)) a < fw
      · simp [c1]
      · by_cases c2 : fb_ct (csW o w (nI s)) a = fw
        · by_cases c3 : fb_ct (csU o (nI s)) a < fu
          · have c3' : ¬ fu ≤ fb_ct (csU o (nI s)) a := by omega
            simp [c1, c2, c3, c3']
          · have c3' : fu ≤ fb_ct (csU o (nI s)) a := by omega
            simp [c1, c2, c3, c3']
        · simp [c1, c2])
    (fun x s hs hI => by
      obtain ⟨b, fw, fu⟩ := x
      obtain ⟨i1, i2, i3, i4⟩ := hI
      dsimp only at i2 i3 i4 ⊢
      have vs := hV s
      have w1 := bW s
      have u1 := bU s
      split
      · rename_i c
        refine ⟨by omega, by dsimp only; omega, by dsimp only; omega, Or.inr ⟨by omega, rfl, rfl, i1, by dsimp only; omega, ?_⟩⟩
        intro r r1 r2
        dsimp only at r2 ⊢
        rcases i4 with ⟨e, e2⟩ | ⟨e, e2, e3, e4⟩
        · have : r = s := by omega
          subst this; exact ⟨Nat.le_refl _, fun q => absurd q (Nat.lt_irrefl _)⟩
        · have vb := hV b
          have wb := bW b
          have ub := bU b
          have hlt : V s < V b := by rw [vs, vb]; rw [e2, e3] at c; omega
          rcases Nat.lt_or_ge r s with q | q
          · have := (e4.2.2 r r1 q).1
            exact ⟨by omega, fun _ => by omega⟩
          · have : r = s := by omega
            subst this; exact ⟨Nat.le_refl _, fun q => absurd q (Nat.lt_irrefl _)⟩
      · rename_i c
        rcases i4 with ⟨e, e2⟩ | ⟨e, e2, e3, e4⟩
        · injection e2 with q1 q2
          injection q2 with q2 q3
          exact absurd (Or.inl (by omega)) c
        · refine ⟨by omega, i2, i3, Or.inr ⟨by omega, e2, e3, e4.1, by have := e4.2.1; omega, ?_⟩⟩
          intro r r1 r2
          rcases Nat.lt_or_ge r s with q | q
          · exact e4.2.2 r r1 q
          · have : r = s := by omega
            subst this
            have vb := hV b
            have wb := bW b
            have ub := bU b
            have hb := e4.2.1
            rw [vs, vb]
            rw [e2, e3] at c
            exact ⟨by omega, fun q => by omega⟩)
    N 51 (51, 31, 31) (by decide) (by omega) ⟨Nat.le_refl _, by decide, by decide, Or.inl ⟨rfl, rfl⟩⟩
  obtain ⟨h1, h2⟩ := h
  rcases h2.2.2.2 with ⟨e, -⟩ | ⟨-, -, -, q⟩
  · exact absurd e (by decide)
  · refine ⟨_, q, ?_⟩
    unfold fX1_bestRule jn
    exact h1
theorem bs_def (N a : Nat) (ha : a ≤ 30) (hN : 60 < N) (y1 : Int32) (cs : Nat → Int32) (K : Int32 → Option Int32) (hw : ∀ j, j < a → cs (2 * j + 1) = 0 ∨ cs (2 * j + 1) = 1) (V : Nat → Nat) (hV : ∀ s, V s = 100 * fb_ct (csW (fun j => cs (2 * j)) (fun j => cs (2 * j + 1)) (nI s)) a + fb_ct (csU (fun j => cs (2 * j)) (nI s)) a) : ∃ b, fl_ok V 101 b ∧ fX10_bestSure_p20 N y1 (nI a) cs K N (51 : Int32) (52 : Int32) = K (nI b) := by
  have hE : ∀ s, fX10_weigh N (nI s) (nI a) cs = some (nI (V s)) := fun s => by rw [we_def N a ha (by omega) (nI s) cs hw, hV]
  have bV : ∀ s, V s < 2 ^ 31 := fun s => by
    have h1 := fb_ct_le (csW (fun j => cs (2 * j)) (fun j => cs (2 * j + 1)) (nI s)) a
    have h2 := fb_ct_le (csU (fun j => cs (2 * j)) (nI s)) a
    rw [hV]; omega
  have h := loopI (fun n (x : Nat) i => fX10_bestSure_p20 N y1 (nI a) cs K n (nI x) (nI i)) (fun x => K (nI x)) (fun s x => if V s < V x then s else x) (fun s x => 52 ≤ s ∧ fl_ok V s x) 101
    (fun n x _ => by
      show fX10_bestSure_p20 N y1 (nI a) cs K (n + 1) (nI x) (nI 101) = K (nI x)
      rw [fX10_bestSure_p20, if_pos (show (100 : Int32) < nI 101 by decide)])
    (fun n x s hs _ => by
      show fX10_bestSure_p20 N y1 (nI a) cs K (n + 1) (nI x) (nI s) = fX10_bestSure_p20 N y1 (nI a) cs K n (nI (if V s < V x then s else x)) (nI (s + 1))
      rw [fX10_bestSure_p20, if_neg (show ¬ (100 : Int32) < nI s from nI_nlt (b := s) (a := 100) (by omega) (by decide)), hE, Option.bind_some, hE, Option.bind_some]
      simp only [jn, nI_1, nI_leI (bV x) (bV s)]
      by_cases c : V s < V x
      · have c' : ¬ V x ≤ V s := by omega
        simp [c, c']
      · have c' : V x ≤ V s := by omega
        simp [c, c'])
    (fun x s hs hI => by
      obtain ⟨i1, i2, i3, i4⟩ := hI
      refine ⟨by omega, ?_⟩
      split
      · rename_i c
        refine ⟨by omega, by omega, fun r r1 r2 => ?_⟩
        rcases Nat.lt_or_ge r s with q | q
        · have := (i4 r r1 q).1
          exact ⟨by omega, fun _ => by omega⟩
        · have : r = s := by omega
          subst this; exact ⟨Nat.le_refl _, fun q => absurd q (Nat.lt_irrefl _)⟩
      · rename_i c
        refine ⟨i2, by omega, fun r r1 r2 => ?_⟩
        rcases Nat.lt_or_ge r s with q | q
        · exact i4 r r1 q
        · have : r = s := by omega
          subst this
          exact ⟨by omega, fun q => by omega⟩)
    N 52 51 (by decide) (by omega) ⟨Nat.le_refl _, by decide, by decide, fun r r1 r2 => by
      have : r = 51 := by omega
      subst this; exact ⟨Nat.le_refl _, fun q => absurd q (Nat.lt_irrefl _)⟩⟩
  exact ⟨_, h.2.2, h.1⟩
