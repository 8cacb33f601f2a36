/-! what is kept together -/
def SR (k a b t e s rk ra rb rc rd re : Int32) : Prop := rd = e ∧ (0 ≤ e.toInt ∧ e.toInt ≤ 1000) ∧ ((k = 0 ∧ rk = 0 ∧ ra = a ∧ rb = t ∧ rc = b ∧ (∃ c : Nat, c ≤ 3 ∧ a = nI c) ∧ (∃ j : Nat, j ≤ 600 ∧ t = nI j)) ∨ (k = 1 ∧ rk = 1 ∧ ra = a ∧ rb = b) ∨ (k = 2 ∧ rk = 2 ∧ ra = a ∧ rb = b ∧ rc = t ∧ re = s ∧ (∃ j : Nat, 1 ≤ j ∧ j ≤ 500 ∧ s = nI j)))
def SRw (f g : Nat → Int32) (i j : Nat) : Prop := SR (f i) (f (i + 1)) (f (i + 2)) (f (i + 3)) (f (i + 4)) (f (i + 5)) (g j) (g (j + 1)) (g (j + 2)) (g (j + 3)) (g (j + 4)) (g (j + 5))
theorem SRw_cong {f f2 g g2 : Nat → Int32} {i i2 j j2 : Nat} (hf : ∀ k, k < 6 → f2 (i2 + k) = f (i + k)) (hg : ∀ k, k < 6 → g2 (j2 + k) = g (j + k)) (h : SRw f g i j) : SRw f2 g2 i2 j2 := by
  unfold SRw at *
  have a0 := hf 0 (by decide)
  have a1 := hf 1 (by decide)
  have a2 := hf 2 (by decide)
  have a3 := hf 3 (by decide)
  have a4 := hf 4 (by decide)
  have a5 := hf 5 (by decide)
  have b0 := hg 0 (by decide)
  have b1 := hg 1 (by decide)
  have b2 := hg 2 (by decide)
  have b3 := hg 3 (by decide)
  have b4 := hg 4 (by decide)
  have b5 := hg 5 (by decide)
  rw [Nat.add_zero, Nat.add_zero] at a0 b0
  rw [a0, a1, a2, a3, a4, a5, b0, b1, b2, b3, b4, b5]
  exact h
def BD (st : Nat → Int32) : Prop := (-100000 ≤ (st 1).toInt ∧ (st 1).toInt ≤ 100000) ∧ (-2000 ≤ (st 4).toInt ∧ (st 4).toInt ≤ 2000)
def RW (w : Nat) (am lf : Int32) (st rows bl ou sm sg : Nat → Int32) : Prop := ∃ a : Nat, a ≤ 30 ∧ am = nI a ∧ sm w = nI a ∧ lf = ou w ∧ (∃ m : Nat, m ≤ 15 ∧ lf = nI m) ∧ (∀ k, k < 6 → bl (6 * w + k) = st k) ∧ BD st ∧ ∀ i, i < a → SRw rows sg (6 * i) (180 * w + 6 * i)
theorem RW_cong {w : Nat} {am lf : Int32} {st rows bl ou sm sg bl2 ou2 sm2 sg2 : Nat → Int32} (h1 : ∀ k, k < 6 → bl2 (6 * w + k) = bl (6 * w + k)) (h2 : ou2 w = ou w) (h3 : sm2 w = sm w) (h4 : ∀ k, k < 180 → sg2 (180 * w + k) = sg (180 * w + k)) (h : RW w am lf st rows bl ou sm sg) : RW w am lf st rows bl2 ou2 sm2 sg2 := by
  obtain ⟨a, ha, r1, r2, r3, r4, r5, r6, r7⟩ := h
  refine ⟨a, ha, r1, h3.trans r2, r3.trans h2.symm, r4, fun k hk => (h1 k hk).trans (r5 k hk), r6, fun i hi => ?_⟩
  refine SRw_cong (fun _ _ => rfl) (fun k hk => ?_) (r7 i hi)
  have := h4 (6 * i + k) (by omega)
  rw [← Nat.add_assoc] at this
  exact this
theorem cpy_in {f g : Nat → Int32} {n j : Nat} (h : j < n) : va_cpy f g 0 0 n j = f j := sb_cpy0 h
theorem copy_r (N a b : Nat) (hN : 200 < N) (ha : a < 3) (hb : b < 3) (hab : a ≠ b) (bl ou sm sg : Nat → Int32) : fX10_copy N (nI a) (nI b) bl ou sm sg = some (fb_put bl (fun k => bl (6 * a + k)) (6 * b) 6, upd ou b (ou a), upd sm b (sm a), fb_put sg (fun k => sg (180 * a + k)) (180 * b) 180) := by
  have e1 : (6 : Int32) * nI a = nI (6 * a) := pk_mul 6 a
  have e2 : (6 : Int32) * nI b = nI (6 * b) := pk_mul 6 b
  have e3 : (180 : Int32) * nI a = nI (180 * a) := pk_mul 180 a
  have e4 : (180 : Int32) * nI b = nI (180 * b) := pk_mul 180 b
  have p1 : ∀ (K : (Nat → Int32) → Option ((Nat → Int32) × (Nat → Int32) × (Nat → Int32) × (Nat → Int32))), fX10_copy_p2 N (nI a) (nI b) K N 0 bl = K (fb_put bl (fun k => bl (6 * a + k)) (6 * b) 6) := fun K => by
    refine loopR (fun m (q : Nat → Int32) i => fX10_copy_p2 N (nI a) (nI b) K m (nI i) q) (fun i q => q = fb_put bl (fun k => bl (6 * a + k)) (6 * b) i) 6 (fun o => o = K (fb_put bl (fun k => bl (6 * a + k)) (6 * b) 6)) (fun m q hI => ?_) (fun m q i hi hI => ?_) N 0 bl (by decide) (by omega) (fb_put_0 _ _ _).symm
    · rw [hI, fX10_copy_p2, if_pos (show (6 : Int32) ≤ nI 6 by decide)]
    · subst hI
      refine ⟨fb_put bl (fun k => bl (6 * a + k)) (6 * b) (i + 1), rfl, ?_⟩
      rw [fX10_copy_p2, if_neg (show ¬ (6 : Int32) ≤ nI i from nI_ge (b := 6) hi (by decide)), e1, e2, nI_add, nI_add, if_pos (ixb_nI (by omega) (by decide)), if_pos (ixb_nI (by omega) (by decide)), nI_clamp (by omega), nI_clamp (by omega), nI_1, fb_put_out (k := 6 * a + i) (by omega), ← fb_put_succ]
  have p2 : ∀ (K : (Nat → Int32) → Option ((Nat → Int32) × (Nat → Int32) × (Nat → Int32) × (Nat → Int32))), fX10_copy_p62 N (nI a) (nI b) K N 0 sg = K (fb_put sg (fun k => sg (180 * a + k)) (180 * b) 180) := fun K => by
    refine loopR (fun m (q : Nat → Int32) i => fX10_copy_p62 N (nI a) (nI b) K m (nI i) q) (fun i q => q = fb_put sg (fun k => sg (180 * a + k)) (180 * b) i) 180 (fun o => o = K (fb_put sg (fun k => sg (180 * a + k)) (180 * b) 180)) (fun m q hI => ?_) (fun m q i hi hI => ?_) N 0 sg (by decide) (by omega) (fb_put_0 _ _ _).symm
    · rw [hI, fX10_copy_p62, if_pos (show (180 : Int32) ≤ nI 180 by decide)]
    · subst hI
      refine ⟨fb_put sg (fun k => sg (180 * a + k)) (180 * b) (i + 1), rfl, ?_⟩
      rw [fX10_copy_p62, if_neg (show ¬ (180 : Int32) ≤ nI i from nI_ge (b := 180) hi (by decide)), e3, e4, nI_add, nI_add, if_pos (ixb_nI (by omega) (by decide)), if_pos (ixb_nI (by omega) (by decide)), nI_clamp (by omega), nI_clamp (by omega), nI_1, fb_put_out (k := 180 * a + i) (by omega), ← fb_put_succ]
  unfold fX10_copy
  simp only [jn]
  rw [p1, if_pos (ixb_nI ha (by decide)), if_pos (ixb_nI hb (by decide)), if_pos (ixb_nI ha (by decide)), if_pos (ixb_nI hb (by decide)), p2, nI_clamp (by omega), nI_clamp (by omega)]
/-- after a copy of a world, by the class and by the reference -/
theorem RW_copy {a b : Nat} (hab : a ≠ b) {am lf : Int32} {st rows st2 rows2 bl ou sm sg : Nat → Int32} (h : RW a am lf st rows bl ou sm sg) : RW b am lf (va_cpy st st2 0 0 6) (va_cpy rows rows2 0 0 180) (fb_put bl (fun k => bl (6 * a + k)) (6 * b) 6) (upd ou b (ou a)) (upd sm b (sm a)) (fb_put sg (fun k => sg (180 * a + k)) (180 * b) 180) := by
  obtain ⟨n, ha, r1, r2, r3, r4, r5, r6, r7⟩ := h
  refine ⟨n, ha, r1, pk_us.trans r2, r3.trans pk_us.symm, r4, fun k hk => ?_, ?_, fun i hi => ?_⟩
  · rw [fb_put_in (by omega) (by omega), cpy_in hk, show 6 * b + k - 6 * b = k by omega]
    exact r5 k hk
  · unfold BD
    rw [cpy_in (by decide), cpy_in (by decide)]
    exact r6
  · refine SRw_cong (fun k hk => ?_) (fun k hk => ?_) (r7 i hi)
    · exact cpy_in (by omega)
    · rw [fb_put_in (by omega) (by omega), show 180 * b + 6 * i + k - 180 * b = 6 * i + k by omega, Nat.add_assoc]
theorem RW_other {a b c : Nat} (hc : c ≠ b) {am lf : Int32} {st rows bl ou sm sg : Nat → Int32} (h : RW c am lf st rows bl ou sm sg) : RW c am lf st rows (fb_put bl (fun k => bl (6 * a + k)) (6 * b) 6) (upd ou b (ou a)) (upd sm b (sm a)) (fb_put sg (fun k => sg (180 * a + k)) (180 * b) 180) := by
  refine RW_cong (fun k hk => fb_put_out (by omega)) (pk_un hc) (pk_un hc) (fun k hk => fb_put_out (by omega)) h
/-- the three worlds, and how many are kept -/
def RWs (kc am lf am1 lf1 am2 lf2 km : Int32) (st rows st1 rows1 st2 rows2 bl ou sm sg : Nat → Int32) : Prop := (∃ k : Nat, k ≤ 2 ∧ kc = nI k ∧ km = nI k) ∧ RW 0 am lf st rows bl ou sm sg ∧ RW 1 am1 lf1 st1 rows1 bl ou sm sg ∧ RW 2 am2 lf2 st2 rows2 bl ou sm sg
theorem keep_eq (N : Nat) (hN : 200 < N) {kc am lf am1 lf1 am2 lf2 km : Int32} {st rows st1 rows1 st2 rows2 bl ou sm sg : Nat → Int32} (hR : RWs kc am lf am1 lf1 am2 lf2 km st rows st1 rows1 st2 rows2 bl ou sm sg) : ∃ q z, fX9_keep N kc am1 lf1 rows1 st1 am2 lf2 rows2 st2 am lf rows st = some q ∧ fX10_keep N km bl ou sm sg = some z ∧ q.1 = z.1 ∧ RWs q.2.1 am lf q.2.2.1 q.2.2.2.1 q.2.2.2.2.2.2.1 q.2.2.2.2.2.2.2.1 z.2.1 st rows q.2.2.2.2.2.1 q.2.2.2.2.1 q.2.2.2.2.2.2.2.2.2 q.2.2.2.2.2.2.2.2.1 z.2.2.1 z.2.2.2.1 z.2.2.2.2.1 z.2.2.2.2.2 := by
  obtain ⟨⟨k, hk, rfl, rfl⟩, w0, w1, w2⟩ := id hR
  unfold fX9_keep fX10_keep fX8_copyOf
  simp only [Option.bind_some]
  have e0 : (0 : Int32).toNatClampNeg = 0 := rfl
  have e6 : (6 : Int32).toNatClampNeg = 6 := rfl
  have e180 : (180 : Int32).toNatClampNeg = 180 := rfl
  rcases (show k = 0 ∨ k = 1 ∨ k = 2 by omega) with rfl | rfl | rfl
  · have c := copy_r N 0 1 hN (by decide) (by decide) (by decide) bl ou sm sg
    rw [show ((1 : Int32) + nI 0) = nI 1 from rfl, show (0 : Int32) = nI 0 from rfl, c]
    rw [if_pos (show nI 0 < (2 : Int32) by decide), if_neg (fun z => z rfl), if_pos (show ¬ nI 0 = (2 : Int32) by decide)]
    exact ⟨_, _, rfl, rfl, rfl, ⟨1, by decide, rfl, rfl⟩, RW_other (by decide) w0, RW_copy (by decide) w0, RW_other (by decide) w2⟩
  · have c := copy_r N 0 2 hN (by decide) (by decide) (by decide) bl ou sm sg
    rw [show ((1 : Int32) + nI 1) = nI 2 from rfl, show (0 : Int32) = nI 0 from rfl, c]
    rw [if_pos (show nI 1 < (2 : Int32) by decide), if_pos (show ¬ nI 1 = nI 0 by decide), if_pos (show ¬ nI 1 = (2 : Int32) by decide)]
    exact ⟨_, _, rfl, rfl, rfl, ⟨2, by decide, rfl, rfl⟩, RW_other (by decide) w0, RW_other (by decide) w1, RW_copy (by decide) w0⟩
  · rw [if_neg (show ¬ nI 2 < (2 : Int32) by decide), if_neg (fun z => z rfl)]
    exact ⟨_, _, rfl, rfl, rfl, hR⟩
theorem back_eq (N : Nat) (hN : 200 < N) (fl kn v1 v2 : Int32) {kc am lf am1 lf1 am2 lf2 km : Int32} {st rows st1 rows1 st2 rows2 bl ou sm sg : Nat → Int32} (hR : RWs kc am lf am1 lf1 am2 lf2 km st rows st1 rows1 st2 rows2 bl ou sm sg) : ∃ q z, fX9_back N kc fl kn am1 lf1 rows1 st1 am2 lf2 rows2 st2 am lf rows st v1 v2 = some q ∧ fX10_back N km bl ou sm sg = some z ∧ q.1 = z.1 ∧ RWs q.2.1 q.2.2.2.2.1 q.2.2.2.2.2.1 am1 lf1 am2 lf2 z.2.1 q.2.2.2.2.2.2.2.1 q.2.2.2.2.2.2.1 st1 rows1 st2 rows2 z.2.2.1 z.2.2.2.1 z.2.2.2.2.1 z.2.2.2.2.2 ∧ ((q.2.2.1 = fl ∧ q.2.2.2.1 = kn ∧ q.2.2.2.2.1 = am ∧ q.2.2.2.2.2.1 = lf ∧ q.2.2.2.2.2.2.1 = rows ∧ q.2.2.2.2.2.2.2.1 = st ∧ q.2.2.2.2.2.2.2.2 = (v1, v2) ∧ z.2.2.1 = bl ∧ z.2.2.2.1 = ou ∧ z.2.2.2.2.1 = sm ∧ z.2.2.2.2.2 = sg) ∨ (q.2.2.1 = 0 ∧ q.2.2.2.1 = 0 ∧ q.2.2.2.2.2.2.2.2 = (0, 1))) := by
  obtain ⟨⟨k, hk, rfl, rfl⟩, w0, w1, w2⟩ := id hR
  unfold fX9_back fX10_back fX8_copyOf fX9_forgetFlight fX2_forget fX7_forget
  simp only [Option.bind_some]
  rcases (show k = 0 ∨ k = 1 ∨ k = 2 by omega) with rfl | rfl | rfl
  · rw [if_neg (show ¬ (0 : Int32) < nI 0 by decide), if_neg (fun z => z rfl)]
    exact ⟨_, _, rfl, rfl, rfl, hR, Or.inl ⟨rfl, rfl, rfl, rfl, rfl, rfl, rfl, rfl, rfl, rfl, rfl⟩⟩
  · have c := copy_r N 1 0 hN (by decide) (by decide) (by decide) bl ou sm sg
    rw [if_pos (show (0 : Int32) < nI 1 by decide), if_neg (show ¬ ¬ nI 1 - (1 : Int32) = 0 by decide), if_pos (show ¬ nI 1 = 0 by decide), show (1 : Int32) + (nI 1 - (1 : Int32)) = nI 1 from rfl, show fX10_copy N (nI 1) 0 bl ou sm sg = _ from c]
    exact ⟨_, _, rfl, rfl, rfl, ⟨⟨0, by decide, rfl, rfl⟩, RW_copy (by decide) w1, RW_other (by decide) w1, RW_other (by decide) w2⟩, Or.inr ⟨rfl, rfl, rfl⟩⟩
  · have c := copy_r N 2 0 hN (by decide) (by decide) (by decide) bl ou sm sg
    rw [if_pos (show (0 : Int32) < nI 2 by decide), if_pos (show ¬ nI 2 - (1 : Int32) = 0 by decide), if_pos (show ¬ nI 2 = 0 by decide), show (1 : Int32) + (nI 2 - (1 : Int32)) = nI 2 from rfl, show fX10_copy N (nI 2) 0 bl ou sm sg = _ from c]
    exact ⟨_, _, rfl, rfl, rfl, ⟨⟨1, by decide, rfl, rfl⟩, RW_copy (by decide) w2, RW_other (by decide) w1, RW_other (by decide) w2⟩, Or.inr ⟨rfl, rfl, rfl⟩⟩
