theorem reset_c (N : Nat) (hN : 10 < N) (lc ws items : Int32) (nb : Nat → Int32) : ∃ nb', fX5_reset N lc ws items nb = some (0, 0, 0, nb') ∧ ∀ k, k < 6 → nb' k = dfl k := by
  unfold fX5_reset
  simp only [jn]
  refine loopR (fun m (q : Nat → Int32) i => fX5_reset_p2 N (fun c1_36 => some ((0 : Int32), (0 : Int32), (0 : Int32), c1_36)) m (nI i) q) (fun i q => ∀ k, k < i → q k = tb_Law_WITHOUT k) 6 (fun o => ∃ nb', o = some (0, 0, 0, nb') ∧ ∀ k, k < 6 → nb' k = dfl k) (fun m q hI => ?_) (fun m q i hi hI => ?_) N 0 nb (by decide) (by omega) (fun k hk => absurd hk (Nat.not_lt_zero k))
  · rw [fX5_reset_p2, if_pos (show (6 : Int32) ≤ nI 6 by decide)]
    refine ⟨q, rfl, fun k hk => ?_⟩
    rw [hI k hk]
    rcases (show k = 0 ∨ k = 1 ∨ k = 2 ∨ k = 3 ∨ k = 4 ∨ k = 5 by omega) with rfl | rfl | rfl | rfl | rfl | rfl <;> rfl
  · refine ⟨upd q i (tb_Law_WITHOUT i), fun k hk => ?_, ?_⟩
    · by_cases c : k = i
      · subst c; exact pk_us
      · exact (pk_un c).trans (hI k (by omega))
    · rw [fX5_reset_p2, if_neg (show ¬ (6 : Int32) ≤ nI i from nI_ge (b := 6) hi (by decide)), if_neg (show ¬ (6 : Int32) ≤ nI i from nI_ge (b := 6) hi (by decide)), if_pos (ixb_nI hi (by decide)), if_pos (ixb_nI hi (by decide)), nI_1, nI_clamp (by omega)]
theorem RS_0 {wx wd wh : Int32} {nb lf ly it : Nat → Int32} (h : ∀ k, k < 6 → nb k = dfl k) : RS 0 0 0 0 wx wd wh 0 nb lf ly it := by
  refine ⟨0, by decide, rfl, rfl, fun k hk => h k hk, fun x => rfl, rfl, ?_⟩
  rw [h 0 (by decide)]
  exact ⟨by decide, by decide⟩
theorem fault_eq (N : Nat) (hN : 300 < N) {len mlen : Int32} {bt mt : Nat → Int32} (hR : RT len bt mlen mt) (kd pl : Int32) (c im it nu : Nat → Int32) : ∃ q z, fX9_fault N len bt kd c = some q ∧ fX10_fault N mlen pl im it nu mt = some z ∧ q.1 = z.1 ∧ z.2.2.1 0 = im 0 ∧ ∀ j, j < 268 → z.2.2.2.1 j = it j := by
  obtain ⟨n, hn, rfl, rfl, rfl⟩ := hR
  obtain ⟨q, q1, q2⟩ := ff_c N n hN hn bt (n + 1) 0 0 N kd c (by omega) (by omega) (by omega) (by omega)
  obtain ⟨z, z1, z2, z3, z4, -⟩ := ra_r N n hN hn bt (n + 1) 0 0 N (upd im 1 0) it nu (by omega) (by omega) (by omega) (by omega) pk_us
  unfold fX9_fault fX10_fault fX6_firstFault fX10_readAll
  rw [show fX6_firstFault_p4 N (nI n) bt N (0 : Int32) (0 : Int32) kd c = some q from q1, show fX10_readAll_p12 N (nI n) bt N (0 : Int32) (upd im (1 : Int32).toNatClampNeg 0) it nu = some z from z1]
  exact ⟨_, _, rfl, rfl, q2.trans z2.symm, z3.trans (pk_un (by decide)), z4⟩
theorem p26_r (N : Nat) (hN : 300 < N) (it : Nat → Int32) (K : (Nat → Int32) → Option (Int32 × Int32 × (Nat → Int32) × (Nat → Int32) × (Nat → Int32))) : fX10_lay_p26 N K N 0 it = K (fa_fill (fun k => it (268 + k)) it 268) := by
  refine loopR (fun m (q : Nat → Int32) i => fX10_lay_p26 N K m (nI i) q) (fun i q => q = fa_fill (fun k => it (268 + k)) it i) 268 (fun o => o = K (fa_fill (fun k => it (268 + k)) it 268)) (fun m q hI => ?_) (fun m q i hi hI => ?_) N 0 it (by decide) (by omega) (fa_fill_0 _ _).symm
  · rw [hI, fX10_lay_p26, if_pos (show (268 : Int32) ≤ nI 268 by decide)]
  · subst hI
    refine ⟨fa_fill (fun k => it (268 + k)) it (i + 1), rfl, ?_⟩
    rw [fX10_lay_p26, if_neg (show ¬ (268 : Int32) ≤ nI i from nI_ge (b := 268) hi (by decide)), show (268 : Int32) + nI i = nI (268 + i) from nI_add 268 i, if_pos (ixb_nI (by omega) (by decide)), if_pos (ixb_nI (by omega) (by decide)), nI_clamp (by omega), nI_clamp (by omega), nI_1, fa_fill_out (k := 268 + i) (by omega), ← fa_fill_succ]
theorem lay_eq (N : Nat) (hN : 300 < N) {len mlen : Int32} {bt mt : Nat → Int32} (hT : RT len bt mlen mt) {lc ws wx wd wh items : Int32} {nb lf ly im it : Nat → Int32} (hR : RLw lc ws wx wd wh items nb lf ly im it) (fn kn kd kd2 v1 v2 pl : Int32) (c c2 nu : Nat → Int32) : ∃ q z, fX9_lay N fn kn lc ws wx wd wh items kd c lf ly nb len bt kd2 c2 v1 v2 = some q ∧ fX10_lay N mlen pl im it nu mt = some z ∧ q.1 = z.1 ∧ RLw q.2.2.2.1 q.2.2.2.2.1 q.2.2.2.2.2.1 q.2.2.2.2.2.2.1 q.2.2.2.2.2.2.2.1 q.2.2.2.2.2.2.2.2.1 q.2.2.2.2.2.2.2.2.2.2.2.2.2.1 q.2.2.2.2.2.2.2.2.2.2.2.1 q.2.2.2.2.2.2.2.2.2.2.2.2.1 z.2.2.1 z.2.2.2.1 ∧ ((q.2.1 = fn ∧ q.2.2.1 = kn ∧ q.2.2.2.1 = lc ∧ q.2.2.2.2.2.2.2.2.2.2.2.2.2.1 = nb ∧ q.2.2.2.2.2.2.2.2.2.2.2.1 = lf ∧ q.2.2.2.2.2.2.2.2.2.2.2.2.1 = ly ∧ q.2.2.2.2.2.2.2.2.2.2.2.2.2.2.2.2 = (v1, v2)) ∨ (q.2.1 = 0 ∧ q.2.2.1 = 0 ∧ q.2.2.2.2.2.2.2.2.2.2.2.2.2.2.2.2 = (0, 1))) := by
  obtain ⟨n, hn, rfl, rfl, rfl⟩ := hT
  obtain ⟨q, q1, q2⟩ := ff_c N n hN hn bt (n + 1) 0 0 N kd2 c2 (by omega) (by omega) (by omega) (by omega)
  obtain ⟨z, z1, z2, z3, z4, z5⟩ := ra_r N n hN hn bt (n + 1) 0 0 N (upd im 1 0) it nu (by omega) (by omega) (by omega) (by omega) pk_us
  unfold fX9_lay fX10_lay fX6_firstFault fX10_readAll
  rw [show fX6_firstFault_p4 N (nI n) bt N (0 : Int32) (0 : Int32) kd2 c2 = some q from q1, show fX10_readAll_p12 N (nI n) bt N (0 : Int32) (upd im (1 : Int32).toNatClampNeg 0) it nu = some z from z1, Option.bind_some, Option.bind_some]
  by_cases c4 : fl n bt (n + 1) 0 = -4
  · rw [if_pos (q2.trans c4), if_pos (z2.trans c4)]
    obtain ⟨nb0, e1, e2⟩ := reset_c N (by omega) lc ws items nb
    obtain ⟨n', q', y1, y2, y3, y4⟩ := z5 c4 N kd c 0 0 wx wd wh 0 nb0 lf ly (by omega) (RS_0 e2)
    unfold fX5_read
    rw [e1, Option.bind_some]
    simp only [jn]
    rw [show fX5_read_p8 N (nI n) bt (fun a b c d e g h x y z w => some (a, b, c, d, e, g, h, x, y, z, w)) N (0 : Int32) (0 : Int32) 0 0 wx wd wh 0 kd c lf ly nb0 = some q' from y2, Option.bind_some]
    rw [p26_r N hN]
    unfold fX9_forgetFlight fX2_forget fX7_forget fX5_itemCount
    simp only [Option.bind_some]
    have em : upd z.2.2.1 (0 : Int32).toNatClampNeg (z.2.2.1 (1 : Int32).toNatClampNeg) (0 : Int32).toNatClampNeg = nI n' := pk_us.trans y3
    refine ⟨_, _, rfl, rfl, ?_, ?_, Or.inr ⟨rfl, rfl, rfl⟩⟩
    · obtain ⟨ln, g1, g2, -⟩ := y4
      exact g2.trans em.symm
    · exact RS_RL (p := 200) y1 (by decide) em (fun j hj => (show fa_fill (fun k => z.2.2.2.1 (268 + k)) z.2.2.2.1 268 j = z.2.2.2.1 (268 + j) from fa_fill_in hj)) y4
  · rw [if_neg (fun k => c4 (q2.symm.trans k)), if_neg (fun k => c4 (z2.symm.trans k))]
    exact ⟨_, _, rfl, rfl, rfl, RL_cong (z3.trans (pk_un (by decide))) z4 hR, Or.inl ⟨rfl, rfl, rfl, rfl, rfl, rfl, rfl⟩⟩
