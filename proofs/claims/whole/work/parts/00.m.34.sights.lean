def up6 (f : Nat → Int32) (b : Nat) (x0 x1 x2 x3 x4 x5 : Int32) : Nat → Int32 := upd (upd (upd (upd (upd (upd f b x0) (b + 1) x1) (b + 2) x2) (b + 3) x3) (b + 4) x4) (b + 5) x5
theorem add_c (N a : Nat) (ha : a < 30) (x0 x1 x2 x3 x4 x5 : Int32) (f : Nat → Int32) : fX8_addSight N x0 x1 x2 x3 x4 x5 (nI a) f = some (nI a, nI (a + 1), up6 f (6 * a) x0 x1 x2 x3 x4 x5) := by
  have e0 : nI a * (6 : Int32) = nI (6 * a) := by rw [show (6 : Int32) = nI 6 from rfl, pk_mul, Nat.mul_comm]
  have e1 : nI (6 * a) + (1 : Int32) = nI (6 * a + 1) := nI_add _ 1
  have e2 : nI (6 * a) + (2 : Int32) = nI (6 * a + 2) := nI_add _ 2
  have e3 : nI (6 * a) + (3 : Int32) = nI (6 * a + 3) := nI_add _ 3
  have e4 : nI (6 * a) + (4 : Int32) = nI (6 * a + 4) := nI_add _ 4
  have e5 : nI (6 * a) + (5 : Int32) = nI (6 * a + 5) := nI_add _ 5
  have e6 : nI (6 * a) + (6 : Int32) = nI (6 * a + 6) := nI_add _ 6
  unfold fX8_addSight
  rw [e0, if_neg (show ¬ (30 : Int32) ≤ nI a from nI_ge (b := 30) ha (by decide)), if_neg (nI_pos (by omega)), e1, e2, e3, e4, e5, e6, if_pos (show nI (6 * a + 6) ≤ (180 : Int32) from nI_le (b := 180) (by omega) (by decide)), if_pos (ixb_nI (by omega) (by decide)), if_pos (ixb_nI (by omega) (by decide)), if_pos (ixb_nI (by omega) (by decide)), if_pos (ixb_nI (by omega) (by decide)), if_pos (ixb_nI (by omega) (by decide)), if_pos (ixb_nI (by omega) (by decide)), nI_clamp (by omega), nI_clamp (by omega), nI_clamp (by omega), nI_clamp (by omega), nI_clamp (by omega), nI_clamp (by omega), nI_1, nI_pred]
  rfl
theorem add_full (N : Nat) (x0 x1 x2 x3 x4 x5 : Int32) (f : Nat → Int32) : fX8_addSight N x0 x1 x2 x3 x4 x5 (nI 30) f = some (-3, nI 30, f) := by
  unfold fX8_addSight
  rw [if_pos (show (30 : Int32) ≤ nI 30 by decide)]
theorem note_r (N a : Nat) (ha : a < 30) (x0 x1 x2 x3 x4 x5 : Int32) (c f : Nat → Int32) (hc : c 0 = nI a) : fX10_note N x0 x1 x2 x3 x4 x5 c f = some (nI a, upd c 0 (nI (a + 1)), up6 f (6 * a) x0 x1 x2 x3 x4 x5) := by
  have z0 : (0 : Int32).toNatClampNeg = 0 := rfl
  have e0 : (6 : Int32) * nI a = nI (6 * a) := pk_mul 6 a
  have e1 : nI (6 * a) + (1 : Int32) = nI (6 * a + 1) := nI_add _ 1
  have e2 : nI (6 * a) + (2 : Int32) = nI (6 * a + 2) := nI_add _ 2
  have e3 : nI (6 * a) + (3 : Int32) = nI (6 * a + 3) := nI_add _ 3
  have e4 : nI (6 * a) + (4 : Int32) = nI (6 * a + 4) := nI_add _ 4
  have e5 : nI (6 * a) + (5 : Int32) = nI (6 * a + 5) := nI_add _ 5
  unfold fX10_note
  rw [z0, hc, e0, if_pos (show ¬ nI a = (30 : Int32) from fun z => by have := (nI_eq (b := 30) (by omega) (by decide)).mp z; omega), e1, e2, e3, e4, e5, if_pos (ixb_nI (by omega) (by decide)), if_pos (ixb_nI (by omega) (by decide)), if_pos (ixb_nI (by omega) (by decide)), if_pos (ixb_nI (by omega) (by decide)), if_pos (ixb_nI (by omega) (by decide)), if_pos (ixb_nI (by omega) (by decide)), nI_clamp (by omega), nI_clamp (by omega), nI_clamp (by omega), nI_clamp (by omega), nI_clamp (by omega), nI_clamp (by omega), nI_1, pk_us, nI_pred]
  rfl
theorem note_full (N : Nat) (x0 x1 x2 x3 x4 x5 : Int32) (c f : Nat → Int32) (hc : c 0 = nI 30) : fX10_note N x0 x1 x2 x3 x4 x5 c f = some (-3, c, f) := by
  unfold fX10_note
  rw [show (0 : Int32).toNatClampNeg = 0 from rfl, hc, if_neg (fun z => z (show nI 30 = (30 : Int32) from rfl))]
