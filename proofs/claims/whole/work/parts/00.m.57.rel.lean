/-! all relations together -/
theorem msk_cong {p p2 : Nat → Bool} : ∀ {m : Nat}, (∀ i, i < m → p2 i = p i) → msk p2 m = msk p m
  | 0, _ => rfl
  | m + 1, h => by rw [msk, msk, msk_cong (m := m) (fun i hi => h i (by omega)), h m (Nat.lt_succ_self m)]
theorem obB_cong {L B cam rows rows2 : Nat → Int32} {c i : Nat} (h : ∀ j, j < 6 → rows2 (6 * i + j) = rows (6 * i + j)) : obB L B cam rows2 c i = obB L B cam rows c i := by
  unfold obB
  rw [h 1 (by decide), h 2 (by decide), h 3 (by decide)]
theorem fitB_cong {L B cam rows rows2 : Nat → Int32} {c i : Nat} (h : ∀ j, j < 6 → rows2 (6 * i + j) = rows (6 * i + j)) : fitB L B cam rows2 c i = fitB L B cam rows c i := by
  have h0 : rows2 (6 * i) = rows (6 * i) := h 0 (by decide)
  unfold fitB ltB frB
  rw [obB_cong h, h0, h 1 (by decide), h 2 (by decide), h 3 (by decide), h 4 (by decide), h 5 (by decide)]
theorem osB_cong {L B cam rows rows2 : Nat → Int32} {c m : Nat} : ∀ {k : Nat}, (∀ i, i < k → ∀ j, j < 6 → rows2 (6 * i + j) = rows (6 * i + j)) → osB L B cam rows2 c m k = osB L B cam rows c m k
  | 0, _ => rfl
  | k + 1, h => by
    have hk := h k (Nat.lt_succ_self k)
    have h0 : rows2 (6 * k) = rows (6 * k) := hk 0 (by decide)
    rw [osB, osB, osB_cong (k := k) (fun i hi => h i (by omega)), h0, hk 1 (by decide), obB_cong hk]
theorem RV_more {L B cam rows rows2 : Nat → Int32} {a a2 : Nat} {known stale : Int32} {fb os : Nat → Int32} (ha : a ≤ a2) (hr : ∀ i, i < a → ∀ j, j < 6 → rows2 (6 * i + j) = rows (6 * i + j)) (h : RV L B cam rows a known stale fb os) : RV L B cam rows2 a2 known stale fb os := by
  obtain ⟨h1, k, h2, h3, h4, h5⟩ := h
  refine ⟨h1, k, by omega, h3, h4, fun z c hc => ?_⟩
  obtain ⟨g1, g2⟩ := h5 z c hc
  refine ⟨?_, fun m hm => ?_⟩
  · rw [g1, msk_cong (fun i hi => fitB_cong (hr i (by omega)))]
  · rw [g2 m hm, osB_cong (fun i hi => hr i (by omega))]
def RelW (N : Nat) (v0_keptCount : Int32) (v1_length : Int32) (c2 : Nat → Int32) (v3_kind : Int32) (c4 : Nat → Int32) (v5_lineCount : Int32) (v5_wicketStands : Int32) (v5_wicketX : Int32) (v5_wicketSide : Int32) (v5_wicketHigh : Int32) (v5_items : Int32) (c6 : Nat → Int32) (c7 : Nat → Int32) (c8 : Nat → Int32) (v9_kind : Int32) (c10 : Nat → Int32) (v11_amount : Int32) (v11_left : Int32) (c12 : Nat → Int32) (c13 : Nat → Int32) (v14_amount : Int32) (v14_left : Int32) (c15 : Nat → Int32) (c16 : Nat → Int32) (v17_amount : Int32) (v17_left : Int32) (c18 : Nat → Int32) (c19 : Nat → Int32) (c20 : Nat → Int32) (v21_flown : Int32) (v21_touchYsKnown : Int32) (v21_sideV : Int32) (v21_touchTick : Int32) (v21_touchX : Int32) (v21_touchLine : Int32) (v21_half : Int32) (c22 : Nat → Int32) (c23 : Nat → Int32) (c24 : Nat → Int32) (c25 : Nat → Int32) (c26 : Nat → Int32) (c27 : Nat → Int32) (v28_known : Int32) (v28_stale : Int32) (c29 : Nat → Int32) (c30 : Nat → Int32) (v31_amount : Int32) (c32 : Nat → Int32) (c33 : Nat → Int32) (c34 : Nat → Int32) (v35_known : Int32) (c36 : Nat → Int32) (c37 : Nat → Int32) (c38 : Nat → Int64) (c39 : Nat → Int64) (v40_amount : Int32) (c41 : Nat → Int32) (c42 : Nat → Int32) (v43_length : Int32) (v43_keptMany : Int32) (v43_callMany : Int32) (v43_caseMany : Int32) (v43_place : Int32) (v43_touchTick : Int32) (v43_touchHalf : Int32) (c44 : Nat → Int32) (c45 : Nat → Int32) (c46 : Nat → Int32) (c47 : Nat → Int32) (c48 : Nat → Int32) (c49 : Nat → Int32) (c50 : Nat → Int32) (c51 : Nat → Int32) (c52 : Nat → Int32) (c53 : Nat → Int32) (c54 : Nat → Int32) (c55 : Nat → Int32) (c56 : Nat → Int32) (c57 : Nat → Int32) (c58 : Nat → Int32) (c59 : Nat → Int32) (c60 : Nat → Int32) (c61 : Nat → Int32) (c62 : Nat → Int32) (c63 : Nat → Int64) (c64 : Nat → Int64) : Prop := RT v1_length c2 v43_length c44 ∧ RLw v5_lineCount v5_wicketStands v5_wicketX v5_wicketSide v5_wicketHigh v5_items c6 c7 c8 c45 c46 ∧ RWs v0_keptCount v11_amount v11_left v14_amount v14_left v17_amount v17_left v43_keptMany c12 c13 c15 c16 c18 c19 c47 c48 c49 c50 ∧ c51 = c20 ∧ RF N v5_lineCount c7 c8 c6 c12 v21_flown v21_touchYsKnown v21_touchTick v21_touchX v21_touchLine v21_half c22 c23 c24 c25 c27 ∧ (∃ a : Nat, a ≤ 30 ∧ v11_amount = nI a ∧ RV c6 c12 c20 c13 a v28_known v28_stale c29 c30) ∧ RJ v31_amount c32 c33 c34 v43_callMany c52 ∧ RA v35_known c36 c37 c39 c38 c53 c54 ∧ RK v40_amount c41 c42 v43_caseMany c55
theorem pv_of {N : Nat} {lc w1 wx wd wh items flown kn tt tx tl hf known stale am lv kc km am1 lf1 am2 lf2 : Int32} {nb lf ly im it B bl cam rows xs zs us ws tys fb os sm sg ou st1 rows1 st2 rows2 : Nat → Int32} (hL : RLw lc w1 wx wd wh items nb lf ly im it) (hW : RWs kc am lv am1 lf1 am2 lf2 km B rows st1 rows1 st2 rows2 bl ou sm sg) (hF : RF N lc lf ly nb B flown kn tt tx tl hf xs zs us ws tys) (hV : ∃ a : Nat, a ≤ 30 ∧ am = nI a ∧ RV nb B cam rows a known stale fb os) : ∃ a : Nat, a ≤ 30 ∧ am = nI a ∧ PV N lc w1 wx wd wh items nb lf ly im it B bl cam rows xs zs us ws tys fb os flown kn tt tx tl hf known stale am lv sm sg ou a := by
  obtain ⟨a, ha, e, hV⟩ := hV
  obtain ⟨-, ⟨a', ha', r1, r2, r3, r4, r5, r6, r7⟩, -, -⟩ := hW
  have ee : a = a' := (nI_eq (by omega) (by omega)).mp (e.symm.trans r1)
  subst ee
  refine ⟨a, ha, e, hL, fun k hk => ?_, hF, hV, e, ha, r2, r3.symm, fun i hi => ?_⟩
  · have := r5 k hk
    rw [Nat.mul_zero, Nat.zero_add] at this
    exact this
  · have := r7 i hi
    rw [Nat.mul_zero, Nat.zero_add] at this
    exact this
