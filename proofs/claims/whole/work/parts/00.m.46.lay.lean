/-! the whole text: its first fault, and what is laid -/
def fl (len : Nat) (bt : Nat → Int32) : Nat → Nat → Int32
  | 0, _ => -4
  | f + 1, p => if p < len then (match itm len bt p with
    | none => nI p
    | some r => fl len bt f r.1) else -4
theorem fl_in {len : Nat} {bt : Nat → Int32} {f p : Nat} (h : p < len) {r : Nat × Nat × Int32 × Int32 × Int32} (hr : itm len bt p = some r) : fl len bt (f + 1) p = fl len bt f r.1 := by rw [fl, if_pos h, hr]
theorem fl_bad {len : Nat} {bt : Nat → Int32} {f p : Nat} (h : p < len) (hr : itm len bt p = none) : fl len bt (f + 1) p = nI p := by rw [fl, if_pos h, hr]
theorem fl_out {len : Nat} {bt : Nat → Int32} {f p : Nat} (h : ¬ p < len) : fl len bt (f + 1) p = -4 := by rw [fl, if_neg h]
theorem ff_c (N len : Nat) (hN : 300 < N) (hl : len ≤ 200) (bt : Nat → Int32) : ∀ (f p i n : Nat) (kd : Int32) (c : Nat → Int32), len - p < f → len - p < n → 3 * i ≤ p → p ≤ 200 → ∃ q, fX6_firstFault_p4 N (nI len) bt n (nI p) (nI i) kd c = some q ∧ q.1 = fl len bt f p
  | 0, _, _, _, _, _, h, _, _, _ => absurd h (Nat.not_lt_zero _)
  | f + 1, p, i, 0, _, _, _, h, _, _ => absurd h (Nat.not_lt_zero _)
  | f + 1, p, i, n + 1, kd, c, h1, h2, h3, h4 => by
    rw [fX6_firstFault_p4, if_neg (show ¬ (200 : Int32) ≤ nI i from nI_ge (b := 200) (by omega) (by decide))]
    by_cases cp : p < len
    · rw [if_neg (nI_ge cp (by omega))]
      obtain ⟨r1, r2⟩ := rfm_c N len p (by omega) hl cp kd bt c
      cases hi : itm len bt p with
      | none =>
        obtain ⟨q, q1, q2⟩ := r1 hi
        rw [q1, Option.bind_some, if_neg (fun z => by rw [fa_lt] at q2; rw [fa_le] at z; omega), fl_bad cp hi]
        exact ⟨_, rfl, rfl⟩
      | some r =>
        obtain ⟨c', q1, -⟩ := r2 r hi
        have rr := itm_rng hi
        rw [q1, Option.bind_some, if_pos (nI_pos' (by omega)), fl_in cp hi, nI_1]
        exact ff_c N len hN hl bt f r.1 (i + 1) n _ _ (by omega) (by omega) (by omega) (by omega)
    · rw [if_pos (nI_le (by omega) (by omega)), fl_out cp]
      exact ⟨_, rfl, rfl⟩
theorem lk_cong {it it2 : Nat → Int32} (x : Int32) : ∀ n, (∀ j, j < 4 * n → it2 j = it j) → lk it2 x n = lk it x n
  | 0, _ => rfl
  | n + 1, h => by
    rw [lk, lk, h (4 * n) (by omega), lk_cong x n (fun j hj => h j (by omega))]
theorem laV_cong {it it2 : Nat → Int32} (x : Int32) : ∀ n, (∀ j, j < 4 * n → it2 j = it j) → laV it2 x n = laV it x n
  | 0, _ => rfl
  | n + 1, h => by
    rw [laV, laV, h (4 * n) (by omega), h (4 * n + 1) (by omega), h (4 * n + 2) (by omega), laV_cong x n (fun j hj => h j (by omega))]
theorem paV_cong {lf ly lf2 ly2 : Nat → Int32} (x : Int32) : ∀ n, (∀ j, j < n → lf2 j = lf j ∧ ly2 j = ly j) → paV lf2 ly2 x n = paV lf ly x n
  | 0, _ => rfl
  | n + 1, h => by
    rw [paV, paV, (h n (by omega)).1, (h n (by omega)).2, paV_cong x n (fun j hj => h j (by omega))]
theorem lw_cong {it it2 : Nat → Int32} (n k : Nat) (h : ∀ j, j < 4 * n → it2 j = it j) : lw it2 n k = lw it n k := by
  unfold lw
  rw [lk_cong _ n h]
  cases e : lk it (ltr k) n with
  | none => rfl
  | some j =>
    have := (lk_lt it _ n j e).1
    exact h _ (by omega)
/-- what the wicket is, by the items -/
def WK (ws wx wd wh : Int32) (it : Nat → Int32) (n : Nat) : Prop := match lk it 107 n with
  | none => ws = 0
  | some j => ws = 1 ∧ wx = it (4 * j + 1) ∧ wd = it (4 * j + 2) ∧ wh = it (4 * j + 3)
theorem WK_cong {ws wx wd wh : Int32} {it it2 : Nat → Int32} (n : Nat) (h : ∀ j, j < 4 * n → it2 j = it j) (hw : WK ws wx wd wh it n) : WK ws wx wd wh it2 n := by
  unfold WK at *
  rw [lk_cong _ n h]
  cases e : lk it 107 n with
  | none => rw [e] at hw; exact hw
  | some j =>
    rw [e] at hw
    have := (lk_lt it _ n j e).1
    show ws = 1 ∧ wx = it2 (4 * j + 1) ∧ wd = it2 (4 * j + 2) ∧ wh = it2 (4 * j + 3)
    rw [h (4 * j + 1) (by omega), h (4 * j + 2) (by omega), h (4 * j + 3) (by omega)]
    exact hw
/-- the law that the class has read up to here, against the items that the reference has -/
def RS (i p : Nat) (lc ws wx wd wh items : Int32) (nb lf ly it : Nat → Int32) : Prop := ∃ ln : Nat, 5 * ln ≤ p ∧ items = nI i ∧ lc = nI ln ∧ (∀ k, k < 6 → nb k = lw it i k) ∧ (∀ x, paV lf ly x ln = laV it x i) ∧ WK ws wx wd wh it i ∧ (0 ≤ (nb 0).toInt ∧ (nb 0).toInt ≤ 500)
theorem RS_RL {i p : Nat} (hi : i ≤ 67) (hp : p ≤ 200) {lc ws wx wd wh items : Int32} {nb lf ly im it it2 : Nat → Int32} (h0 : im 0 = nI i) (hc : ∀ j, j < 268 → it2 j = it j) (h : RS i p lc ws wx wd wh items nb lf ly it) : RLw lc ws wx wd wh items nb lf ly im it2 := by
  obtain ⟨ln, h1, h2, h3, h4, h5, h6, h7⟩ := h
  have hc' : ∀ j, j < 4 * i → it2 j = it j := fun j hj => hc j (by omega)
  exact ⟨i, ln, hi, by omega, h2, h0, h3, fun k hk => (h4 k hk).trans (lw_cong i k hc').symm, fun x => (h5 x).trans (laV_cong x i hc').symm, WK_cong i hc' h6, h7⟩
theorem RL_cong {lc ws wx wd wh items : Int32} {nb lf ly im it im2 it2 : Nat → Int32} (h0 : im2 0 = im 0) (hc : ∀ j, j < 268 → it2 j = it j) (h : RLw lc ws wx wd wh items nb lf ly im it) : RLw lc ws wx wd wh items nb lf ly im2 it2 := by
  obtain ⟨n, ln, h1, h2, h3, h4, h5, h6, h7, h8, h9⟩ := h
  have hc' : ∀ j, j < 4 * n → it2 j = it j := fun j hj => hc j (by omega)
  exact ⟨n, ln, h1, h2, h3, h0.trans h4, h5, fun k hk => (h6 k hk).trans (lw_cong n k hc').symm, fun x => (h7 x).trans (laV_cong x n hc').symm, WK_cong n hc' h8, h9⟩
theorem num3_c (N i : Nat) (hi : i < 3) (c : Nat → Int32) : fX3_number N (nI i) c = some (c i) := by
  unfold fX3_number
  rw [if_neg (nI_pos (by omega)), if_neg (show ¬ (3 : Int32) ≤ nI i from nI_ge (b := 3) hi (by decide)), if_pos (ixb_nI hi (by decide)), nI_clamp (by omega)]
theorem ltr_inj {k j : Nat} (hk : k < 6) (hj : j < 6) (h : ltr k = ltr j) : k = j := by
  rcases (show k = 0 ∨ k = 1 ∨ k = 2 ∨ k = 3 ∨ k = 4 ∨ k = 5 by omega) with rfl | rfl | rfl | rfl | rfl | rfl <;> rcases (show j = 0 ∨ j = 1 ∨ j = 2 ∨ j = 3 ∨ j = 4 ∨ j = 5 by omega) with rfl | rfl | rfl | rfl | rfl | rfl <;> first | rfl | exact absurd h (by decide)
theorem ltr_6 {k : Nat} (hk : k < 6) : tb_Item_LETTERS k = ltr k ∧ ¬ ltr k = 108 ∧ ¬ ltr k = 107 := by
  rcases (show k = 0 ∨ k = 1 ∨ k = 2 ∨ k = 3 ∨ k = 4 ∨ k = 5 by omega) with rfl | rfl | rfl | rfl | rfl | rfl <;> exact ⟨rfl, by decide, by decide⟩
theorem take_c (N i p : Nat) {lc ws wx wd wh items : Int32} {nb lf ly it it2 c : Nat → Int32} (h : RS i p lc ws wx wd wh items nb lf ly it) {r : Nat × Nat × Int32 × Int32 × Int32} (hp : r.1 ≤ 200) (hp2 : p ≤ r.1) (hk : r.2.1 < 8) (h6 : r.2.1 = 6 → p + 5 ≤ r.1) (h0 : r.2.1 = 0 → 0 ≤ r.2.2.1.toInt ∧ r.2.2.1.toInt ≤ 500) (c0 : c 0 = r.2.2.1) (c1 : 6 ≤ r.2.1 → c 1 = r.2.2.2.1) (c2 : 7 ≤ r.2.1 → c 2 = r.2.2.2.2) (hc : ∀ j, j < 4 * i → it2 j = it j) (e0 : it2 (4 * i) = tb_Item_LETTERS r.2.1) (e1 : it2 (4 * i + 1) = r.2.2.1) (e2 : 6 ≤ r.2.1 → it2 (4 * i + 2) = r.2.2.2.1) (e3 : 7 ≤ r.2.1 → it2 (4 * i + 3) = r.2.2.2.2) : ∃ q, fX5_take N lc ws wx wd wh (nI r.2.1) c lf ly nb = some q ∧ RS (i + 1) r.1 q.1 q.2.1 q.2.2.1 q.2.2.2.1 q.2.2.2.2.1 (items + 1) q.2.2.2.2.2.2.2 q.2.2.2.2.2.1 q.2.2.2.2.2.2.1 it2 := by
  obtain ⟨r1, k, n0, n1, n2⟩ := r
  dsimp only at *
  obtain ⟨ln, g1, rfl, rfl, g4, g5, g6, g7⟩ := h
  have z0 := num3_c N 0 (by decide) c
  have z1 := num3_c N 1 (by decide) c
  have z2 := num3_c N 2 (by decide) c
  rw [show nI 0 = (0 : Int32) from rfl] at z0
  rw [show nI 1 = (1 : Int32) from rfl] at z1
  rw [show nI 2 = (2 : Int32) from rfl] at z2
  unfold fX5_take fX3_kind
  rw [Option.bind_some, z0, z1, z2]
  simp only [jn, Option.bind_some]
  rw [if_neg (nI_pos (show k < 2 ^ 31 by omega))]
  by_cases ck : k < 6
  · obtain ⟨l1, l2, l3⟩ := ltr_6 ck
    rw [l1] at e0
    rw [if_neg (show ¬ (6 : Int32) ≤ nI k from nI_ge (b := 6) ck (by decide)), if_pos (ixb_nI ck (by decide)), nI_clamp (by omega), c0]
    refine ⟨_, rfl, ln, by omega, nI_1 i, rfl, fun j hj => ?_, fun x => ?_, ?_, ?_⟩
    · dsimp only
      unfold lw
      rw [lk, e0]
      by_cases q : j = k
      · subst q
        rw [if_pos rfl, pk_us]
        exact e1.symm
      · rw [if_neg (fun z => q (ltr_inj ck hj z).symm), pk_un q, g4 j hj]
        exact (lw_cong i j hc).symm
    · rw [laV, e0, if_neg l2, laV_cong x i hc]
      exact g5 x
    · unfold WK
      rw [lk, e0, if_neg l3]
      exact WK_cong i hc g6
    · dsimp only
      by_cases q : 0 = k
      · subst q
        rw [pk_us]
        exact h0 rfl
      · rw [pk_un q]; exact g7
  · rw [if_pos (show (6 : Int32) ≤ nI k from nI_le (a := 6) (by omega) (by omega))]
    by_cases c6 : k = 6
    · subst c6
      rw [if_neg (fun z => z rfl)]
      unfold fX5_paint
      rw [if_neg (nI_pos (by omega)), if_neg (show ¬ (40 : Int32) ≤ nI ln from nI_ge (b := 40) (by have := h6 rfl; omega) (by decide)), if_pos (ixb_nI (by have := h6 rfl; omega) (by decide)), if_pos (ixb_nI (by have := h6 rfl; omega) (by decide)), nI_clamp (by omega), Option.bind_some]
      have e0' : it2 (4 * i) = 108 := e0
      refine ⟨_, rfl, ln + 1, by have := h6 rfl; omega, nI_1 i, nI_1 ln, fun j hj => ?_, fun x => ?_, ?_, g7⟩
      · dsimp only
        rw [g4 j hj]
        unfold lw
        rw [lk, e0', if_neg (fun z => (ltr_6 hj).2.1 z.symm)]
        exact (lw_cong i j hc).symm
      · dsimp only
        rw [laV, e0', if_pos rfl, paV, pk_us, pk_us, e1, e2 (by decide), c0, c1 (by decide), laV_cong x i hc, ← g5 x, paV_cong x ln (fun j hj => ⟨pk_un (by omega), pk_un (by omega)⟩)]
      · unfold WK
        rw [lk, e0', if_neg (by decide)]
        exact WK_cong i hc g6
    · have k7 : k = 7 := by omega
      subst k7
      rw [if_pos (show ¬ nI 7 = (6 : Int32) by decide)]
      have e0' : it2 (4 * i) = 107 := e0
      refine ⟨_, rfl, ln, by omega, nI_1 i, rfl, fun j hj => ?_, fun x => ?_, ?_, g7⟩
      · dsimp only
        rw [g4 j hj]
        unfold lw
        rw [lk, e0', if_neg (fun z => (ltr_6 hj).2.2 z.symm)]
        exact (lw_cong i j hc).symm
      · rw [laV, e0', if_neg (by decide), laV_cong x i hc]
        exact g5 x
      · unfold WK
        rw [lk, e0', if_pos rfl]
        exact ⟨rfl, by rw [e1]; exact c0, by rw [e2 (by decide)]; exact c1 (by decide), by rw [e3 (by decide)]; exact c2 (by decide)⟩
theorem p64_r (N : Nat) (hN : 10 < N) (k : Nat) (hk : k + 3 < 536) (c it : Nat → Int32) (K : (Nat → Int32) → Option (Int32 × Int32 × (Nat → Int32) × (Nat → Int32) × (Nat → Int32))) : fX10_readAll_p64 N (nI k) c K N 0 it = K (upd (upd (upd it (k + 1) (c 0)) (k + 2) (c 1)) (k + 3) (c 2)) := by
  obtain ⟨m, rfl⟩ : ∃ m, N = m + 4 := ⟨N - 4, by omega⟩
  have st : ∀ (i n : Nat) (t : Nat → Int32), i < 3 → fX10_readAll_p64 (m + 4) (nI k) c K (n + 1) (nI i) t = fX10_readAll_p64 (m + 4) (nI k) c K n (nI (i + 1)) (upd t (k + 1 + i) (c i)) := fun i n t hi => by
    rw [fX10_readAll_p64, if_neg (show ¬ (3 : Int32) ≤ nI i from nI_ge (b := 3) hi (by decide)), if_pos (ixb_nI hi (by decide)), nI_1, nI_add, if_pos (ixb_nI (by omega) (by decide)), nI_1, nI_clamp (by omega), nI_clamp (by omega)]
  show fX10_readAll_p64 (m + 4) (nI k) c K (m + 3 + 1) (nI 0) it = _
  rw [st 0 (m + 2 + 1) it (by decide), st 1 (m + 1 + 1) _ (by decide), st 2 (m + 0 + 1) _ (by decide), fX10_readAll_p64, if_pos (show (3 : Int32) ≤ nI (2 + 1) by decide)]
theorem ra_r (N len : Nat) (hN : 300 < N) (hl : len ≤ 200) (bt : Nat → Int32) : ∀ (f p i n : Nat) (im it c3 : Nat → Int32), len - p < f → len - p < n → 3 * i ≤ p → p ≤ 200 → im 1 = nI i → ∃ z, fX10_readAll_p12 N (nI len) bt n (nI p) im it c3 = some z ∧ z.1 = fl len bt f p ∧ z.2.2.1 0 = im 0 ∧ (∀ j, j < 268 → z.2.2.2.1 j = it j) ∧ (fl len bt f p = -4 → ∀ (m : Nat) (kd : Int32) (c2 : Nat → Int32) (lc ws wx wd wh items : Int32) (nb lf ly : Nat → Int32), len - p < m → RS i p lc ws wx wd wh items nb lf ly (fun k => it (268 + k)) → ∃ n' q, n' ≤ 67 ∧ fX5_read_p8 N (nI len) bt (fun a b c d e g h x y z w => some (a, b, c, d, e, g, h, x, y, z, w)) m (nI p) (nI i) lc ws wx wd wh items kd c2 lf ly nb = some q ∧ z.2.2.1 1 = nI n' ∧ RS n' 200 q.1 q.2.1 q.2.2.1 q.2.2.2.1 q.2.2.2.2.1 q.2.2.2.2.2.1 q.2.2.2.2.2.2.2.2.2.2 q.2.2.2.2.2.2.2.2.1 q.2.2.2.2.2.2.2.2.2.1 (fun k => z.2.2.2.1 (268 + k)))
  | 0, _, _, _, _, _, _, h, _, _, _, _ => absurd h (Nat.not_lt_zero _)
  | f + 1, p, i, 0, _, _, _, _, h, _, _, _ => absurd h (Nat.not_lt_zero _)
  | f + 1, p, i, n + 1, im, it, c3, h1, h2, h3, h4, h5 => by
    rw [fX10_readAll_p12]
    by_cases cp : p < len
    · rw [if_neg (nI_ge cp (by omega))]
      obtain ⟨r1, r2⟩ := it_r N len p (by omega) hl cp bt c3
      cases hi : itm len bt p with
      | none =>
        obtain ⟨z, z1, z2⟩ := r1 hi
        rw [z1, Option.bind_some, if_neg (fun y => y z2), fl_bad cp hi]
        refine ⟨_, rfl, rfl, rfl, fun j _ => rfl, fun y => ?_⟩
        exact absurd y (fun q => nI_pos (show p < 2 ^ 31 by omega) (by rw [q]; decide))
      | some r =>
        obtain ⟨c', q1, q2, q3, q4⟩ := r2 r hi
        obtain ⟨s1, s2, s3, s4, s5, s6⟩ := itm_rng hi
        have i67 : i ≤ 66 := by omega
        have e1 : (1 : Int32).toNatClampNeg = 1 := rfl
        have e4 : (268 : Int32) + (4 : Int32) * nI i = nI (268 + 4 * i) := by rw [show (4 : Int32) * nI i = nI (4 * i) from pk_mul 4 i]; exact nI_add 268 (4 * i)
        rw [q1, Option.bind_some, if_pos (show ¬ (1 : Int32) = 0 by decide), e1, h5, e4, if_pos (ixb_nI (by omega) (by decide)), if_pos (ixb_nI (by omega) (by decide)), fl_in cp hi]
        simp only [jn]
        rw [p64_r N (by omega) (268 + 4 * i) (by omega), nI_clamp (show p < 2 ^ 31 by omega), nI_clamp (show 268 + 4 * i < 2 ^ 31 by omega), nI_1]
        obtain ⟨z, z1, z2, z3, z4, z5⟩ := ra_r N len hN hl bt f r.1 (i + 1) n (upd im 1 (nI (i + 1))) (upd (upd (upd (upd it (268 + 4 * i) (bt p)) (268 + 4 * i + 1) (c' 0)) (268 + 4 * i + 2) (c' 1)) (268 + 4 * i + 3) (c' 2)) c' (by omega) (by omega) (by omega) (by omega) pk_us
        refine ⟨z, z1, z2, z3.trans (pk_un (by decide)), fun j hj => (z4 j hj).trans ?_, fun hf m kd c2 lc ws wx wd wh items nb lf ly hm hRS => ?_⟩
        · rw [pk_un (by omega), pk_un (by omega), pk_un (by omega), pk_un (by omega)]
        · obtain ⟨m, rfl⟩ : ∃ y, m = y + 1 := ⟨m - 1, by omega⟩
          obtain ⟨-, t2⟩ := rfm_c N len p (by omega) hl cp kd bt c2
          obtain ⟨d, d1, d2, d3, d4⟩ := t2 r hi
          have ebt : bt p = tb_Item_LETTERS r.2.1 := by rw [← s4]; unfold tx; rw [if_pos cp]
          obtain ⟨q, k1, k2⟩ := take_c N i p (it2 := fun k => (upd (upd (upd (upd it (268 + 4 * i) (bt p)) (268 + 4 * i + 1) (c' 0)) (268 + 4 * i + 2) (c' 1)) (268 + 4 * i + 3) (c' 2)) (268 + k)) hRS (r := r) (c := d) (by omega) (by omega) s3 s5 s6 d2 d3 d4
            (fun j hj => by rw [pk_un (by omega), pk_un (by omega), pk_un (by omega), pk_un (by omega)])
            (by rw [pk_un (by omega), pk_un (by omega), pk_un (by omega), pk_us]; exact ebt)
            (by rw [pk_un (by omega), pk_un (by omega), ← Nat.add_assoc, pk_us]; exact q2)
            (fun y => by rw [pk_un (by omega), ← Nat.add_assoc, pk_us]; exact q3 y)
            (fun y => by rw [← Nat.add_assoc, pk_us]; exact q4 y)
          obtain ⟨n', q', y1, y2, y3, y4⟩ := z5 hf m (nI r.2.1) d q.1 q.2.1 q.2.2.1 q.2.2.2.1 q.2.2.2.2.1 (items + 1) q.2.2.2.2.2.2.2 q.2.2.2.2.2.1 q.2.2.2.2.2.2.1 (by omega) k2
          refine ⟨n', q', y1, ?_, y3, y4⟩
          rw [fX5_read_p8, if_neg (show ¬ (200 : Int32) ≤ nI i from nI_ge (b := 200) (by omega) (by decide)), if_neg (nI_pos (by omega)), show fX6_size N (nI len) = some (nI len) from rfl, Option.bind_some, if_neg (nI_ge cp (by omega)), d1, Option.bind_some, k1, Option.bind_some, nI_1]
          exact y2
    · rw [if_pos (nI_le (by omega) (by omega)), fl_out cp]
      refine ⟨_, rfl, rfl, rfl, fun j _ => rfl, fun _ m kd c2 lc ws wx wd wh items nb lf ly hm hRS => ?_⟩
      obtain ⟨m, rfl⟩ : ∃ y, m = y + 1 := ⟨m - 1, by omega⟩
      refine ⟨i, (lc, ws, wx, wd, wh, items, kd, c2, lf, ly, nb), by omega, ?_, h5, ?_⟩
      · rw [fX5_read_p8, if_neg (show ¬ (200 : Int32) ≤ nI i from nI_ge (b := 200) (by omega) (by decide)), if_neg (nI_pos (by omega)), show fX6_size N (nI len) = some (nI len) from rfl, Option.bind_some, if_pos (nI_le (by omega) (by omega))]
      · obtain ⟨ln, g1, g2⟩ := hRS
        exact ⟨ln, by omega, g2⟩
