theorem fg1 (N len p : Nat) (hN : 10 < N) (hl : len ≤ 200) (hp : p ≤ 200) (bt c1 : Nat → Int32) : (num len bt p 59 = none → ∃ z, fX10_figures N 1 (nI len) (nI p) c1 bt = some z ∧ z.1 = 0) ∧ (∀ a, num len bt p 59 = some a → fX10_figures N 1 (nI len) (nI p) c1 bt = some (1, nI a.1, upd c1 0 a.2)) := by
  obtain ⟨m, rfl⟩ : ∃ m, N = m + 9 := ⟨N - 9, by omega⟩
  obtain ⟨h1, h2⟩ := fg_r (m + 9) len p 0 1 (m + 8) hN hl hp (by decide) (by decide) bt c1 59 rfl
  refine ⟨h1, fun a ha => ?_⟩
  exact (h2 a ha).trans (fg_end (m + 9) 1 (m + 7) (by decide) (nI len) (nI a.1) bt _)
theorem fg2 (N len p : Nat) (hN : 10 < N) (hl : len ≤ 200) (hp : p ≤ 200) (bt c1 : Nat → Int32) : (num len bt p 44 = none → ∃ z, fX10_figures N 2 (nI len) (nI p) c1 bt = some z ∧ z.1 = 0) ∧ (∀ a, num len bt p 44 = some a → (num len bt a.1 59 = none → ∃ z, fX10_figures N 2 (nI len) (nI p) c1 bt = some z ∧ z.1 = 0) ∧ (∀ b, num len bt a.1 59 = some b → fX10_figures N 2 (nI len) (nI p) c1 bt = some (1, nI b.1, upd (upd c1 0 a.2) 1 b.2))) := by
  obtain ⟨m, rfl⟩ : ∃ m, N = m + 9 := ⟨N - 9, by omega⟩
  obtain ⟨h1, h2⟩ := fg_r (m + 9) len p 0 2 (m + 8) hN hl hp (by decide) (by decide) bt c1 44 rfl
  refine ⟨h1, fun a ha => ?_⟩
  have r := num_rng (by decide) ha
  obtain ⟨h3, h4⟩ := fg_r (m + 9) len a.1 1 2 (m + 7) hN hl (by omega) (by decide) (by decide) bt (upd c1 0 a.2) 59 rfl
  refine ⟨fun hb => ?_, fun b hb => ?_⟩
  · obtain ⟨z, z1, z2⟩ := h3 hb
    exact ⟨z, (h2 a ha).trans z1, z2⟩
  · exact (h2 a ha).trans ((h4 b hb).trans (fg_end (m + 9) 2 (m + 6) (by decide) (nI len) (nI b.1) bt _))
theorem fg3 (N len p : Nat) (hN : 10 < N) (hl : len ≤ 200) (hp : p ≤ 200) (bt c1 : Nat → Int32) : (num len bt p 44 = none → ∃ z, fX10_figures N 3 (nI len) (nI p) c1 bt = some z ∧ z.1 = 0) ∧ (∀ a, num len bt p 44 = some a → (num len bt a.1 44 = none → ∃ z, fX10_figures N 3 (nI len) (nI p) c1 bt = some z ∧ z.1 = 0) ∧ (∀ b, num len bt a.1 44 = some b → (num len bt b.1 59 = none → ∃ z, fX10_figures N 3 (nI len) (nI p) c1 bt = some z ∧ z.1 = 0) ∧ (∀ c, num len bt b.1 59 = some c → fX10_figures N 3 (nI len) (nI p) c1 bt = some (1, nI c.1, upd (upd (upd c1 0 a.2) 1 b.2) 2 c.2)))) := by
  obtain ⟨m, rfl⟩ : ∃ m, N = m + 9 := ⟨N - 9, by omega⟩
  obtain ⟨h1, h2⟩ := fg_r (m + 9) len p 0 3 (m + 8) hN hl hp (by decide) (by decide) bt c1 44 rfl
  refine ⟨h1, fun a ha => ?_⟩
  have r := num_rng (by decide) ha
  obtain ⟨h3, h4⟩ := fg_r (m + 9) len a.1 1 3 (m + 7) hN hl (by omega) (by decide) (by decide) bt (upd c1 0 a.2) 44 rfl
  refine ⟨fun hb => ?_, fun b hb => ?_⟩
  · obtain ⟨z, z1, z2⟩ := h3 hb
    exact ⟨z, (h2 a ha).trans z1, z2⟩
  · have r2 := num_rng (by decide) hb
    obtain ⟨h5, h6⟩ := fg_r (m + 9) len b.1 2 3 (m + 6) hN hl (by omega) (by decide) (by decide) bt (upd (upd c1 0 a.2) 1 b.2) 59 rfl
    refine ⟨fun hc => ?_, fun c hc => ?_⟩
    · obtain ⟨z, z1, z2⟩ := h5 hc
      exact ⟨z, (h2 a ha).trans ((h4 b hb).trans z1), z2⟩
    · exact (h2 a ha).trans ((h4 b hb).trans ((h6 c hc).trans (fg_end (m + 9) 3 (m + 5) (by decide) (nI len) (nI c.1) bt _)))
def itm (len : Nat) (bt : Nat → Int32) (p : Nat) : Option (Nat × Nat × Int32 × Int32 × Int32) := (kdN (tx len bt p)).bind (fun k => (num len bt (p + 1) (if 1 = amt k then 59 else 44)).bind (fun a => if wi a.2 (loB k 0) (hiB k 0) = 0 then none else if amt k = 1 then some (a.1, k, a.2, 0, 0) else (num len bt a.1 (if 2 = amt k then 59 else 44)).bind (fun b => if wi b.2 (loB k 1) (hiB k 1) = 0 then none else if amt k = 2 then some (b.1, k, a.2, b.2, 0) else (num len bt b.1 59).bind (fun c => if wi c.2 (loB k 2) (hiB k 2) = 0 then none else some (c.1, k, a.2, b.2, c.2)))))
theorem kdN_lt {b : Int32} {k : Nat} (h : kdN b = some k) : k < 8 ∧ b = tb_Item_LETTERS k := by
  unfold kdN at h
  have key : ∀ {x : Int32} {j : Nat} {r : Option Nat}, (if b = x then some j else r) = some k → (b = x ∧ k = j) ∨ r = some k := fun {x j r} q => by
    by_cases c : b = x
    · rw [if_pos c] at q; injection q with q; exact Or.inl ⟨c, q.symm⟩
    · rw [if_neg c] at q; exact Or.inr q
  rcases key h with ⟨rfl, rfl⟩ | h
  · exact ⟨by decide, rfl⟩
  rcases key h with ⟨rfl, rfl⟩ | h
  · exact ⟨by decide, rfl⟩
  rcases key h with ⟨rfl, rfl⟩ | h
  · exact ⟨by decide, rfl⟩
  rcases key h with ⟨rfl, rfl⟩ | h
  · exact ⟨by decide, rfl⟩
  rcases key h with ⟨rfl, rfl⟩ | h
  · exact ⟨by decide, rfl⟩
  rcases key h with ⟨rfl, rfl⟩ | h
  · exact ⟨by decide, rfl⟩
  rcases key h with ⟨rfl, rfl⟩ | h
  · exact ⟨by decide, rfl⟩
  rcases key h with ⟨rfl, rfl⟩ | h
  · exact ⟨by decide, rfl⟩
  exact nomatch h
theorem amt_c {k : Nat} (h : k < 8) : (amt k = 1 ∧ k < 6) ∨ (amt k = 2 ∧ k = 6) ∨ (amt k = 3 ∧ k = 7) := by
  unfold amt
  by_cases c : k < 6
  · rw [if_pos c]; exact Or.inl ⟨rfl, c⟩
  · rw [if_neg c]
    by_cases d : k = 6
    · rw [if_pos d]; exact Or.inr (Or.inl ⟨rfl, d⟩)
    · rw [if_neg d]; exact Or.inr (Or.inr ⟨rfl, by omega⟩)
theorem sep_n (j k : Nat) : ¬ (-1 : Int32) = (if j = amt k then 59 else 44) := by split <;> decide
theorem rfm_c (N len p : Nat) (hN : 10 < N) (hl : len ≤ 200) (hp : p < len) (kd : Int32) (bt c1 : Nat → Int32) : (itm len bt p = none → ∃ q, fX3_readFrom N (nI p) kd c1 (nI len) bt = some q ∧ q.1 < 0) ∧ (∀ r, itm len bt p = some r → ∃ c', fX3_readFrom N (nI p) kd c1 (nI len) bt = some (nI r.1, nI r.2.1, c') ∧ c' 0 = r.2.2.1 ∧ (6 ≤ r.2.1 → c' 1 = r.2.2.2.1) ∧ (7 ≤ r.2.1 → c' 2 = r.2.2.2.2)) := by
  obtain ⟨m, rfl⟩ : ∃ m, N = m + 9 := ⟨N - 9, by omega⟩
  unfold fX3_readFrom
  rw [by_c _ len p hl (by omega), Option.bind_some, kd_c _ hN, Option.bind_some]
  unfold itm
  cases hk : kdN (tx len bt p) with
  | none =>
    refine ⟨fun _ => ⟨_, rfl, ?_⟩, fun r hr => nomatch hr⟩
    show (-1 : Int32) < 0
    decide
  | some k =>
    obtain ⟨k8, -⟩ := kdN_lt hk
    have eA : tb_Item_AMOUNTS k = nI (amt k) := by
      rcases (show k = 0 ∨ k = 1 ∨ k = 2 ∨ k = 3 ∨ k = 4 ∨ k = 5 ∨ k = 6 ∨ k = 7 by omega) with rfl | rfl | rfl | rfl | rfl | rfl | rfl | rfl <;> rfl
    rw [show kdI (some k) = nI k from rfl, if_neg (nI_pos (by omega)), if_pos (show nI k < (8 : Int32) from nI_lt (b := 8) k8 (by decide)), if_pos (ixb_nI k8 (by decide)), nI_clamp (by omega), eA, nI_1, Option.bind_some]
    have ac := amt_c k8
    obtain ⟨s1, s2⟩ := rf_c (m + 9) len (p + 1) k 0 (m + 8) hN hl (by omega) k8 (by omega) bt c1 _ rfl
    cases ha : num len bt (p + 1) (if 1 = amt k then 59 else 44) with
    | none => exact ⟨fun _ => s1 ha, fun r hr => nomatch hr⟩
    | some a =>
      obtain ⟨s3, s4⟩ := s2 a ha
      have ra := num_rng (sep_n 1 k) ha
      rw [Option.bind_some]
      by_cases ca : wi a.2 (loB k 0) (hiB k 0) = 0
      · rw [if_pos ca]; exact ⟨fun _ => s3 ca, fun r hr => nomatch hr⟩
      · rw [if_neg ca]
        have s4 := s4 ca
        by_cases d1 : amt k = 1
        · rw [if_pos d1]
          refine ⟨fun z => (nomatch z), fun r hr => ?_⟩
          injection hr with hr
          subst hr
          refine ⟨upd c1 0 a.2, ?_, pk_us, fun z => ?_, fun z => ?_⟩
          · refine s4.trans ?_
            rw [d1]
            exact rf_end _ 1 (m + 7) (by decide) _ _ _ _ _
          · dsimp only at z; omega
          · dsimp only at z; omega
        · rw [if_neg d1]
          obtain ⟨t1, t2⟩ := rf_c (m + 9) len a.1 k 1 (m + 7) hN hl (by omega) k8 (by omega) bt (upd c1 0 a.2) _ rfl
          have s4' : fX3_readFrom_p49 (m + 9) (nI (amt k)) (nI k) (nI len) bt (m + 9) (nI (p + 1)) 0 c1 = fX3_readFrom_p49 (m + 9) (nI (amt k)) (nI k) (nI len) bt (m + 7 + 1) (nI a.1) (nI 1) (upd c1 0 a.2) := s4
          rw [s4']
          cases hb : num len bt a.1 (if 2 = amt k then 59 else 44) with
          | none => exact ⟨fun _ => t1 hb, fun r hr => nomatch hr⟩
          | some b =>
            obtain ⟨t3, t4⟩ := t2 b hb
            have rb := num_rng (sep_n 2 k) hb
            rw [Option.bind_some]
            by_cases cb : wi b.2 (loB k 1) (hiB k 1) = 0
            · rw [if_pos cb]; exact ⟨fun _ => t3 cb, fun r hr => nomatch hr⟩
            · rw [if_neg cb]
              have t4 := t4 cb
              by_cases d2 : amt k = 2
              · rw [if_pos d2]
                refine ⟨fun z => (nomatch z), fun r hr => ?_⟩
                injection hr with hr
                subst hr
                refine ⟨upd (upd c1 0 a.2) 1 b.2, ?_, ?_, fun z => pk_us, fun z => ?_⟩
                · refine t4.trans ?_
                  rw [d2]
                  exact rf_end _ 2 (m + 6) (by decide) _ _ _ _ _
                · rw [pk_un (by decide), pk_us]
                · dsimp only at z; omega
              · rw [if_neg d2]
                obtain ⟨u1, u2⟩ := rf_c (m + 9) len b.1 k 2 (m + 6) hN hl (by omega) k8 (by omega) bt (upd (upd c1 0 a.2) 1 b.2) 59 (by rw [if_pos (by omega)])
                have t4' : fX3_readFrom_p49 (m + 9) (nI (amt k)) (nI k) (nI len) bt (m + 7 + 1) (nI a.1) (nI 1) (upd c1 0 a.2) = fX3_readFrom_p49 (m + 9) (nI (amt k)) (nI k) (nI len) bt (m + 6 + 1) (nI b.1) (nI 2) (upd (upd c1 0 a.2) 1 b.2) := t4
                rw [t4']
                cases hc : num len bt b.1 59 with
                | none => exact ⟨fun _ => u1 hc, fun r hr => nomatch hr⟩
                | some c =>
                  obtain ⟨u3, u4⟩ := u2 c hc
                  rw [Option.bind_some]
                  by_cases cc : wi c.2 (loB k 2) (hiB k 2) = 0
                  · rw [if_pos cc]; exact ⟨fun _ => u3 cc, fun r hr => nomatch hr⟩
                  · rw [if_neg cc]
                    have u4 := u4 cc
                    have d3 : amt k = 3 := by omega
                    refine ⟨fun z => (nomatch z), fun r hr => ?_⟩
                    injection hr with hr
                    subst hr
                    refine ⟨upd (upd (upd c1 0 a.2) 1 b.2) 2 c.2, ?_, ?_, fun z => ?_, fun z => pk_us⟩
                    · refine u4.trans ?_
                      rw [d3]
                      exact rf_end _ 3 (m + 5) (by decide) _ _ _ _ _
                    · rw [pk_un (by decide), pk_un (by decide), pk_us]
                    · rw [pk_un (by decide), pk_us]
theorem itm_rng {len : Nat} {bt : Nat → Int32} {p : Nat} {r : Nat × Nat × Int32 × Int32 × Int32} (h : itm len bt p = some r) : p + 3 ≤ r.1 ∧ r.1 ≤ len ∧ r.2.1 < 8 ∧ tx len bt p = tb_Item_LETTERS r.2.1 ∧ (r.2.1 = 6 → p + 5 ≤ r.1) ∧ (r.2.1 = 0 → 0 ≤ r.2.2.1.toInt ∧ r.2.2.1.toInt ≤ 500) := by
  unfold itm at h
  obtain ⟨k, hk, h⟩ := Option.bind_eq_some_iff.mp h
  obtain ⟨k8, kl⟩ := kdN_lt hk
  obtain ⟨a, ha, h⟩ := Option.bind_eq_some_iff.mp h
  have ra := num_rng (sep_n 1 k) ha
  have ac := amt_c k8
  by_cases ca : wi a.2 (loB k 0) (hiB k 0) = 0
  · rw [if_pos ca] at h; exact nomatch h
  rw [if_neg ca] at h
  by_cases d1 : amt k = 1
  · rw [if_pos d1] at h
    injection h with h
    subst h
    refine ⟨by dsimp only; omega, by dsimp only; omega, k8, kl, fun z => ?_, fun z => ?_⟩
    · dsimp only at z; omega
    · dsimp only at z
      subst z
      exact wi_yes ca
  rw [if_neg d1] at h
  obtain ⟨b, hb, h⟩ := Option.bind_eq_some_iff.mp h
  have rb := num_rng (sep_n 2 k) hb
  by_cases cb : wi b.2 (loB k 1) (hiB k 1) = 0
  · rw [if_pos cb] at h; exact nomatch h
  rw [if_neg cb] at h
  by_cases d2 : amt k = 2
  · rw [if_pos d2] at h
    injection h with h
    subst h
    refine ⟨by dsimp only; omega, by dsimp only; omega, k8, kl, fun z => by dsimp only; omega, fun z => ?_⟩
    dsimp only at z; omega
  rw [if_neg d2] at h
  obtain ⟨c, hc, h⟩ := Option.bind_eq_some_iff.mp h
  have rc := num_rng (by decide) hc
  by_cases cc : wi c.2 (loB k 2) (hiB k 2) = 0
  · rw [if_pos cc] at h; exact nomatch h
  rw [if_neg cc] at h
  injection h with h
  subst h
  refine ⟨by dsimp only; omega, by dsimp only; omega, k8, kl, fun z => by dsimp only; omega, fun z => ?_⟩
  dsimp only at z; omega
