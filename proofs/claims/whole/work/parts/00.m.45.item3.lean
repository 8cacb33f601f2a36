theorem it1 (N len p : Nat) (hN : 10 < N) (hl : len ≤ 200) (hp : p < len) (bt C : Nat → Int32) (k : Nat) (lo hi : Int64) (hlo : lo = (loB k 0).toInt64) (hhi : hi = (hiB k 0).toInt64) (hk : k < 6) (X : Option (Int32 × Int32 × (Nat → Int32))) (hX : X = (fX10_figures N 1 (nI len) (nI (p + 1)) C bt).bind (fun q => (if q.1 = 0 then some ((0 : Int32), q.2.1, q.2.2) else ((fX10_in N ((q.2.2 (0 : Int32).toNatClampNeg).toInt64) lo hi).bind (fun r => (if r = 0 then some ((0 : Int32), q.2.1, q.2.2) else some ((1 : Int32), q.2.1, q.2.2))))))) (hi2 : itm len bt p = (num len bt (p + 1) 59).bind (fun a => if wi a.2 (loB k 0) (hiB k 0) = 0 then none else some (a.1, k, a.2, 0, 0))) : (itm len bt p = none → ∃ z, X = some z ∧ z.1 = 0) ∧ (∀ r, itm len bt p = some r → ∃ c', X = some (1, nI r.1, c') ∧ c' 0 = r.2.2.1 ∧ (6 ≤ r.2.1 → c' 1 = r.2.2.2.1) ∧ (7 ≤ r.2.1 → c' 2 = r.2.2.2.2)) := by
  rw [hi2]
  obtain ⟨h1, h2⟩ := fg1 N len (p + 1) hN hl (by omega) bt C
  cases ha : num len bt (p + 1) 59 with
  | none =>
    refine ⟨fun _ => ?_, fun r hr => (nomatch hr)⟩
    obtain ⟨z, z1, z2⟩ := h1 ha
    rw [hX, z1, Option.bind_some, if_pos z2]
    exact ⟨_, rfl, rfl⟩
  | some a =>
    rw [Option.bind_some]
    have e := h2 a ha
    have e2 : X = if wi a.2 (loB k 0) (hiB k 0) = 0 then some (0, nI a.1, upd C 0 a.2) else some (1, nI a.1, upd C 0 a.2) := by
      rw [hX, e, Option.bind_some, if_neg (show ¬ (1 : Int32) = 0 by decide), in_def N _ (loB k 0) (hiB k 0) lo hi hlo hhi, Option.bind_some]
      have eu : upd C 0 a.2 (0 : Int32).toNatClampNeg = a.2 := pk_us
      simp only [eu]
    rw [e2]
    by_cases c : wi a.2 (loB k 0) (hiB k 0) = 0
    · rw [if_pos c, if_pos c]
      exact ⟨fun _ => ⟨_, rfl, rfl⟩, fun r hr => (nomatch hr)⟩
    · rw [if_neg c, if_neg c]
      refine ⟨fun z => (nomatch z), fun r hr => ?_⟩
      injection hr with hr
      subst hr
      refine ⟨_, rfl, pk_us, fun z => ?_, fun z => ?_⟩
      · dsimp only at z; omega
      · dsimp only at z; omega
theorem wi_inn {v a b : Int32} (h1 : a.toInt ≤ v.toInt) (h2 : v.toInt ≤ b.toInt) : ¬ wi v a b = 0 := fun h => by
  rcases wi_no h with q | q
  · rw [fa_lt] at q; omega
  · rw [fa_lt] at q; omega
theorem it_r (N len p : Nat) (hN : 10 < N) (hl : len ≤ 200) (hp : p < len) (bt c1 : Nat → Int32) : (itm len bt p = none → ∃ z, fX10_item N (nI len) (nI p) c1 bt = some z ∧ z.1 = 0) ∧ (∀ r, itm len bt p = some r → ∃ c', fX10_item N (nI len) (nI p) c1 bt = some (1, nI r.1, c') ∧ c' 0 = r.2.2.1 ∧ (6 ≤ r.2.1 → c' 1 = r.2.2.2.1) ∧ (7 ≤ r.2.1 → c' 2 = r.2.2.2.2)) := by
  have ez : tz len bt p = tx len bt p := by unfold tx tz; rw [if_pos hp, if_pos hp]
  cases hk : kdN (tx len bt p) with
  | none =>
    have ei : itm len bt p = none := by unfold itm; rw [hk]; rfl
    refine ⟨fun _ => ?_, fun r hr => ?_⟩
    · unfold fX10_item
      rw [by_r N len p hl (by omega), ez, Option.bind_some]
      unfold kdN at hk
      by_cases d0 : tx len bt p = 97
      · rw [if_pos d0] at hk; exact nomatch hk
      rw [if_neg d0] at hk
      by_cases d1 : tx len bt p = 103
      · rw [if_pos d1] at hk; exact nomatch hk
      rw [if_neg d1] at hk
      by_cases d2 : tx len bt p = 98
      · rw [if_pos d2] at hk; exact nomatch hk
      rw [if_neg d2] at hk
      by_cases d3 : tx len bt p = 114
      · rw [if_pos d3] at hk; exact nomatch hk
      rw [if_neg d3] at hk
      by_cases d4 : tx len bt p = 113
      · rw [if_pos d4] at hk; exact nomatch hk
      rw [if_neg d4] at hk
      by_cases d5 : tx len bt p = 116
      · rw [if_pos d5] at hk; exact nomatch hk
      rw [if_neg d5] at hk
      by_cases d6 : tx len bt p = 108
      · rw [if_pos d6] at hk; exact nomatch hk
      rw [if_neg d6] at hk
      by_cases d7 : tx len bt p = 107
      · rw [if_pos d7] at hk; exact nomatch hk
      rw [if_neg d0, if_neg d2, if_neg d1, if_neg d7, if_neg d6, if_neg d4, if_neg d3, if_neg d5]
      refine ⟨((0 : Int32), nI p + 1, upd (upd c1 (1 : Int32).toNatClampNeg 0) (2 : Int32).toNatClampNeg 0), ?_, rfl⟩
      simp only [ite_self]
    · rw [ei] at hr; exact nomatch hr
  | some k =>
    obtain ⟨k8, kl⟩ := kdN_lt hk
    have e1 : amt k = 1 → itm len bt p = (num len bt (p + 1) 59).bind (fun a => if wi a.2 (loB k 0) (hiB k 0) = 0 then none else some (a.1, k, a.2, 0, 0)) := fun am => by
      unfold itm; rw [hk]
      simp only [Option.bind_some, am, if_true]
    have eU : itm len bt p = (some k).bind (fun k => (num len bt (p + 1) (if 1 = amt k then 59 else 44)).bind (fun a => if wi a.2 (loB k 0) (hiB k 0) = 0 then none else if amt k = 1 then some (a.1, k, a.2, 0, 0) else (num len bt a.1 (if 2 = amt k then 59 else 44)).bind (fun b => if wi b.2 (loB k 1) (hiB k 1) = 0 then none else if amt k = 2 then some (b.1, k, a.2, b.2, 0) else (num len bt b.1 59).bind (fun c => if wi c.2 (loB k 2) (hiB k 2) = 0 then none else some (c.1, k, a.2, b.2, c.2))))) := by
      unfold itm; rw [hk]
    rcases (show k = 0 ∨ k = 1 ∨ k = 2 ∨ k = 3 ∨ k = 4 ∨ k = 5 ∨ k = 6 ∨ k = 7 by omega) with rfl | rfl | rfl | rfl | rfl | rfl | rfl | rfl
    · refine it1 N len p hN hl hp bt (upd (upd c1 (1 : Int32).toNatClampNeg 0) (2 : Int32).toNatClampNeg 0) 0 0 500 rfl rfl (by decide) _ ?_ (e1 rfl)
      unfold fX10_item
      rw [by_r N len p hl (by omega), ez, Option.bind_some, show tx len bt p = 97 from kl, nI_1, if_pos rfl]
    · refine it1 N len p hN hl hp bt (upd (upd c1 (1 : Int32).toNatClampNeg 0) (2 : Int32).toNatClampNeg 0) 1 0 100 rfl rfl (by decide) _ ?_ (e1 rfl)
      unfold fX10_item
      rw [by_r N len p hl (by omega), ez, Option.bind_some, show tx len bt p = 103 from kl, nI_1, if_neg (show ¬ (103 : Int32) = 97 by decide), if_neg (show ¬ (103 : Int32) = 98 by decide), if_neg (show ¬ (103 : Int32) = 99 by decide), if_neg (show ¬ (103 : Int32) = 100 by decide), if_neg (show ¬ (103 : Int32) = 101 by decide), if_neg (show ¬ (103 : Int32) = 102 by decide), if_pos rfl]
    · refine it1 N len p hN hl hp bt (upd (upd c1 (1 : Int32).toNatClampNeg 0) (2 : Int32).toNatClampNeg 0) 2 0 1000 rfl rfl (by decide) _ ?_ (e1 rfl)
      unfold fX10_item
      rw [by_r N len p hl (by omega), ez, Option.bind_some, show tx len bt p = 98 from kl, nI_1, if_neg (show ¬ (98 : Int32) = 97 by decide), if_pos rfl]
    · refine it1 N len p hN hl hp bt (upd (upd c1 (1 : Int32).toNatClampNeg 0) (2 : Int32).toNatClampNeg 0) 3 0 1000 rfl rfl (by decide) _ ?_ (e1 rfl)
      unfold fX10_item
      rw [by_r N len p hl (by omega), ez, Option.bind_some, show tx len bt p = 114 from kl, nI_1, if_neg (show ¬ (114 : Int32) = 97 by decide), if_neg (show ¬ (114 : Int32) = 98 by decide), if_neg (show ¬ (114 : Int32) = 99 by decide), if_neg (show ¬ (114 : Int32) = 100 by decide), if_neg (show ¬ (114 : Int32) = 101 by decide), if_neg (show ¬ (114 : Int32) = 102 by decide), if_neg (show ¬ (114 : Int32) = 103 by decide), if_neg (show ¬ (114 : Int32) = 104 by decide), if_neg (show ¬ (114 : Int32) = 105 by decide), if_neg (show ¬ (114 : Int32) = 106 by decide), if_neg (show ¬ (114 : Int32) = 107 by decide), if_neg (show ¬ (114 : Int32) = 108 by decide), if_neg (show ¬ (114 : Int32) = 109 by decide), if_neg (show ¬ (114 : Int32) = 110 by decide), if_neg (show ¬ (114 : Int32) = 111 by decide), if_neg (show ¬ (114 : Int32) = 112 by decide), if_neg (show ¬ (114 : Int32) = 113 by decide), if_pos rfl]
    · refine it1 N len p hN hl hp bt (upd (upd c1 (1 : Int32).toNatClampNeg 0) (2 : Int32).toNatClampNeg 0) 4 0 100 rfl rfl (by decide) _ ?_ (e1 rfl)
      unfold fX10_item
      rw [by_r N len p hl (by omega), ez, Option.bind_some, show tx len bt p = 113 from kl, nI_1, if_neg (show ¬ (113 : Int32) = 97 by decide), if_neg (show ¬ (113 : Int32) = 98 by decide), if_neg (show ¬ (113 : Int32) = 99 by decide), if_neg (show ¬ (113 : Int32) = 100 by decide), if_neg (show ¬ (113 : Int32) = 101 by decide), if_neg (show ¬ (113 : Int32) = 102 by decide), if_neg (show ¬ (113 : Int32) = 103 by decide), if_neg (show ¬ (113 : Int32) = 104 by decide), if_neg (show ¬ (113 : Int32) = 105 by decide), if_neg (show ¬ (113 : Int32) = 106 by decide), if_neg (show ¬ (113 : Int32) = 107 by decide), if_neg (show ¬ (113 : Int32) = 108 by decide), if_neg (show ¬ (113 : Int32) = 109 by decide), if_neg (show ¬ (113 : Int32) = 110 by decide), if_neg (show ¬ (113 : Int32) = 111 by decide), if_neg (show ¬ (113 : Int32) = 112 by decide), if_pos rfl]
    · refine it1 N len p hN hl hp bt (upd (upd c1 (1 : Int32).toNatClampNeg 0) (2 : Int32).toNatClampNeg 0) 5 51 100 rfl rfl (by decide) _ ?_ (e1 rfl)
      unfold fX10_item
      rw [by_r N len p hl (by omega), ez, Option.bind_some, show tx len bt p = 116 from kl, nI_1, if_neg (show ¬ (116 : Int32) = 97 by decide), if_neg (show ¬ (116 : Int32) = 98 by decide), if_neg (show ¬ (116 : Int32) = 99 by decide), if_neg (show ¬ (116 : Int32) = 100 by decide), if_neg (show ¬ (116 : Int32) = 101 by decide), if_neg (show ¬ (116 : Int32) = 102 by decide), if_neg (show ¬ (116 : Int32) = 103 by decide), if_neg (show ¬ (116 : Int32) = 104 by decide), if_neg (show ¬ (116 : Int32) = 105 by decide), if_neg (show ¬ (116 : Int32) = 106 by decide), if_neg (show ¬ (116 : Int32) = 107 by decide), if_neg (show ¬ (116 : Int32) = 108 by decide), if_neg (show ¬ (116 : Int32) = 109 by decide), if_neg (show ¬ (116 : Int32) = 110 by decide), if_neg (show ¬ (116 : Int32) = 111 by decide), if_neg (show ¬ (116 : Int32) = 112 by decide), if_neg (show ¬ (116 : Int32) = 113 by decide), if_neg (show ¬ (116 : Int32) = 114 by decide), if_neg (show ¬ (116 : Int32) = 115 by decide), if_pos rfl]
    · have eX : fX10_item N (nI len) (nI p) c1 bt = (fX10_figures N 2 (nI len) (nI (p + 1)) (upd (upd c1 1 0) 2 0) bt).bind (fun q256 => some (q256.1, q256.2.1, q256.2.2)) := by
        unfold fX10_item
        rw [by_r N len p hl (by omega), ez, Option.bind_some, show tx len bt p = 108 from kl, nI_1, if_neg (show ¬ (108 : Int32) = 97 by decide), if_neg (show ¬ (108 : Int32) = 98 by decide), if_neg (show ¬ (108 : Int32) = 99 by decide), if_neg (show ¬ (108 : Int32) = 100 by decide), if_neg (show ¬ (108 : Int32) = 101 by decide), if_neg (show ¬ (108 : Int32) = 102 by decide), if_neg (show ¬ (108 : Int32) = 103 by decide), if_neg (show ¬ (108 : Int32) = 104 by decide), if_neg (show ¬ (108 : Int32) = 105 by decide), if_neg (show ¬ (108 : Int32) = 106 by decide), if_neg (show ¬ (108 : Int32) = 107 by decide), if_pos rfl]
        rfl
      have eJ : itm len bt p = (num len bt (p + 1) 44).bind (fun a => (num len bt a.1 59).bind (fun b => some (b.1, 6, a.2, b.2, 0))) := by
        rw [eU, Option.bind_some]
        show (num len bt (p + 1) 44).bind _ = _
        cases ha : num len bt (p + 1) 44 with
        | none => rfl
        | some a =>
          have ra := num_rng (by decide) ha
          rw [Option.bind_some, Option.bind_some, if_neg (wi_inn (a := loB 6 0) (b := hiB 6 0) ra.2.2.1 ra.2.2.2), if_neg (by decide)]
          show (num len bt a.1 59).bind _ = _
          cases hb : num len bt a.1 59 with
          | none => rfl
          | some b =>
            have rb := num_rng (by decide) hb
            rw [Option.bind_some, Option.bind_some, if_neg (wi_inn (a := loB 6 1) (b := hiB 6 1) rb.2.2.1 rb.2.2.2)]
            rfl
      rw [eX, eJ]
      obtain ⟨h1, h2⟩ := fg2 N len (p + 1) hN hl (by omega) bt (upd (upd c1 1 0) 2 0)
      cases ha : num len bt (p + 1) 44 with
      | none =>
        obtain ⟨z, z1, z2⟩ := h1 ha
        rw [z1]
        exact ⟨fun _ => ⟨_, rfl, z2⟩, fun r hr => (nomatch hr)⟩
      | some a =>
        obtain ⟨h3, h4⟩ := h2 a ha
        rw [Option.bind_some]
        cases hb : num len bt a.1 59 with
        | none =>
          obtain ⟨z, z1, z2⟩ := h3 hb
          rw [z1]
          exact ⟨fun _ => ⟨_, rfl, z2⟩, fun r hr => (nomatch hr)⟩
        | some b =>
          rw [h4 b hb]
          refine ⟨fun z => (nomatch z), fun r hr => ?_⟩
          injection hr with hr
          subst hr
          refine ⟨upd (upd (upd (upd c1 1 0) 2 0) 0 a.2) 1 b.2, rfl, ?_, fun z => pk_us, fun z => ?_⟩
          · rw [pk_un (by decide), pk_us]
          · exact absurd (show 7 ≤ 6 from z) (by decide)
    · have eX : fX10_item N (nI len) (nI p) c1 bt = (fX10_figures N 3 (nI len) (nI (p + 1)) (upd (upd c1 1 0) 2 0) bt).bind (fun q262 => (if q262.1 = 0 then some ((0 : Int32), q262.2.1, q262.2.2) else (if (q262.2.2 1) < 0 then some ((0 : Int32), q262.2.1, q262.2.2) else (if (q262.2.2 2) < 0 then some ((0 : Int32), q262.2.1, q262.2.2) else some ((1 : Int32), q262.2.1, q262.2.2))))) := by
        unfold fX10_item
        rw [by_r N len p hl (by omega), ez, Option.bind_some, show tx len bt p = 107 from kl, nI_1, if_neg (show ¬ (107 : Int32) = 97 by decide), if_neg (show ¬ (107 : Int32) = 98 by decide), if_neg (show ¬ (107 : Int32) = 99 by decide), if_neg (show ¬ (107 : Int32) = 100 by decide), if_neg (show ¬ (107 : Int32) = 101 by decide), if_neg (show ¬ (107 : Int32) = 102 by decide), if_neg (show ¬ (107 : Int32) = 103 by decide), if_neg (show ¬ (107 : Int32) = 104 by decide), if_neg (show ¬ (107 : Int32) = 105 by decide), if_neg (show ¬ (107 : Int32) = 106 by decide), if_pos rfl]
        rfl
      have w9 : ∀ v : Int32, -9999 ≤ v.toInt → v.toInt ≤ 9999 → (wi v 0 9999 = 0 ↔ v < 0) := fun v v1 v2 => by
        have z0 : (0 : Int32).toInt = 0 := rfl
        have z9 : (9999 : Int32).toInt = 9999 := rfl
        constructor
        · intro h
          rcases wi_no h with q | q
          · exact q
          · rw [fa_lt, z9] at q; omega
        · intro h
          unfold wi
          rw [if_pos h]
      have eJ : itm len bt p = (num len bt (p + 1) 44).bind (fun a => (num len bt a.1 44).bind (fun b => (num len bt b.1 59).bind (fun c => if b.2 < 0 then none else if c.2 < 0 then none else some (c.1, 7, a.2, b.2, c.2)))) := by
        rw [eU, Option.bind_some]
        show (num len bt (p + 1) 44).bind _ = _
        cases ha : num len bt (p + 1) 44 with
        | none => rfl
        | some a =>
          have ra := num_rng (by decide) ha
          rw [Option.bind_some, Option.bind_some, if_neg (wi_inn (a := loB 7 0) (b := hiB 7 0) ra.2.2.1 ra.2.2.2), if_neg (by decide)]
          show (num len bt a.1 44).bind _ = _
          cases hb : num len bt a.1 44 with
          | none => rfl
          | some b =>
            have rb := num_rng (by decide) hb
            have wb : wi b.2 (loB 7 1) (hiB 7 1) = 0 ↔ b.2 < 0 := w9 b.2 rb.2.2.1 rb.2.2.2
            rw [Option.bind_some, Option.bind_some]
            by_cases cb : b.2 < 0
            · rw [if_pos (wb.mpr cb)]
              cases num len bt b.1 59 with
              | none => rfl
              | some c => rw [Option.bind_some, if_pos cb]
            · rw [if_neg (fun z => cb (wb.mp z)), if_neg (by decide)]
              cases hc : num len bt b.1 59 with
              | none => rfl
              | some c =>
                have rc := num_rng (by decide) hc
                have wc : wi c.2 (loB 7 2) (hiB 7 2) = 0 ↔ c.2 < 0 := w9 c.2 rc.2.2.1 rc.2.2.2
                rw [Option.bind_some, Option.bind_some, if_neg cb]
                by_cases cc : c.2 < 0
                · rw [if_pos (wc.mpr cc), if_pos cc]
                · rw [if_neg (fun z => cc (wc.mp z)), if_neg cc]
      rw [eX, eJ]
      obtain ⟨h1, h2⟩ := fg3 N len (p + 1) hN hl (by omega) bt (upd (upd c1 1 0) 2 0)
      cases ha : num len bt (p + 1) 44 with
      | none =>
        obtain ⟨z, z1, z2⟩ := h1 ha
        rw [z1, Option.bind_some, if_pos z2]
        exact ⟨fun _ => ⟨_, rfl, rfl⟩, fun r hr => (nomatch hr)⟩
      | some a =>
        obtain ⟨h3, h4⟩ := h2 a ha
        rw [Option.bind_some]
        cases hb : num len bt a.1 44 with
        | none =>
          obtain ⟨z, z1, z2⟩ := h3 hb
          rw [z1, Option.bind_some, if_pos z2]
          exact ⟨fun _ => ⟨_, rfl, rfl⟩, fun r hr => (nomatch hr)⟩
        | some b =>
          obtain ⟨h5, h6⟩ := h4 b hb
          rw [Option.bind_some]
          cases hc : num len bt b.1 59 with
          | none =>
            obtain ⟨z, z1, z2⟩ := h5 hc
            rw [z1, Option.bind_some, if_pos z2]
            exact ⟨fun _ => ⟨_, rfl, rfl⟩, fun r hr => (nomatch hr)⟩
          | some c =>
            rw [h6 c hc, Option.bind_some, Option.bind_some, if_neg (show ¬ (1 : Int32) = 0 by decide)]
            dsimp only
            have u1 : upd (upd (upd (upd (upd c1 1 0) 2 0) 0 a.2) 1 b.2) 2 c.2 1 = b.2 := by rw [pk_un (by decide), pk_us]
            have u2 : upd (upd (upd (upd (upd c1 1 0) 2 0) 0 a.2) 1 b.2) 2 c.2 2 = c.2 := pk_us
            by_cases cb : b.2 < 0
            · have cb' : upd (upd (upd (upd (upd c1 1 0) 2 0) 0 a.2) 1 b.2) 2 c.2 1 < 0 := by rw [u1]; exact cb
              rw [if_pos cb', if_pos cb]
              exact ⟨fun _ => ⟨_, rfl, rfl⟩, fun r hr => (nomatch hr)⟩
            · have cb' : ¬ upd (upd (upd (upd (upd c1 1 0) 2 0) 0 a.2) 1 b.2) 2 c.2 1 < 0 := by rw [u1]; exact cb
              rw [if_neg cb', if_neg cb]
              by_cases cc : c.2 < 0
              · have cc' : upd (upd (upd (upd (upd c1 1 0) 2 0) 0 a.2) 1 b.2) 2 c.2 2 < 0 := by rw [u2]; exact cc
                rw [if_pos cc', if_pos cc]
                exact ⟨fun _ => ⟨_, rfl, rfl⟩, fun r hr => (nomatch hr)⟩
              · have cc' : ¬ upd (upd (upd (upd (upd c1 1 0) 2 0) 0 a.2) 1 b.2) 2 c.2 2 < 0 := by rw [u2]; exact cc
                rw [if_neg cc', if_neg cc]
                refine ⟨fun z => (nomatch z), fun r hr => ?_⟩
                injection hr with hr
                subst hr
                refine ⟨upd (upd (upd (upd (upd c1 1 0) 2 0) 0 a.2) 1 b.2) 2 c.2, rfl, ?_, fun z => ?_, fun z => pk_us⟩
                · rw [pk_un (by decide), pk_un (by decide), pk_us]
                · rw [pk_un (by decide), pk_us]
