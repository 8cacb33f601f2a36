theorem camera_eq (N : Nat) (a1 a2 a3 : Int32) (cam : Nat → Int32) (known stale : Int32) : ∃ q z, fX9_camera N a1 a2 a3 cam known stale = some q ∧ fX10_camera N a1 a2 a3 cam = some z ∧ q.1 = z.1 ∧ q.2.1 = z.2 ∧ ((q.2.1 = cam ∧ q.2.2 = (known, stale)) ∨ q.2.2 = (0, 1)) := by
  unfold fX9_camera fX10_camera fX9_isCamera fX7_forget
  rw [wi_def, in_def N a1 0 3 0 3 rfl rfl]
  simp only [Option.bind_some]
  by_cases c1 : wi a1 0 3 = 0
  · rw [if_pos c1, if_pos c1]; exact ⟨_, _, rfl, rfl, rfl, rfl, Or.inl ⟨rfl, rfl⟩⟩
  · rw [if_neg c1, if_neg c1, wi_def, in_def N a2 0 2 0 2 rfl rfl, Option.bind_some, Option.bind_some]
    by_cases c2 : wi a2 0 2 = 0
    · rw [if_pos c2, if_pos c2]; exact ⟨_, _, rfl, rfl, rfl, rfl, Or.inl ⟨rfl, rfl⟩⟩
    · rw [if_neg c2, if_neg c2, wi_def, in_def N a3 (-10) 10 (-10) 10 rfl rfl, Option.bind_some, Option.bind_some]
      by_cases c3 : wi a3 (-10) 10 = 0
      · rw [if_neg (fun z => z c3), if_neg (fun z => z c3)]; exact ⟨_, _, rfl, rfl, rfl, rfl, Or.inl ⟨rfl, rfl⟩⟩
      · rw [if_pos c3, if_pos c3]
        obtain ⟨c, hc, rfl⟩ := wi_ok (m := 3) (by decide) c1
        obtain ⟨w, hw, rfl⟩ := wi_ok (m := 2) (by decide) c2
        have e1 : nI c * (3 : Int32) + nI w = nI (3 * c + w) := by rw [show (3 : Int32) = nI 3 from rfl, pk_mul, nI_add, Nat.mul_comm]
        have e2 : (3 : Int32) * nI c + nI w = nI (3 * c + w) := by rw [show (3 : Int32) = nI 3 from rfl, pk_mul, nI_add]
        have h12 : nI (3 * c + w) < (12 : Int32) := nI_lt (b := 12) (by omega) (by decide)
        simp only [e1, e2, if_pos h12, ixb_nI (show 3 * c + w < 12 by omega) (by decide), if_true]
        exact ⟨_, _, rfl, rfl, rfl, rfl, Or.inr rfl⟩
theorem leave_eq (N : Nat) (a1 : Int32) {left : Int32} {outs : Nat → Int32} (h : left = outs 0) : ∃ q z, fX9_leave N a1 left = some q ∧ fX10_leave N a1 outs = some z ∧ q.1 = z.1 ∧ ((q.2 = left ∧ z.2 = outs) ∨ (∃ m : Nat, m ≤ 15 ∧ q.2 = nI m ∧ z.2 = upd outs 0 (nI m))) := by
  subst h
  unfold fX9_leave fX10_leave fX8_leaveOut
  rw [wi_def, in_def N a1 0 15 0 15 rfl rfl]
  simp only [Option.bind_some]
  by_cases c1 : wi a1 0 15 = 0
  · rw [if_pos c1, if_neg (fun z => z c1)]; exact ⟨_, _, rfl, rfl, rfl, Or.inl ⟨rfl, rfl⟩⟩
  · rw [if_neg c1, if_pos c1]
    obtain ⟨m, hm, rfl⟩ := wi_ok (m := 15) (by decide) c1
    exact ⟨_, _, rfl, rfl, rfl, Or.inr ⟨m, hm, rfl, rfl⟩⟩
