/-! the models' words: a continuation that several ways share; an index that is in its row -/
def jn {α β : Type} (k : α) (f : α → β) : β := f k
theorem jn_e {α β : Type} {k : α} {f : α → β} {r : β} (h : jn k f = r) : ∃ k', k' = k ∧ f k' = r := ⟨k, rfl, h⟩
def ixb (i : Int32) (n : Nat) : Bool := decide (0 ≤ i.toInt ∧ i.toInt < (n : Int))
theorem ixk {i : Int32} {n : Nat} (h : ixb i n = true) : vp_in i n := vp_in_iff.mpr (of_decide_eq_true h)
theorem oi_t {α : Type} {c : Prop} {d : Decidable c} {a b : Option α} {r : α} (h : @ite (Option α) c d a b = some r) (hc : c) : a = some r := by rw [if_pos hc] at h; exact h
theorem oi_f {α : Type} {c : Prop} {d : Decidable c} {a b : Option α} {r : α} (h : @ite (Option α) c d a b = some r) (hc : ¬ c) : b = some r := by rw [if_neg hc] at h; exact h
theorem oi_n {α : Type} {c : Prop} {d : Decidable (¬ c)} {a b : Option α} {r : α} (h : @ite (Option α) (¬ c) d a b = some r) (hc : c) : b = some r := by rw [if_neg (fun k => k hc)] at h; exact h
theorem oi_g {α : Type} {c : Prop} {d : Decidable c} {a : Option α} {r : α} (h : @ite (Option α) c d a none = some r) : c ∧ a = some r := by
  by_cases hc : c
  · rw [if_pos hc] at h; exact ⟨hc, h⟩
  · rw [if_neg hc] at h; cases h
theorem oi_x {α : Type} {i : Int32} {n : Nat} {d : Decidable (ixb i n = true)} {a : Option α} {r : α} (h : @ite (Option α) (ixb i n = true) d a none = some r) : vp_in i n ∧ a = some r := ⟨ixk (oi_g h).1, (oi_g h).2⟩
theorem ob_e {α β : Type} {x : Option α} {f : α → Option β} {r : β} (h : x.bind f = some r) : ∃ y, x = some y ∧ f y = some r := Option.bind_eq_some_iff.mp h
theorem on_e {α : Type} {r : α} {P : Prop} (h : (none : Option α) = some r) : P := nomatch h
/-! the constant rows of the class, and the words of nest mates, as they stand at a state -/
def wv (f : Nat → Int32) : Nat → Value := fun j => .int (f j)
def tb (l : List Int32) : Nat → Int32 := fun j => l.getD j 0

def tb_Item_LETTERS : Nat → Int32 := tb [97, 103, 98, 114, 113, 116, 108, 107]
def tb_Item_AMOUNTS : Nat → Int32 := tb [1, 1, 1, 1, 1, 1, 2, 3]
def tb_Item_FIRST_BOUNDS : Nat → Int32 := tb [0, 1, 2, 3, 4, 5, 6, 8]
def tb_Item_LOWEST : Nat → Int32 := tb [0, 0, 0, 0, 0, 51, -9999, -9999, -9999, 0, 0]
def tb_Item_HIGHEST : Nat → Int32 := tb [500, 100, 1000, 1000, 100, 100, 9999, 9999, 9999, 9999, 9999]
def tb_Law_WITHOUT : Nat → Int32 := tb [0, 1, 500, 1000, 0, 90]
def tb_World_LOWEST : Nat → Int32 := tb [-100000, -100000, 0, -2000, -2000, -2000]
def tb_World_HIGHEST : Nat → Int32 := tb [100000, 100000, 100000, 2000, 2000, 2000]
def gST (t : Nat → Nat) (A : Nat → Prop) (U : State) (H : Heap) : Prop := (va_Z "WasItOut$Item" "LETTERS" "[C" (.ref (t 0)) A U H ∧ va_T .char (t 0) 8 (wv tb_Item_LETTERS) A U H) ∧ (va_Z "WasItOut$Item" "AMOUNTS" "[I" (.ref (t 1)) A U H ∧ va_T .int (t 1) 8 (wv tb_Item_AMOUNTS) A U H) ∧ (va_Z "WasItOut$Item" "FIRST_BOUNDS" "[I" (.ref (t 2)) A U H ∧ va_T .int (t 2) 8 (wv tb_Item_FIRST_BOUNDS) A U H) ∧ (va_Z "WasItOut$Item" "LOWEST" "[I" (.ref (t 3)) A U H ∧ va_T .int (t 3) 11 (wv tb_Item_LOWEST) A U H) ∧ (va_Z "WasItOut$Item" "HIGHEST" "[I" (.ref (t 4)) A U H ∧ va_T .int (t 4) 11 (wv tb_Item_HIGHEST) A U H) ∧ (va_Z "WasItOut$Law" "WITHOUT" "[I" (.ref (t 5)) A U H ∧ va_T .int (t 5) 6 (wv tb_Law_WITHOUT) A U H) ∧ (va_Z "WasItOut$World" "LOWEST" "[I" (.ref (t 6)) A U H ∧ va_T .int (t 6) 6 (wv tb_World_LOWEST) A U H) ∧ (va_Z "WasItOut$World" "HIGHEST" "[I" (.ref (t 7)) A U H ∧ va_T .int (t 7) 6 (wv tb_World_HIGHEST) A U H)
def gNW (U : State) : Prop := va_Nw (.methodLinkNest RX0 62 yX9_within RX9) U ∧ va_Nw (.methodLinkNest RX3 52 yX9_within RX9) U ∧ va_Nw (.methodLinkNest RX8 24 yX9_within RX9) U ∧ va_Nw (.methodLinkNest RX5 21 yX3_init RX9) U ∧ va_Nw (.methodLinkNest RX6 17 yX3_init RX9) U ∧ va_Nw (.methodLinkNest RX9 9 yX6_init RX9) U ∧ va_Nw (.methodLinkNest RX9 25 yX8_init RX9) U ∧ va_Nw (.methodLinkNest RX9 60 yX4_init RX9) U ∧ va_Nw (.methodLinkNest RX9 67 yX0_init RX9) U ∧ va_Nw (.methodLinkNest RX9 74 yX1_init RX9) U
def gG (t : Nat → Nat) (A : Nat → Prop) (U : State) (H : Heap) : Prop := gST t A U H ∧ gNW U
theorem gG.call {t : Nat → Nat} {A B : Nat → Prop} {s U : State} {H : Heap} {locs : List Loc} (h : gG t A s s.heap) (hS : va_S A s.heap H locs) (hAB : ∀ q, B q → A q) (hU : U.heap = H) (hW : s.WarmedH U.vm) : gG t B U U.heap := by
  obtain ⟨⟨⟨z0, y0⟩, ⟨z1, y1⟩, ⟨z2, y2⟩, ⟨z3, y3⟩, ⟨z4, y4⟩, ⟨z5, y5⟩, ⟨z6, y6⟩, ⟨z7, y7⟩⟩, n0, n1, n2, n3, n4, n5, n6, n7, n8, n9⟩ := h
  rw [hU]
  exact ⟨⟨⟨((z0.kept hS.2.1).narrow hAB).moved hW.alike, ((y0.kept hS.2.1).narrow hAB).moved hW.alike⟩, ⟨((z1.kept hS.2.1).narrow hAB).moved hW.alike, ((y1.kept hS.2.1).narrow hAB).moved hW.alike⟩, ⟨((z2.kept hS.2.1).narrow hAB).moved hW.alike, ((y2.kept hS.2.1).narrow hAB).moved hW.alike⟩, ⟨((z3.kept hS.2.1).narrow hAB).moved hW.alike, ((y3.kept hS.2.1).narrow hAB).moved hW.alike⟩, ⟨((z4.kept hS.2.1).narrow hAB).moved hW.alike, ((y4.kept hS.2.1).narrow hAB).moved hW.alike⟩, ⟨((z5.kept hS.2.1).narrow hAB).moved hW.alike, ((y5.kept hS.2.1).narrow hAB).moved hW.alike⟩, ⟨((z6.kept hS.2.1).narrow hAB).moved hW.alike, ((y6.kept hS.2.1).narrow hAB).moved hW.alike⟩, ⟨((z7.kept hS.2.1).narrow hAB).moved hW.alike, ((y7.kept hS.2.1).narrow hAB).moved hW.alike⟩⟩, va_Nw.warmM hW n0, va_Nw.warmM hW n1, va_Nw.warmM hW n2, va_Nw.warmM hW n3, va_Nw.warmM hW n4, va_Nw.warmM hW n5, va_Nw.warmM hW n6, va_Nw.warmM hW n7, va_Nw.warmM hW n8, va_Nw.warmM hW n9⟩
theorem gG.blind {t : Nat → Nat} {A : Nat → Prop} {U : State} {g : JFrame} {mk : MethodId} {a : Array Value} (h : gG t A U U.heap) : gG t A (U.calling g mk a) (U.calling g mk a).heap := by
  obtain ⟨⟨⟨z0, y0⟩, ⟨z1, y1⟩, ⟨z2, y2⟩, ⟨z3, y3⟩, ⟨z4, y4⟩, ⟨z5, y5⟩, ⟨z6, y6⟩, ⟨z7, y7⟩⟩, n0, n1, n2, n3, n4, n5, n6, n7, n8, n9⟩ := h
  exact ⟨⟨⟨va_Z.moved (u := U) (U := U.calling g mk a) (Vm.Alike.refl U.vm) z0, va_T.moved (u := U) (U := U.calling g mk a) (Vm.Alike.refl U.vm) y0⟩, ⟨va_Z.moved (u := U) (U := U.calling g mk a) (Vm.Alike.refl U.vm) z1, va_T.moved (u := U) (U := U.calling g mk a) (Vm.Alike.refl U.vm) y1⟩, ⟨va_Z.moved (u := U) (U := U.calling g mk a) (Vm.Alike.refl U.vm) z2, va_T.moved (u := U) (U := U.calling g mk a) (Vm.Alike.refl U.vm) y2⟩, ⟨va_Z.moved (u := U) (U := U.calling g mk a) (Vm.Alike.refl U.vm) z3, va_T.moved (u := U) (U := U.calling g mk a) (Vm.Alike.refl U.vm) y3⟩, ⟨va_Z.moved (u := U) (U := U.calling g mk a) (Vm.Alike.refl U.vm) z4, va_T.moved (u := U) (U := U.calling g mk a) (Vm.Alike.refl U.vm) y4⟩, ⟨va_Z.moved (u := U) (U := U.calling g mk a) (Vm.Alike.refl U.vm) z5, va_T.moved (u := U) (U := U.calling g mk a) (Vm.Alike.refl U.vm) y5⟩, ⟨va_Z.moved (u := U) (U := U.calling g mk a) (Vm.Alike.refl U.vm) z6, va_T.moved (u := U) (U := U.calling g mk a) (Vm.Alike.refl U.vm) y6⟩, ⟨va_Z.moved (u := U) (U := U.calling g mk a) (Vm.Alike.refl U.vm) z7, va_T.moved (u := U) (U := U.calling g mk a) (Vm.Alike.refl U.vm) y7⟩⟩, va_Nw.same rfl rfl n0, va_Nw.same rfl rfl n1, va_Nw.same rfl rfl n2, va_Nw.same rfl rfl n3, va_Nw.same rfl rfl n4, va_Nw.same rfl rfl n5, va_Nw.same rfl rfl n6, va_Nw.same rfl rfl n7, va_Nw.same rfl rfl n8, va_Nw.same rfl rfl n9⟩
theorem gG.z0 {t : Nat → Nat} {A : Nat → Prop} {U : State} {H : Heap} (h : gG t A U H) : va_Z "WasItOut$Item" "LETTERS" "[C" (.ref (t 0)) A U H ∧ va_T .char (t 0) 8 (wv tb_Item_LETTERS) A U H := h.1.1
theorem gG.z1 {t : Nat → Nat} {A : Nat → Prop} {U : State} {H : Heap} (h : gG t A U H) : va_Z "WasItOut$Item" "AMOUNTS" "[I" (.ref (t 1)) A U H ∧ va_T .int (t 1) 8 (wv tb_Item_AMOUNTS) A U H := h.1.2.1
theorem gG.z2 {t : Nat → Nat} {A : Nat → Prop} {U : State} {H : Heap} (h : gG t A U H) : va_Z "WasItOut$Item" "FIRST_BOUNDS" "[I" (.ref (t 2)) A U H ∧ va_T .int (t 2) 8 (wv tb_Item_FIRST_BOUNDS) A U H := h.1.2.2.1
theorem gG.z3 {t : Nat → Nat} {A : Nat → Prop} {U : State} {H : Heap} (h : gG t A U H) : va_Z "WasItOut$Item" "LOWEST" "[I" (.ref (t 3)) A U H ∧ va_T .int (t 3) 11 (wv tb_Item_LOWEST) A U H := h.1.2.2.2.1
theorem gG.z4 {t : Nat → Nat} {A : Nat → Prop} {U : State} {H : Heap} (h : gG t A U H) : va_Z "WasItOut$Item" "HIGHEST" "[I" (.ref (t 4)) A U H ∧ va_T .int (t 4) 11 (wv tb_Item_HIGHEST) A U H := h.1.2.2.2.2.1
theorem gG.z5 {t : Nat → Nat} {A : Nat → Prop} {U : State} {H : Heap} (h : gG t A U H) : va_Z "WasItOut$Law" "WITHOUT" "[I" (.ref (t 5)) A U H ∧ va_T .int (t 5) 6 (wv tb_Law_WITHOUT) A U H := h.1.2.2.2.2.2.1
theorem gG.z6 {t : Nat → Nat} {A : Nat → Prop} {U : State} {H : Heap} (h : gG t A U H) : va_Z "WasItOut$World" "LOWEST" "[I" (.ref (t 6)) A U H ∧ va_T .int (t 6) 6 (wv tb_World_LOWEST) A U H := h.1.2.2.2.2.2.2.1
theorem gG.z7 {t : Nat → Nat} {A : Nat → Prop} {U : State} {H : Heap} (h : gG t A U H) : va_Z "WasItOut$World" "HIGHEST" "[I" (.ref (t 7)) A U H ∧ va_T .int (t 7) 6 (wv tb_World_HIGHEST) A U H := h.1.2.2.2.2.2.2.2
theorem gG.n0 {t : Nat → Nat} {A : Nat → Prop} {U : State} {H : Heap} (h : gG t A U H) : va_Nw (.methodLinkNest RX0 62 yX9_within RX9) U := h.2.1
theorem gG.n1 {t : Nat → Nat} {A : Nat → Prop} {U : State} {H : Heap} (h : gG t A U H) : va_Nw (.methodLinkNest RX3 52 yX9_within RX9) U := h.2.2.1
theorem gG.n2 {t : Nat → Nat} {A : Nat → Prop} {U : State} {H : Heap} (h : gG t A U H) : va_Nw (.methodLinkNest RX8 24 yX9_within RX9) U := h.2.2.2.1
theorem gG.n3 {t : Nat → Nat} {A : Nat → Prop} {U : State} {H : Heap} (h : gG t A U H) : va_Nw (.methodLinkNest RX5 21 yX3_init RX9) U := h.2.2.2.2.1
theorem gG.n4 {t : Nat → Nat} {A : Nat → Prop} {U : State} {H : Heap} (h : gG t A U H) : va_Nw (.methodLinkNest RX6 17 yX3_init RX9) U := h.2.2.2.2.2.1
theorem gG.n5 {t : Nat → Nat} {A : Nat → Prop} {U : State} {H : Heap} (h : gG t A U H) : va_Nw (.methodLinkNest RX9 9 yX6_init RX9) U := h.2.2.2.2.2.2.1
theorem gG.n6 {t : Nat → Nat} {A : Nat → Prop} {U : State} {H : Heap} (h : gG t A U H) : va_Nw (.methodLinkNest RX9 25 yX8_init RX9) U := h.2.2.2.2.2.2.2.1
theorem gG.n7 {t : Nat → Nat} {A : Nat → Prop} {U : State} {H : Heap} (h : gG t A U H) : va_Nw (.methodLinkNest RX9 60 yX4_init RX9) U := h.2.2.2.2.2.2.2.2.1
theorem gG.n8 {t : Nat → Nat} {A : Nat → Prop} {U : State} {H : Heap} (h : gG t A U H) : va_Nw (.methodLinkNest RX9 67 yX0_init RX9) U := h.2.2.2.2.2.2.2.2.2.1
theorem gG.n9 {t : Nat → Nat} {A : Nat → Prop} {U : State} {H : Heap} (h : gG t A U H) : va_Nw (.methodLinkNest RX9 74 yX1_init RX9) U := h.2.2.2.2.2.2.2.2.2.2
section WZ
variable {p : Program} {l : Launch} {e : Env} {R : Room} {s : State} {m : MethodId} {args : Array Value} {below : List Frame} {meth : Method} {c : Code} {H : Heap} {locs : List Loc} {cells slots : Nat} {Q : State → Prop} {pc : Nat} {ls : Array Slot} {rest st0 : List Value} {a : Array Value} {D : va_G} {cl : List vw_C} {ws : va_W} {A : Nat → Prop} {H0 : Heap} {tc : List (ClassId × FieldType)}
theorem wz_csi {r0 : Int32} (hr : va_Run p l e R s m args below meth c H locs cells slots 0 0 (F0 m pc ls st0) rest (vp_Si (fun r => r = r0) a) (fun _ => False)) (kk : W p l e R s m args below meth c H locs cells slots Q (F0 m (pc + 3) ls (.int r0 :: rest))) : W p l e R s m args below meth c H locs cells slots Q (F0 m pc ls st0) := vp_callSi hr.run (fun r h => by subst h; exact kk)
theorem wz_csl {r0 : Int64} (hr : va_Run p l e R s m args below meth c H locs cells slots 0 0 (F0 m pc ls st0) rest (vp_Sl (fun r => r = r0) a) (fun _ => False)) (kk : W p l e R s m args below meth c H locs cells slots Q (F0 m (pc + 3) ls (.long r0 :: rest))) : W p l e R s m args below meth c H locs cells slots Q (F0 m pc ls st0) := vp_callSl hr.run (fun r h => by subst h; exact kk)
theorem wz_csz {r0 : Int32} (hr : va_Run p l e R s m args below meth c H locs cells slots 0 0 (F0 m pc ls st0) rest (vp_Si (fun r => r = r0 ∧ narrow .boolean (.int r) = .int r) a) (fun _ => False)) (kk : narrow .boolean (.int r0) = .int r0 → W p l e R s m args below meth c H locs cells slots Q (F0 m (pc + 3) ls (.int r0 :: rest))) : W p l e R s m args below meth c H locs cells slots Q (F0 m pc ls st0) := vp_callSi hr.run (fun r h => by obtain ⟨h, h2⟩ := h; subst h; exact kk h2)
theorem wz_cqi {WC WR W1 : va_W} {r0 : Int32} (hr : va_Run p l e R s m args below meth c H locs cells slots 0 0 (F0 m pc ls st0) rest (va_Qi (fun r (_ : Unit) => r = r0) (fun (_ : Unit) t => va_P D cl W1 t.heap ∧ va_K D cl tc t ∧ va_D (va_A WC H.size) W1) (va_A WC H.size) a) (va_A WC H.size)) (hP : va_P D cl ws H) (hD : va_D A ws) (hS : va_S A H0 H locs) (hA : ∀ q, H0.size ≤ q → A q) (isC isR : List Nat) (hC : isC.map (fun i => ws[i]?) = WC.map some) (hR : isR.map (fun i => ws[i]?) = WR.map some) (hn : va_nd isR = true) (hdis : ∀ i ∈ isR, i ∉ isC)
    (kk : ∀ (H1 : Heap) (locs1 : List Loc), va_P D cl (WR ++ W1) H1 → va_D A (WR ++ W1) → va_S A H0 H1 locs1 → W p l e R s m args below meth c H1 locs1 cells slots Q (F0 m (pc + 3) ls (.int r0 :: rest))) : W p l e R s m args below meth c H locs cells slots Q (F0 m pc ls st0) := by
  have hF := va_free (wc := WC) hD hS hA isC hC
  refine va_calli hr hS (fun q _ h => hF q h) hF (fun r u t H1 locs1 ht hvm hw hB hz hk hS1 => ?_)
  obtain ⟨hP1, hK1, hD1⟩ := hB
  rw [ht] at hP1
  obtain ⟨hP2, hD2⟩ := va_join (wr := WR) (w1 := W1) hP hD isC isR hC hR hn hdis hk hF hP1 hD1
  subst hw
  exact kk H1 locs1 hP2 hD2 hS1
theorem wz_cqz {WC WR W1 : va_W} {r0 : Int32} (hr : va_Run p l e R s m args below meth c H locs cells slots 0 0 (F0 m pc ls st0) rest (va_Qi (fun r (_ : Unit) => r = r0 ∧ narrow .boolean (.int r) = .int r) (fun (_ : Unit) t => va_P D cl W1 t.heap ∧ va_K D cl tc t ∧ va_D (va_A WC H.size) W1) (va_A WC H.size) a) (va_A WC H.size)) (hP : va_P D cl ws H) (hD : va_D A ws) (hS : va_S A H0 H locs) (hA : ∀ q, H0.size ≤ q → A q) (isC isR : List Nat) (hC : isC.map (fun i => ws[i]?) = WC.map some) (hR : isR.map (fun i => ws[i]?) = WR.map some) (hn : va_nd isR = true) (hdis : ∀ i ∈ isR, i ∉ isC)
    (kk : ∀ (H1 : Heap) (locs1 : List Loc), va_P D cl (WR ++ W1) H1 → va_D A (WR ++ W1) → va_S A H0 H1 locs1 → narrow .boolean (.int r0) = .int r0 → W p l e R s m args below meth c H1 locs1 cells slots Q (F0 m (pc + 3) ls (.int r0 :: rest))) : W p l e R s m args below meth c H locs cells slots Q (F0 m pc ls st0) := by
  have hF := va_free (wc := WC) hD hS hA isC hC
  refine va_calli hr hS (fun q _ h => hF q h) hF (fun r u t H1 locs1 ht hvm hw hB hz hk hS1 => ?_)
  obtain ⟨hP1, hK1, hD1⟩ := hB
  rw [ht] at hP1
  obtain ⟨hP2, hD2⟩ := va_join (wr := WR) (w1 := W1) hP hD isC isR hC hR hn hdis hk hF hP1 hD1
  obtain ⟨hw, hw2⟩ := hw
  subst hw
  exact kk H1 locs1 hP2 hD2 hS1 hw2
theorem wz_cql {WC WR W1 : va_W} {r0 : Int64} (hr : va_Run p l e R s m args below meth c H locs cells slots 0 0 (F0 m pc ls st0) rest (va_Ql (fun r (_ : Unit) => r = r0) (fun (_ : Unit) t => va_P D cl W1 t.heap ∧ va_K D cl tc t ∧ va_D (va_A WC H.size) W1) (va_A WC H.size) a) (va_A WC H.size)) (hP : va_P D cl ws H) (hD : va_D A ws) (hS : va_S A H0 H locs) (hA : ∀ q, H0.size ≤ q → A q) (isC isR : List Nat) (hC : isC.map (fun i => ws[i]?) = WC.map some) (hR : isR.map (fun i => ws[i]?) = WR.map some) (hn : va_nd isR = true) (hdis : ∀ i ∈ isR, i ∉ isC)
    (kk : ∀ (H1 : Heap) (locs1 : List Loc), va_P D cl (WR ++ W1) H1 → va_D A (WR ++ W1) → va_S A H0 H1 locs1 → W p l e R s m args below meth c H1 locs1 cells slots Q (F0 m (pc + 3) ls (.long r0 :: rest))) : W p l e R s m args below meth c H locs cells slots Q (F0 m pc ls st0) := by
  have hF := va_free (wc := WC) hD hS hA isC hC
  refine va_calll hr hS (fun q _ h => hF q h) hF (fun r u t H1 locs1 ht hvm hw hB hz hk hS1 => ?_)
  obtain ⟨hP1, hK1, hD1⟩ := hB
  rw [ht] at hP1
  obtain ⟨hP2, hD2⟩ := va_join (wr := WR) (w1 := W1) hP hD isC isR hC hR hn hdis hk hF hP1 hD1
  subst hw
  exact kk H1 locs1 hP2 hD2 hS1
theorem wz_cqv {WC WR W1 : va_W} (hr : va_Run p l e R s m args below meth c H locs cells slots 0 0 (F0 m pc ls st0) rest (va_Qv (fun (_ : Unit) => True) (fun (_ : Unit) t => va_P D cl W1 t.heap ∧ va_K D cl tc t ∧ va_D (va_A WC H.size) W1) (va_A WC H.size) a) (va_A WC H.size)) (hP : va_P D cl ws H) (hD : va_D A ws) (hS : va_S A H0 H locs) (hA : ∀ q, H0.size ≤ q → A q) (isC isR : List Nat) (hC : isC.map (fun i => ws[i]?) = WC.map some) (hR : isR.map (fun i => ws[i]?) = WR.map some) (hn : va_nd isR = true) (hdis : ∀ i ∈ isR, i ∉ isC)
    (kk : ∀ (H1 : Heap) (locs1 : List Loc), va_P D cl (WR ++ W1) H1 → va_D A (WR ++ W1) → va_S A H0 H1 locs1 → W p l e R s m args below meth c H1 locs1 cells slots Q (F0 m (pc + 3) ls (rest))) : W p l e R s m args below meth c H locs cells slots Q (F0 m pc ls st0) := by
  have hF := va_free (wc := WC) hD hS hA isC hC
  refine va_callv hr hS (fun q _ h => hF q h) hF (fun u t H1 locs1 ht hvm hw hB hz hk hS1 => ?_)
  obtain ⟨hP1, hK1, hD1⟩ := hB
  rw [ht] at hP1
  obtain ⟨hP2, hD2⟩ := va_join (wr := WR) (w1 := W1) hP hD isC isR hC hR hn hdis hk hF hP1 hD1
  skip
  exact kk H1 locs1 hP2 hD2 hS1
theorem wz_pVr {C : String} {b : Addr} {As : List Value} (hP : va_P D cl ws H) (hK : va_K D cl tc s) (hrc : ∃ cellB : Cell, H[b]? = some cellB ∧ cellB.vm.isStatics = false ∧ s.vm.findClass C = some cellB.cls)  : PreV s H C b (va_Pc (.ref b :: As) (fun U => va_P D cl ws U.heap ∧ va_K D cl tc U)) As := ⟨fun a U g mk q => by obtain ⟨q0, qP, qK⟩ := q; exact ⟨q0, qP, va_K.moved (u := U) (U := U.calling g mk a) (Vm.Alike.refl U.vm) qK⟩, hrc, fun U hU hW => ⟨rfl, by rw [hU]; exact hP, va_K.moved hW.alike hK⟩⟩
theorem wz_pVrG {C : String} {b : Addr} {As : List Value} {t : Nat → Nat} {A0 : Nat → Prop} (hP : va_P D cl ws H) (hK : va_K D cl tc s) (hG : gG t A0 s s.heap) (hS : va_S A0 s.heap H locs) (hrc : ∃ cellB : Cell, H[b]? = some cellB ∧ cellB.vm.isStatics = false ∧ s.vm.findClass C = some cellB.cls)  : PreV s H C b (va_Pc (.ref b :: As) (fun U => va_P D cl ws U.heap ∧ va_K D cl tc U ∧ gG t (fun _ => False) U U.heap)) As := ⟨fun a U g mk q => by obtain ⟨q0, qP, qK, qG⟩ := q; exact ⟨q0, qP, va_K.moved (u := U) (U := U.calling g mk a) (Vm.Alike.refl U.vm) qK, qG.blind⟩, hrc, fun U hU hW => ⟨rfl, by rw [hU]; exact hP, va_K.moved hW.alike hK, hG.call hS (fun _ h => h.elim) hU hW⟩⟩
theorem wz_pVw {C : String} {b : Addr} {As : List Value} {WC : va_W} (hP : va_P D cl WC H) (hK : va_K D cl tc s) (hD : va_D A WC) (hrc : ∃ cellB : Cell, H[b]? = some cellB ∧ cellB.vm.isStatics = false ∧ s.vm.findClass C = some cellB.cls)  : PreV s H C b (va_Pc (.ref b :: As) (fun U => U.heap.size = H.size ∧ va_P D cl WC U.heap ∧ va_K D cl tc U ∧ va_D (fun _ => True) WC)) As := ⟨fun a U g mk q => by obtain ⟨q0, q1, qP, qK, qD⟩ := q; exact ⟨q0, q1, qP, va_K.moved (u := U) (U := U.calling g mk a) (Vm.Alike.refl U.vm) qK, qD⟩, hrc, fun U hU hW => ⟨rfl, by rw [hU], by rw [hU]; exact hP, va_K.moved hW.alike hK, hD.weaken (fun _ _ _ _ => trivial)⟩⟩
theorem wz_pVwG {C : String} {b : Addr} {As : List Value} {WC : va_W} {t : Nat → Nat} {A0 : Nat → Prop} (hP : va_P D cl WC H) (hK : va_K D cl tc s) (hD : va_D A WC) (hG : gG t A0 s s.heap) (hS : va_S A0 s.heap H locs) (hF : ∀ q, va_A WC H.size q → A0 q) (hrc : ∃ cellB : Cell, H[b]? = some cellB ∧ cellB.vm.isStatics = false ∧ s.vm.findClass C = some cellB.cls)  : PreV s H C b (va_Pc (.ref b :: As) (fun U => U.heap.size = H.size ∧ va_P D cl WC U.heap ∧ va_K D cl tc U ∧ va_D (fun _ => True) WC ∧ gG t (va_A WC H.size) U U.heap)) As := ⟨fun a U g mk q => by obtain ⟨q0, q1, qP, qK, qD, qG⟩ := q; exact ⟨q0, q1, qP, va_K.moved (u := U) (U := U.calling g mk a) (Vm.Alike.refl U.vm) qK, qD, qG.blind⟩, hrc, fun U hU hW => ⟨rfl, by rw [hU], by rw [hU]; exact hP, va_K.moved hW.alike hK, hD.weaken (fun _ _ _ _ => trivial), hG.call hS hF hU hW⟩⟩
theorem wz_pSr {As : List Value} (hP : va_P D cl ws H) (hK : va_K D cl tc s)  : PreS s H (va_Pc As (fun U => va_P D cl ws U.heap ∧ va_K D cl tc U)) As := ⟨fun a U g mk q => by obtain ⟨q0, qP, qK⟩ := q; exact ⟨q0, qP, va_K.moved (u := U) (U := U.calling g mk a) (Vm.Alike.refl U.vm) qK⟩, fun U hU hW => ⟨rfl, by rw [hU]; exact hP, va_K.moved hW.alike hK⟩⟩
theorem wz_pSrG {As : List Value} {t : Nat → Nat} {A0 : Nat → Prop} (hP : va_P D cl ws H) (hK : va_K D cl tc s) (hG : gG t A0 s s.heap) (hS : va_S A0 s.heap H locs)  : PreS s H (va_Pc As (fun U => va_P D cl ws U.heap ∧ va_K D cl tc U ∧ gG t (fun _ => False) U U.heap)) As := ⟨fun a U g mk q => by obtain ⟨q0, qP, qK, qG⟩ := q; exact ⟨q0, qP, va_K.moved (u := U) (U := U.calling g mk a) (Vm.Alike.refl U.vm) qK, qG.blind⟩, fun U hU hW => ⟨rfl, by rw [hU]; exact hP, va_K.moved hW.alike hK, hG.call hS (fun _ h => h.elim) hU hW⟩⟩
theorem wz_pSw {As : List Value} {WC : va_W} (hP : va_P D cl WC H) (hK : va_K D cl tc s) (hD : va_D A WC)  : PreS s H (va_Pc As (fun U => U.heap.size = H.size ∧ va_P D cl WC U.heap ∧ va_K D cl tc U ∧ va_D (fun _ => True) WC)) As := ⟨fun a U g mk q => by obtain ⟨q0, q1, qP, qK, qD⟩ := q; exact ⟨q0, q1, qP, va_K.moved (u := U) (U := U.calling g mk a) (Vm.Alike.refl U.vm) qK, qD⟩, fun U hU hW => ⟨rfl, by rw [hU], by rw [hU]; exact hP, va_K.moved hW.alike hK, hD.weaken (fun _ _ _ _ => trivial)⟩⟩
theorem wz_pSwG {As : List Value} {WC : va_W} {t : Nat → Nat} {A0 : Nat → Prop} (hP : va_P D cl WC H) (hK : va_K D cl tc s) (hD : va_D A WC) (hG : gG t A0 s s.heap) (hS : va_S A0 s.heap H locs) (hF : ∀ q, va_A WC H.size q → A0 q)  : PreS s H (va_Pc As (fun U => U.heap.size = H.size ∧ va_P D cl WC U.heap ∧ va_K D cl tc U ∧ va_D (fun _ => True) WC ∧ gG t (va_A WC H.size) U U.heap)) As := ⟨fun a U g mk q => by obtain ⟨q0, q1, qP, qK, qD, qG⟩ := q; exact ⟨q0, q1, qP, va_K.moved (u := U) (U := U.calling g mk a) (Vm.Alike.refl U.vm) qK, qD, qG.blind⟩, fun U hU hW => ⟨rfl, by rw [hU], by rw [hU]; exact hP, va_K.moved hW.alike hK, hD.weaken (fun _ _ _ _ => trivial), hG.call hS hF hU hW⟩⟩
end WZ
theorem sw_2 {x : Int32} (h0 : ¬ x = 0) (h1 : ¬ x = 1) : x.toInt < 0 ∨ 1 < x.toInt := by
  rcases Int.lt_or_ge x.toInt 0 with q | q
  · exact Or.inl q
  · rcases Int.lt_or_ge 1 x.toInt with q2 | q2
    · exact Or.inr q2
    · exfalso
      have e0 : ¬ x.toInt = 0 := fun e => h0 (Int32.toInt_inj.mp (by rw [e]; rfl))
      have e1 : ¬ x.toInt = 1 := fun e => h1 (Int32.toInt_inj.mp (by rw [e]; rfl))
      omega
theorem sw_3 {x : Int32} (h0 : ¬ x = 0) (h1 : ¬ x = 1) (h2 : ¬ x = 2) : x.toInt < 0 ∨ 2 < x.toInt := by
  rcases Int.lt_or_ge x.toInt 0 with q | q
  · exact Or.inl q
  · rcases Int.lt_or_ge 2 x.toInt with q2 | q2
    · exact Or.inr q2
    · exfalso
      have e0 : ¬ x.toInt = 0 := fun e => h0 (Int32.toInt_inj.mp (by rw [e]; rfl))
      have e1 : ¬ x.toInt = 1 := fun e => h1 (Int32.toInt_inj.mp (by rw [e]; rfl))
      have e2 : ¬ x.toInt = 2 := fun e => h2 (Int32.toInt_inj.mp (by rw [e]; rfl))
      omega
theorem sw_4 {x : Int32} (h0 : ¬ x = 0) (h1 : ¬ x = 1) (h2 : ¬ x = 2) (h3 : ¬ x = 3) : x.toInt < 0 ∨ 3 < x.toInt := by
  rcases Int.lt_or_ge x.toInt 0 with q | q
  · exact Or.inl q
  · rcases Int.lt_or_ge 3 x.toInt with q2 | q2
    · exact Or.inr q2
    · exfalso
      have e0 : ¬ x.toInt = 0 := fun e => h0 (Int32.toInt_inj.mp (by rw [e]; rfl))
      have e1 : ¬ x.toInt = 1 := fun e => h1 (Int32.toInt_inj.mp (by rw [e]; rfl))
      have e2 : ¬ x.toInt = 2 := fun e => h2 (Int32.toInt_inj.mp (by rw [e]; rfl))
      have e3 : ¬ x.toInt = 3 := fun e => h3 (Int32.toInt_inj.mp (by rw [e]; rfl))
      omega
theorem sw_5 {x : Int32} (h0 : ¬ x = 0) (h1 : ¬ x = 1) (h2 : ¬ x = 2) (h3 : ¬ x = 3) (h4 : ¬ x = 4) : x.toInt < 0 ∨ 4 < x.toInt := by
  rcases Int.lt_or_ge x.toInt 0 with q | q
  · exact Or.inl q
  · rcases Int.lt_or_ge 4 x.toInt with q2 | q2
    · exact Or.inr q2
    · exfalso
      have e0 : ¬ x.toInt = 0 := fun e => h0 (Int32.toInt_inj.mp (by rw [e]; rfl))
      have e1 : ¬ x.toInt = 1 := fun e => h1 (Int32.toInt_inj.mp (by rw [e]; rfl))
      have e2 : ¬ x.toInt = 2 := fun e => h2 (Int32.toInt_inj.mp (by rw [e]; rfl))
      have e3 : ¬ x.toInt = 3 := fun e => h3 (Int32.toInt_inj.mp (by rw [e]; rfl))
      have e4 : ¬ x.toInt = 4 := fun e => h4 (Int32.toInt_inj.mp (by rw [e]; rfl))
      omega
theorem sw_6 {x : Int32} (h0 : ¬ x = 0) (h1 : ¬ x = 1) (h2 : ¬ x = 2) (h3 : ¬ x = 3) (h4 : ¬ x = 4) (h5 : ¬ x = 5) : x.toInt < 0 ∨ 5 < x.toInt := by
  rcases Int.lt_or_ge x.toInt 0 with q | q
  · exact Or.inl q
  · rcases Int.lt_or_ge 5 x.toInt with q2 | q2
    · exact Or.inr q2
    · exfalso
      have e0 : ¬ x.toInt = 0 := fun e => h0 (Int32.toInt_inj.mp (by rw [e]; rfl))
      have e1 : ¬ x.toInt = 1 := fun e => h1 (Int32.toInt_inj.mp (by rw [e]; rfl))
      have e2 : ¬ x.toInt = 2 := fun e => h2 (Int32.toInt_inj.mp (by rw [e]; rfl))
      have e3 : ¬ x.toInt = 3 := fun e => h3 (Int32.toInt_inj.mp (by rw [e]; rfl))
      have e4 : ¬ x.toInt = 4 := fun e => h4 (Int32.toInt_inj.mp (by rw [e]; rfl))
      have e5 : ¬ x.toInt = 5 := fun e => h5 (Int32.toInt_inj.mp (by rw [e]; rfl))
      omega
