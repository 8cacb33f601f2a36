/-! THE CLAIM OUT OF ONE WALK OF THE LAW'S BODY. Your part is whole_start (and what it stands on); all else here is the same for every law, but numbers. -/
def R_law : String := "WasItOutLaw"
def lw_P (b : Addr) (xs : List Int32) (args : Array Value) (s : State) : Prop := args = #[.ref b] ∧ s.IntsAt b xs ∧ xs.length ≤ 3072 ∧ (Jvm.Cond.and given_1 narrow_1).before args s = true
def lw_Q (_ : Array Value) (s : State) (o : Outcome) (t : State) : Prop := o = .returned (some (.int 1)) ∧ Framed s o t [] 65 10703
def lw_Z (below : List Frame) (a : Array Value) (s : State) : State → Prop := fun t => ∃ o, t.status = .running ∧ Ended t below o ∧ lw_Q a s o t
/-- the law's own end, with 1 on the stack, nothing written that was there before, its room as the claim has it -/
theorem lw_ret {p : Program} {l : Launch} {e : Env} {s : State} {m : MethodId} {below : List Frame} {meth : Method} {c : Code} {b : Nat} (hx : p.tables.exec = Jvm.exec) (hb : c.code = code) (hr : meth.sig.returnType = ret) (hlocks : meth.locks = false) {pc : Nat} {H : Heap} {ls : Array Slot} (hdg : decode code pc = .ok (.ireturn, 1)) : W p l e room_1 s m #[Value.ref b] below meth c H [] 65 10703 (lw_Z below #[Value.ref b] s) (F0 m pc ls [.int 1]) := by
  intro T hT X
  obtain ⟨fs, hret, hrun, hended, hW, hframe⟩ := X.leave (v := some (.int 1)) (hlocks := hlocks) (fun h => by rw [hr] at h; cases h)
  have hmeth' : T.vm.method? m = some meth := X.method'
  refine ⟨T.setFrames fs, ?_, .returned (some (.int 1)), hrun, hended, rfl, ⟨_, rfl⟩, hW, hframe⟩
  jvm_step X.here [X.here.top, hx, hb, hdg, hmeth', hr, ret, narrow_b1]
  (try refine ⟨rfl, ?_⟩); (try refine ⟨rfl, ?_⟩)
  first | (intro acts; rw [hret _ acts rfl rfl rfl]) | rw [hret _ _ rfl rfl rfl]
  exact Steps.refl _
/-- what holds at the law's entry: the machine, the code, the tables' words (any of lw_tbl by 'hts w (by decide +kernel)'), the script of L ints xs at the cell b, what the Statement gives of the start (any of its parts by flat_of_before) -/
def lw_At (p : Program) (s : State) (m : MethodId) (meth : Method) (c : Code) (b L : Nat) (xs : Nat → Int32) : Prop :=
  p.tables.exec = Jvm.exec ∧ c.code = code ∧ meth.sig.returnType = ret ∧ c.maxLocals = 4 ∧ s.vm.findClass R_law = some m.cls ∧ (∀ w ∈ lw_tbl, w.before #[Value.ref b] s = true) ∧ va_X b L xs s s.heap ∧ b < s.heap.size ∧ meth.locks = false ∧ (Jvm.Cond.and given_1 narrow_1).before #[Value.ref b] s = true
/-! worlds in two pieces: what a call takes, and the rest, whatever it is -/
section WA
variable {D : va_G} {cl : List vw_C} {a b : va_W} {H : Heap} {A : Nat → Prop}
theorem wz_gl {k : Nat} {q : Nat × va_E} (hk : a[k]? = some q) : (a ++ b)[k]? = some q := by
  rw [List.getElem?_append_left (List.getElem?_eq_some_iff.mp hk).1]; exact hk
theorem wz_gr {k : Nat} {q : Nat × va_E} (hk : b[k]? = some q) : (a ++ b)[a.length + k]? = some q := by
  rw [List.getElem?_append_right (Nat.le_add_right _ _), Nat.add_sub_cancel_left]; exact hk
theorem wz_left (h : va_P D cl (a ++ b) H) : va_P D cl a H := fun k q hk => h k q (wz_gl hk)
theorem wz_right (h : va_P D cl (a ++ b) H) : va_P D cl b H := fun k q hk => h (a.length + k) q (wz_gr hk)
theorem wz_rotP (h : va_P D cl (a ++ b) H) : va_P D cl (b ++ a) H := va_P.app (wz_right h) (wz_left h)
theorem wz_leftD (h : va_D A (a ++ b)) : va_D A a := ⟨fun i j p q hi hj e => h.1 i j p q (wz_gl hi) (wz_gl hj) e, fun k q hk => h.2 k q (wz_gl hk)⟩
theorem wz_rightD (h : va_D A (a ++ b)) : va_D A b := ⟨fun i j p q hi hj e => by
  have := h.1 (a.length + i) (a.length + j) p q (wz_gr hi) (wz_gr hj) e
  omega, fun k q hk => h.2 (a.length + k) q (wz_gr hk)⟩
theorem wz_apart (h : va_D A (a ++ b)) {i j : Nat} {p q : Nat × va_E} (hp : b[i]? = some p) (hq : a[j]? = some q) : p.1 ≠ q.1 := fun e => by
  have h1 := h.1 (a.length + i) j p q (wz_gr hp) (wz_gl hq) e
  have h2 := (List.getElem?_eq_some_iff.mp hq).1
  omega
theorem wz_rotD (h : va_D A (a ++ b)) : va_D A (b ++ a) := va_D.app (wz_rightD h) (wz_leftD h) (fun _ _ _ _ hp hq => wz_apart h hp hq)
theorem wz_freeA {H0 : Heap} {locs : List Loc} (hD : va_D A (a ++ b)) (hS : va_S A H0 H locs) (hA : ∀ q, H0.size ≤ q → A q) : ∀ q, va_A a H.size q → A q := by
  intro q h
  rcases h with ⟨k, e, h⟩ | h
  · exact hD.2 k (q, e) (wz_gl h)
  · exact hA q (Nat.le_trans hS.1 h)
theorem wz_joinA {w1 : va_W} {H1 : Heap} (hP : va_P D cl (a ++ b) H) (hD : va_D A (a ++ b)) (hk : ∀ q : Nat, q < H.size → ¬ va_A a H.size q → H1[q]? = H[q]?) (hF : ∀ q, va_A a H.size q → A q) (hP1 : va_P D cl w1 H1) (hD1 : va_D (va_A a H.size) w1) : va_P D cl (b ++ w1) H1 ∧ va_D A (b ++ w1) := by
  have apart : ∀ (k : Nat) (q : Nat × va_E), b[k]? = some q → q.1 < H.size ∧ ¬ va_A a H.size q.1 := by
    intro k q hq
    have hl := (hP (a.length + k) q (wz_gr hq)).lt
    refine ⟨hl, fun h => ?_⟩
    rcases h with ⟨k2, e, h⟩ | h
    · exact wz_apart hD hq h rfl
    · omega
  refine ⟨va_P.app (fun k q hq => ?_) hP1, va_D.app (wz_rightD hD) (hD1.weaken (fun k q _ h => hF q.1 h)) (fun i j x y hx hy hxy => ?_)⟩
  · obtain ⟨g1, g2⟩ := apart k q hq
    exact (hP (a.length + k) q (wz_gr hq)).kept (hk q.1 g1 g2)
  · exact (apart i x hx).2 (by rw [hxy]; exact hD1.2 j y hy)
end WA
section WB
variable {p : Program} {l : Launch} {e : Env} {R : Room} {s : State} {m : MethodId} {args : Array Value} {below : List Frame} {meth : Method} {c : Code} {H : Heap} {locs : List Loc} {cells slots : Nat} {Q : State → Prop} {pc : Nat} {ls : Array Slot} {rest st0 : List Value} {a : Array Value} {D : va_G} {cl : List vw_C} {A : Nat → Prop} {H0 : Heap} {tc : List (ClassId × FieldType)} {WC W1 R0 : va_W}
theorem wz_aqi {r0 : Int32} (hr : va_Run p l e R s m args below meth c H locs cells slots 0 0 (F0 m pc ls st0) rest (va_Qi (fun r (_ : Unit) => r = r0) (fun (_ : Unit) t => va_P D cl W1 t.heap ∧ va_K D cl tc t ∧ va_D (va_A WC H.size) W1) (va_A WC H.size) a) (va_A WC H.size)) (hP : va_P D cl (WC ++ R0) H) (hD : va_D A (WC ++ R0)) (hS : va_S A H0 H locs) (hA : ∀ q, H0.size ≤ q → A q)
    (kk : ∀ (H1 : Heap) (locs1 : List Loc), va_P D cl (R0 ++ W1) H1 → va_D A (R0 ++ W1) → va_S A H0 H1 locs1 → W p l e R s m args below meth c H1 locs1 cells slots Q (F0 m (pc + 3) ls (.int r0 :: rest))) : W p l e R s m args below meth c H locs cells slots Q (F0 m pc ls st0) := by
  have hF := wz_freeA hD hS hA
  refine va_calli hr hS (fun q _ h => hF q h) hF (fun r u t H1 locs1 ht hvm hw hB hz hk hS1 => ?_)
  obtain ⟨hP1, hK1, hD1⟩ := hB
  rw [ht] at hP1
  obtain ⟨hP2, hD2⟩ := wz_joinA hP hD hk hF hP1 hD1
  subst hw
  exact kk H1 locs1 hP2 hD2 hS1
theorem wz_aql {r0 : Int64} (hr : va_Run p l e R s m args below meth c H locs cells slots 0 0 (F0 m pc ls st0) rest (va_Ql (fun r (_ : Unit) => r = r0) (fun (_ : Unit) t => va_P D cl W1 t.heap ∧ va_K D cl tc t ∧ va_D (va_A WC H.size) W1) (va_A WC H.size) a) (va_A WC H.size)) (hP : va_P D cl (WC ++ R0) H) (hD : va_D A (WC ++ R0)) (hS : va_S A H0 H locs) (hA : ∀ q, H0.size ≤ q → A q)
    (kk : ∀ (H1 : Heap) (locs1 : List Loc), va_P D cl (R0 ++ W1) H1 → va_D A (R0 ++ W1) → va_S A H0 H1 locs1 → W p l e R s m args below meth c H1 locs1 cells slots Q (F0 m (pc + 3) ls (.long r0 :: rest))) : W p l e R s m args below meth c H locs cells slots Q (F0 m pc ls st0) := by
  have hF := wz_freeA hD hS hA
  refine va_calll hr hS (fun q _ h => hF q h) hF (fun r u t H1 locs1 ht hvm hw hB hz hk hS1 => ?_)
  obtain ⟨hP1, hK1, hD1⟩ := hB
  rw [ht] at hP1
  obtain ⟨hP2, hD2⟩ := wz_joinA hP hD hk hF hP1 hD1
  subst hw
  exact kk H1 locs1 hP2 hD2 hS1
end WB
