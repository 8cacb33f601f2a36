/-! the judge -/
def jdB (by_ sa si : Nat → Int32) (side l : Int32) (j : Nat) : Bool := decide (si j = side) && !decide (sa j = if by_ j ≤ l then 0 else 1)
theorem un_def (N a : Nat) (ha : a ≤ 60) (hN : 60 < N) (side l : Int32) (by_ sa si : Nat → Int32) : fX4_unlike N side l (nI a) by_ sa si = some (nI (fb_ct (jdB by_ sa si side l) a)) := by
  unfold fX4_unlike jn
  have h := loopF (fun n x i => fX4_unlike_p5 N side l (nI a) by_ sa si (fun x3 => some x3) n x (nI i)) (fun x => some x) (fun i x => x + (if jdB by_ sa si side l i then 1 else 0 : Int32)) a
    (fun n x => by
      show fX4_unlike_p5 N side l (nI a) by_ sa si (fun x3 => some x3) (n + 1) x (nI a) = some x
      rw [fX4_unlike_p5, if_pos (nI_le (Nat.le_refl a) (by omega))])
    (fun n x i hi => by
      show fX4_unlike_p5 N side l (nI a) by_ sa si (fun x3 => some x3) (n + 1) x (nI i) = fX4_unlike_p5 N side l (nI a) by_ sa si (fun x3 => some x3) n (x + (if jdB by_ sa si side l i then 1 else 0 : Int32)) (nI (i + 1))
      rw [fX4_unlike_p5, if_neg (nI_ge hi (by omega)), if_neg (show ¬ (60 : Int32) ≤ nI i from nI_ge (b := 60) (by omega) (by decide)), if_pos (ixb_nI (by omega) (by decide))]
      simp only [jn, ixb_nI (show i < 60 by omega) (by decide), if_true, nI_clamp (show i < 2 ^ 31 by omega), nI_1]
      unfold jdB
      by_cases h1 : si i = side <;> by_cases h2 : by_ i ≤ l <;> by_cases h3 : sa i = 0 <;> by_cases h4 : sa i = 1 <;> simp [h1, h2, h3, h4])
    N 0 0 (Nat.zero_le a) (by omega)
  rw [Nat.sub_zero] at h
  have e := itF_cnt (jdB by_ sa si side l) a 0
  rw [Nat.zero_add] at e
  exact h.trans (congrArg some e)
theorem no_def (N a : Nat) (ha : a ≤ 60) (hN : 60 < N) (side l : Int32) (cs : Nat → Int32) : fX10_notSo N side l (nI a) cs = some (nI (fb_ct (jdB (fun j => cs (3 * j)) (fun j => cs (3 * j + 2)) (fun j => cs (3 * j + 1)) side l) a)) := by
  unfold fX10_notSo jn
  have h := loopF (fun n x i => fX10_notSo_p5 N side l (nI a) cs (fun x3 => some x3) n x (nI i)) (fun x => some x) (fun i x => x + (if jdB (fun j => cs (3 * j)) (fun j => cs (3 * j + 2)) (fun j => cs (3 * j + 1)) side l i then 1 else 0 : Int32)) a
    (fun n x => by
      show fX10_notSo_p5 N side l (nI a) cs (fun x3 => some x3) (n + 1) x (nI a) = some x
      rw [fX10_notSo_p5, if_pos (nI_le (Nat.le_refl a) (by omega))])
    (fun n x i hi => by
      show fX10_notSo_p5 N side l (nI a) cs (fun x3 => some x3) (n + 1) x (nI i) = fX10_notSo_p5 N side l (nI a) cs (fun x3 => some x3) n (x + (if jdB (fun j => cs (3 * j)) (fun j => cs (3 * j + 2)) (fun j => cs (3 * j + 1)) side l i then 1 else 0 : Int32)) (nI (i + 1))
      have e0 : (3 : Int32) * nI i = nI (3 * i) := pk_mul 3 i
      have e1 : nI (3 * i) + (1 : Int32) = nI (3 * i + 1) := nI_add _ 1
      have e2 : nI (3 * i) + (2 : Int32) = nI (3 * i + 2) := nI_add _ 2
      rw [fX10_notSo_p5, if_neg (nI_ge hi (by omega))]
      simp only [jn, e0, e1, e2, ixb_nI (show 3 * i < 180 by omega) (by decide), ixb_nI (show 3 * i + 1 < 180 by omega) (by decide), ixb_nI (show 3 * i + 2 < 180 by omega) (by decide), if_true, nI_clamp (show 3 * i < 2 ^ 31 by omega), nI_clamp (show 3 * i + 1 < 2 ^ 31 by omega), nI_clamp (show 3 * i + 2 < 2 ^ 31 by omega), nI_1]
      unfold jdB
      by_cases h1 : cs (3 * i + 1) = side <;> by_cases h2 : cs (3 * i) ≤ l <;> by_cases h3 : cs (3 * i + 2) = 0 <;> by_cases h4 : cs (3 * i + 2) = 1 <;> simp [h1, h2, h3, h4])
    N 0 0 (Nat.zero_le a) (by omega)
  rw [Nat.sub_zero] at h
  have e := itF_cnt (jdB (fun j => cs (3 * j)) (fun j => cs (3 * j + 2)) (fun j => cs (3 * j + 1)) side l) a 0
  rw [Nat.zero_add] at e
  exact h.trans (congrArg some e)
/-! the lean: the least of a key -/
def rk (l : Int) : Int := if l < 0 then -2 * l - 1 else 2 * l
def ky (U : Int → Nat) (l : Int) : Int := 64 * (U l : Int) + rk l
theorem ky_one {U : Int → Nat} {b c : Int} (hb : -20 ≤ b ∧ b ≤ 20) (hc : -20 ≤ c ∧ c ≤ 20) (h1 : ky U b ≤ ky U c) (h2 : ky U c ≤ ky U b) : b = c := by
  unfold ky rk at h1 h2
  split at h1 <;> split at h1 <;> simp_all <;> omega
def stL (U : Int → Nat) (far : Nat) (b : Int) : Int := if U far < U (if U (-(far : Int)) < U b then -(far : Int) else b) then (far : Int) else (if U (-(far : Int)) < U b then -(far : Int) else b)
theorem nI_of_int (n : Nat) : nI n = Int32.ofInt (n : Int) := by
  unfold nI; exact (Int32.ofInt_eq_ofNat ..).symm
theorem nI_neg {n : Nat} (h : n < 2 ^ 31) : -(nI n) = Int32.ofInt (-(n : Int)) := by
  rw [fa_eq, sb_negT h, fb_ofI (by omega) (by omega)]
theorem lean_c (N a : Nat) (ha : a ≤ 60) (hN : 60 < N) (side : Int32) (by_ sa si : Nat → Int32) (U : Int → Nat) (hU : ∀ l : Int, U l = fb_ct (jdB by_ sa si side (Int32.ofInt l)) a) : ∃ b : Int, (-20 ≤ b ∧ b ≤ 20) ∧ (∀ l : Int, -20 ≤ l → l ≤ 20 → ky U b ≤ ky U l) ∧ fX4_leaning N side (nI a) by_ sa si = some (Int32.ofInt b) := by
  have hun : ∀ l : Int, fX4_unlike N side (Int32.ofInt l) (nI a) by_ sa si = some (nI (U l)) := fun l => by rw [un_def N a ha hN, hU]
  have hb : ∀ l : Int, U l < 2 ^ 31 := fun l => by
    have := fb_ct_le (jdB by_ sa si side (Int32.ofInt l)) a
    rw [hU]; omega
  have h := loopI (fun n (x : Int) i => fX4_leaning_p12 N side (nI a) by_ sa si (fun x2 => some x2) n (Int32.ofInt x) (nI (U x)) (nI i)) (fun x => some (Int32.ofInt x)) (stL U)
    (fun i x => (1 ≤ i) ∧ (-(i : Int) < x ∧ x < i) ∧ ∀ l : Int, -(i : Int) < l → l < i → ky U x ≤ ky U l) 21
    (fun n x _ => by
      show fX4_leaning_p12 N side (nI a) by_ sa si (fun x2 => some x2) (n + 1) (Int32.ofInt x) (nI (U x)) (nI 21) = some (Int32.ofInt x)
      rw [fX4_leaning_p12, if_pos (show (20 : Int32) < nI 21 by decide)])
    (fun n x i hi hI => by
      show fX4_leaning_p12 N side (nI a) by_ sa si (fun x2 => some x2) (n + 1) (Int32.ofInt x) (nI (U x)) (nI i) = fX4_leaning_p12 N side (nI a) by_ sa si (fun x2 => some x2) n (Int32.ofInt (stL U i x)) (nI (U (stL U i x))) (nI (i + 1))
      rw [fX4_leaning_p12, if_neg (show ¬ (20 : Int32) < nI i from nI_nlt (a := 20) (b := i) (by omega) (by decide))]
      rw [nI_neg (show i < 2 ^ 31 by omega), nI_of_int i, hun, Option.bind_some]
      simp only [jn, hun, Option.bind_some, nI_leI (hb _) (hb _)]
      unfold stL
      by_cases c1 : U (-(i : Int)) < U x
      · have c1' : ¬ U x ≤ U (-(i : Int)) := by omega
        by_cases c2 : U i < U (-(i : Int))
        · have c2' : ¬ U (-(i : Int)) ≤ U i := by omega
          simp [c1, c1', c2, c2', ← nI_of_int, nI_1]
        · have c2' : U (-(i : Int)) ≤ U i := by omega
          simp [c1, c1', c2, c2', ← nI_of_int, nI_1]
      · have c1' : U x ≤ U (-(i : Int)) := by omega
        by_cases c2 : U i < U x
        · have c2' : ¬ U x ≤ U i := by omega
          simp [c1, c1', c2, c2', ← nI_of_int, nI_1]
        · have c2' : U x ≤ U i := by omega
          simp [c1, c1', c2, c2', ← nI_of_int, nI_1])
    (fun x i hi hI => by
      obtain ⟨h1, ⟨h2, h3⟩, h4⟩ := hI
      refine ⟨by omega, ?_, ?_⟩
      · unfold stL; split <;> (try split) <;> omega
      · intro l l1 l2
        have hm := fun q1 q2 => h4 l q1 q2
        have key : ∀ z : Int, ky U z = 64 * (U z : Int) + rk z := fun _ => rfl
        have hx0 := h4 x h2 h3
        unfold stL
        by_cases c1 : U (-(i : Int)) < U x <;> by_cases c2 : U (i : Int) < U (-(i : Int)) <;> by_cases c3 : U (i : Int) < U x <;> simp only [c1, c2, c3, if_true, if_false] <;> (
          rcases (show l = i ∨ l = -(i : Int) ∨ (-(i : Int) < l ∧ l < i) by omega) with q | q | ⟨q1, q2⟩
          · subst q; simp only [key, rk]; (repeat' split) <;> omega
          · subst q; simp only [key, rk]; (repeat' split) <;> omega
          · have hm := hm q1 q2
            simp only [key, rk] at hm ⊢
            revert hm; (repeat' split) <;> intros <;> omega))
    N 1 0 (by decide) (by omega) ⟨Nat.le_refl 1, by omega, fun l l1 l2 => by have : l = 0 := by omega
                                                                             subst this; exact Int.le_refl _⟩
  refine ⟨itF (stL U) 1 (21 - 1) 0, ?_, ?_, ?_⟩
  · have := h.2.2.1; omega
  · intro l l1 l2; exact h.2.2.2 l (by omega) (by omega)
  · unfold fX4_leaning jn
    have e0 := hun 0
    rw [show Int32.ofInt 0 = 0 from rfl] at e0
    rw [e0, Option.bind_some]
    exact h.1
