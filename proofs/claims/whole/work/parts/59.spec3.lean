theorem flZ_abs (y n : Int) : (flZ y n).natAbs = n.natAbs := by unfold flZ; split <;> omega
theorem sg_fl {s a : Nat} {y : Int} (h : s = 1 ↔ y < 0) : sg s a = flZ y (a : Int) := by
  unfold sg flZ
  by_cases c : y < 0
  · rw [if_pos (h.mpr c), if_pos c]
  · rw [if_neg (mt h.mp c), if_neg c]
theorem pw_lay {g : Sg} {u xs xt xb : Nat} {x n : Int} (hs : xs ≤ 1) (h1 : xs = 1 ↔ x < 0) (hz : sg xs xt = x) (ht : xt = x.natAbs) (hg : Nat.gcd xt xb = 1) :
    s_lay g u (pwV x xb n).1 (pwV x xb n).2 = s_keep g u (sg (if xs = 1 ∧ n.natAbs % 2 = 1 then 1 else 0) ((if n < 0 then xb else xt) ^ n.natAbs)) ((if n < 0 then xt else xb) ^ n.natAbs) := by
  have hp := sg_pow (a := xt) hs n.natAbs
  rw [hz] at hp
  have hgp : Nat.gcd (xt ^ n.natAbs) (xb ^ n.natAbs) = 1 := Nat.Coprime.pow _ _ hg
  unfold pwV
  by_cases c : n < 0
  · rw [if_pos c, if_pos c, if_pos c, ← ht]
    dsimp only
    rw [s_lay_1 _ _ _ _ (by rw [flZ_abs, Int.natAbs_natCast, Nat.gcd_comm]; exact hgp)]
    congr 1
    rw [← hp]
    unfold flZ
    have hx0 : xs = 1 → xt ≠ 0 := fun h => by have := h1.mp h; omega
    by_cases c2 : xs = 1 ∧ n.natAbs % 2 = 1
    · have h0 : 0 < xt ^ n.natAbs := Nat.pow_pos (Nat.pos_of_ne_zero (hx0 c2.1))
      rw [if_pos c2, sg_1, sg_1, if_pos (by omega)]
    · rw [if_neg c2, sg_0, sg_0, if_neg (by omega)]
  · rw [if_neg c, if_neg c, if_neg c]
    dsimp only
    rw [hp, s_lay_1 _ _ _ _ (by rw [Int.natAbs_pow, ← ht]; exact hgp)]
