/-! schoolbook division: limbs of shifted numbers, the trial digit, the step -/
def xl (x : Nat) (i : Int) : Nat := if 0 ≤ i then x / 2147483648 ^ i.toNat % 2147483648 else 0
theorem xl_n (x i : Nat) : xl x (i : Int) = x / 2147483648 ^ i % 2147483648 := by
  unfold xl; rw [if_pos (by omega)]; rfl
theorem xl_neg {x : Nat} {i : Int} (h : i < 0) : xl x i = 0 := by
  unfold xl; rw [if_neg (by omega)]
theorem xl_lt (x : Nat) (i : Int) : xl x i < 2147483648 := by
  unfold xl; split
  · exact Nat.mod_lt _ (by decide)
  · decide
theorem lmz_xl {g : Nat → Int32} {n : Nat} (h : ∀ i, i < n → dl g i < 2147483648) (i : Int) : lmz g n i = xl (bv 2147483648 (dl g) n) i := by
  unfold lmz xl
  by_cases c : 0 ≤ i
  · rw [if_pos c, bv_limb (by decide) h]
    unfold lm
    by_cases c2 : i < n
    · rw [if_pos ⟨c, c2⟩, if_pos (by omega)]
    · rw [if_neg (by omega), if_neg (by omega)]
  · rw [if_neg (by omega), if_neg c]
theorem xl_sh {x s : Nat} (hs : s ≤ 30) (i : Int) : (xl x i * 2 ^ s + xl x (i - 1) / 2 ^ (31 - s)) % 2147483648 = xl (x * 2 ^ s) i := by
  have hB : (2147483648 : Nat) = 2 ^ s * 2 ^ (31 - s) := by rw [← Nat.pow_add, show s + (31 - s) = 31 by omega]
  by_cases c : 1 ≤ i
  · obtain ⟨j, rfl⟩ : ∃ j : Nat, i = ((j + 1 : Nat) : Int) := ⟨(i - 1).toNat, by omega⟩
    rw [show ((j + 1 : Nat) : Int) - 1 = (j : Int) by omega, xl_n, xl_n, xl_n]
    have := lm_shift (v := x) (s := s) (t := 31 - s) (i := j)
    rw [← hB] at this
    exact this.symm
  · by_cases c2 : i = 0
    · subst c2
      rw [xl_neg (show (0 : Int) - 1 < 0 by omega)]
      have e0 := xl_n x 0
      have e1 := xl_n (x * 2 ^ s) 0
      rw [Nat.pow_zero, Nat.div_one] at e0 e1
      rw [show (0 : Int) = ((0 : Nat) : Int) from rfl, e0, e1, Nat.zero_div, Nat.add_zero, Nat.mod_mul_mod]
    · rw [xl_neg (show i < 0 by omega), xl_neg (show i - 1 < 0 by omega), xl_neg (show i < 0 by omega)]
      simp
/-- the three highest limbs as one number -/
theorem xl3 {y m : Nat} (hm : 1 ≤ m) (hy : y < 2147483648 ^ (m + 1)) : (xl y (m : Int) * 2147483648 + xl y ((m : Int) - 1)) * 2147483648 + xl y ((m : Int) - 2) = y * (2147483648 * 2147483648) / 2147483648 ^ m := by
  rcases m with _ | m
  · omega
  rw [show ((m + 1 : Nat) : Int) - 1 = (m : Int) by omega, xl_n, xl_n]
  rcases m with _ | m
  · rw [xl_neg (by omega)]
    have h2 : y / 2147483648 ^ (0 + 1) < 2147483648 := by
      apply Nat.div_lt_of_lt_mul
      rw [Nat.pow_succ] at hy; exact hy
    rw [Nat.mod_eq_of_lt h2]
    rw [show y * (2147483648 * 2147483648) = 2147483648 ^ (0 + 1) * (y * 2147483648) by rw [Nat.pow_one]; ac_rfl, Nat.mul_div_cancel_left _ (by decide)]
    simp only [Nat.zero_add, Nat.pow_one, Nat.pow_zero, Nat.div_one]
    omega
  · rw [show ((m + 1 + 1 : Nat) : Int) - 2 = (m : Int) by omega, xl_n]
    have hp : 0 < 2147483648 ^ m := Nat.pow_pos (by decide)
    have e1 : y * (2147483648 * 2147483648) / 2147483648 ^ (m + 1 + 1) = y / 2147483648 ^ m := by
      rw [Nat.pow_succ, Nat.pow_succ, Nat.mul_assoc, Nat.mul_comm (2147483648 ^ m), Nat.mul_comm y, Nat.mul_div_mul_left _ _ (by decide)]
    rw [e1, Nat.pow_succ, Nat.pow_succ, ← Nat.div_div_eq_div_mul, ← Nat.div_div_eq_div_mul]
    have hz : y / 2147483648 ^ m < 2147483648 * 2147483648 * 2147483648 := by
      apply Nat.div_lt_of_lt_mul
      rw [Nat.pow_succ, Nat.pow_succ, Nat.pow_succ] at hy
      rw [← Nat.mul_assoc, ← Nat.mul_assoc]; exact hy
    generalize y / 2147483648 ^ m = z at hz
    omega
/-- limbs above don't matter below -/
theorem xl_low {x s m : Nat} {i : Int} (h : i < m) : xl (x * 2 ^ s) i = xl (x % 2147483648 ^ m * 2 ^ s) i := by
  by_cases c : 0 ≤ i
  · obtain ⟨j, rfl⟩ : ∃ j : Nat, i = (j : Int) := ⟨i.toNat, by omega⟩
    rw [xl_n, xl_n]
    obtain ⟨r, rfl⟩ : ∃ r, m = j + 1 + r := ⟨m - (j + 1), by omega⟩
    have e : x = 2147483648 ^ (j + 1 + r) * (x / 2147483648 ^ (j + 1 + r)) + x % 2147483648 ^ (j + 1 + r) := (Nat.div_add_mod _ _).symm
    generalize x / 2147483648 ^ (j + 1 + r) = q at e
    generalize hz : x % 2147483648 ^ (j + 1 + r) = z at e
    have hp : 0 < 2147483648 ^ j := Nat.pow_pos (by decide)
    have e2 : x * 2 ^ s = 2147483648 ^ j * (2147483648 * (2147483648 ^ r * q * 2 ^ s)) + z * 2 ^ s := by
      rw [e, Nat.add_mul, Nat.pow_add, Nat.pow_succ]
      congr 1; ac_rfl
    rw [e2, Nat.mul_add_div hp, Nat.mul_add_mod]
  · rw [xl_neg (by omega), xl_neg (by omega)]
/-- the divisor's shift -/
theorem kn_shift {N n v s : Nat} {g : Nat → Int32} (h : Wok N n g v) (hn : 0 < n) (hs : s ≤ 30) (h1 : 2 ^ (30 - s) ≤ dl g (n - 1)) (h2 : dl g (n - 1) < 2 ^ (31 - s)) : 2 ^ s * v < 2147483648 ^ n ∧ 2147483648 ^ n ≤ 2 * (2 ^ s * v) := by
  obtain ⟨-, hd, h3, h4⟩ := h
  obtain ⟨j, rfl⟩ : ∃ j, n = j + 1 := ⟨n - 1, by omega⟩
  rw [Nat.add_sub_cancel] at h1 h2
  have hl : bv 2147483648 (dl g) j < 2147483648 ^ j := bv_lt (fun i hi => hd i (by omega))
  rw [bv_s] at h4
  have hB : (2147483648 : Nat) = 2 ^ s * 2 ^ (31 - s) := by rw [← Nat.pow_add, show s + (31 - s) = 31 by omega]
  have hB2 : 2 ^ (31 - s) = 2 ^ (30 - s) * 2 := by rw [show 31 - s = (30 - s) + 1 by omega, Nat.pow_succ]
  have hp : 0 < 2 ^ s := Nat.two_pow_pos s
  generalize hP : 2147483648 ^ j = P at *
  have m1 : 2 ^ (30 - s) * P ≤ dl g j * P := Nat.mul_le_mul_right _ h1
  have m2 : (dl g j + 1) * P ≤ 2 ^ (31 - s) * P := Nat.mul_le_mul_right _ h2
  rw [Nat.add_mul, Nat.one_mul] at m2
  rw [Nat.pow_succ, hP]
  constructor
  · have : 2 ^ s * v < 2 ^ s * (2 ^ (31 - s) * P) := Nat.mul_lt_mul_of_pos_left (by omega) hp
    have e9 : 2 ^ s * (2 ^ (31 - s) * P) = P * 2147483648 := by rw [hB]; ac_rfl
    omega
  · have : 2 ^ s * (2 ^ (30 - s) * P) ≤ 2 ^ s * v := Nat.mul_le_mul_left _ (by omega)
    have e1 : P * 2147483648 = 2 * (2 ^ s * (2 ^ (30 - s) * P)) := by
      rw [hB, hB2]; ac_rfl
    omega
/-- what the trial digit is -/
theorem kn_fin {al n v X sc V1 V2 V3 hi2 hi1 nx dg : Nat} (hv : 0 < v) (hsc : 0 < sc) (hn : 1 ≤ n) (hlt : sc * v < 2147483648 ^ n) (hge : 2147483648 ^ n ≤ 2 * (sc * v)) (hX : X < v * 2147483648 ^ (al + 1))
    (e1 : (V3 * 2147483648 + V1) * 2147483648 + V2 = sc * v * (2147483648 * 2147483648) / 2147483648 ^ n) (e0 : V3 = 0) (e2 : (hi2 * 2147483648 + hi1) * 2147483648 + nx = sc * X * (2147483648 * 2147483648) / 2147483648 ^ (al + n))
    (hd : dg ≤ 2147483647) (h1 : dg * (V1 * 2147483648 + V2) ≤ (hi2 * 2147483648 + hi1) * 2147483648 + nx) (h2 : (hi2 * 2147483648 + hi1) * 2147483648 + nx < (dg + 1) * (V1 * 2147483648 + V2) ∨ 2147483648 ≤ dg + 1) :
    X / (v * 2147483648 ^ al) ≤ dg ∧ dg ≤ X / (v * 2147483648 ^ al) + 1 := by
  subst e0
  rw [Nat.zero_mul, Nat.zero_add] at e1
  have k := kn_main (b := 2147483648) (n := n) (at_ := al) (v := v) (u := X) (sc := sc) (two := V1 * 2147483648 + V2) (three := (hi2 * 2147483648 + hi1) * 2147483648 + nx) (dig := dg) (by decide) hv hsc hlt hge hX e1 e2 h1 h2
  exact ⟨k.1, k.2 (by omega)⟩
/-- the three limbs are not much more than the two -/
theorem kn_pre {al n v X sc two three : Nat} (hlt : sc * v < 2147483648 ^ n) (hsc : 0 < sc) (hX : X < v * 2147483648 ^ (al + 1)) (e1 : two = sc * v * (2147483648 * 2147483648) / 2147483648 ^ n) (e2 : three = sc * X * (2147483648 * 2147483648) / 2147483648 ^ (al + n)) : three < (two + 1) * 2147483648 := by
  rw [e2]
  apply Nat.div_lt_of_lt_mul
  have hp : 0 < 2147483648 ^ n := Nat.pow_pos (by decide)
  have t1 : sc * v * (2147483648 * 2147483648) < (two + 1) * 2147483648 ^ n := by
    rw [e1, Nat.mul_comm _ (2147483648 ^ n)]; exact Nat.lt_mul_div_succ _ hp
  have t2 : sc * X * (2147483648 * 2147483648) < sc * (v * 2147483648 ^ (al + 1)) * (2147483648 * 2147483648) := by
    apply Nat.mul_lt_mul_of_pos_right _ (by decide)
    exact Nat.mul_lt_mul_of_pos_left hX hsc
  have e3 : sc * (v * 2147483648 ^ (al + 1)) * (2147483648 * 2147483648) = sc * v * (2147483648 * 2147483648) * (2147483648 ^ al * 2147483648) := by rw [Nat.pow_succ]; ac_rfl
  have t3 : sc * v * (2147483648 * 2147483648) * (2147483648 ^ al * 2147483648) ≤ (two + 1) * 2147483648 ^ n * (2147483648 ^ al * 2147483648) := Nat.mul_le_mul_right _ (Nat.le_of_lt t1)
  have e4 : (two + 1) * 2147483648 ^ n * (2147483648 ^ al * 2147483648) = 2147483648 ^ (al + n) * ((two + 1) * 2147483648) := by rw [Nat.pow_add]; ac_rfl
  exact Nat.lt_of_lt_of_le t2 (by rw [e3]; exact Nat.le_trans t3 (Nat.le_of_eq e4))
/-- V1 has its highest bit -/
theorem kn_V1 {n v sc V1 V2 : Nat} (hge : 2147483648 ^ n ≤ 2 * (sc * v)) (e1 : V1 * 2147483648 + V2 = sc * v * (2147483648 * 2147483648) / 2147483648 ^ n) (h2 : V2 < 2147483648) : 2147483648 ≤ 2 * V1 := by
  have hp : 0 < 2147483648 ^ n := Nat.pow_pos (by decide)
  have : 1073741824 * 2147483648 ≤ sc * v * (2147483648 * 2147483648) / 2147483648 ^ n := by
    apply (Nat.le_div_iff_mul_le hp).mpr
    generalize 2147483648 ^ n = P at *
    generalize sc * v = y at *
    omega
  omega
/-- rest is small where the digit is great -/
theorem kn_sm {V1 V2 hi dg rs : Nat} (hh : hi ≤ V1 * 2147483648 + V2) (h : dg * V1 + rs = hi) (hV2 : V2 < 2147483648) (hr : 2147483648 ≤ rs) : dg ≤ 2147483647 := by
  apply Nat.le_of_not_lt
  intro q
  have h1 : 2147483648 * V1 ≤ dg * V1 := Nat.mul_le_mul_right _ (by omega)
  omega
/-- one step of takeAway's loop -/
theorem ta_step {i : Nat} {qz cy S : Int} {dx dy dt dd : Nat → Nat} (h : (bv 2147483648 dx i : Int) + cy * 2147483648 ^ i = (bv 2147483648 dt i : Int) - qz * (bv 2147483648 dd i : Int))
    (hS : S = (dt i : Int) - qz * (dd i : Int) + cy) (hy : (dy i : Int) = S % 2147483648) (hs : ∀ k, k < i → dy k = dx k) :
    (bv 2147483648 dy (i + 1) : Int) + (S / 2147483648) * 2147483648 ^ (i + 1) = (bv 2147483648 dt (i + 1) : Int) - qz * (bv 2147483648 dd (i + 1) : Int) := by
  rw [bv_s, bv_s, bv_s, bv_congr hs]
  have k := carry_stepI 2147483648 S (2147483648 ^ i)
  have e0 : ((2147483648 ^ i : Nat) : Int) = (2147483648 : Int) ^ i := by simp
  simp only [Int.natCast_add, Int.natCast_mul, e0]
  rw [hy, Int.pow_succ]
  subst hS
  grind
theorem ta_bound {qz cy x y : Int} (hq : -1 ≤ qz ∧ qz < 2147483648) (hx : 0 ≤ x ∧ x < 2147483648) (hy : 0 ≤ y ∧ y < 2147483648) (hc : -2147483648 < cy ∧ cy ≤ 1) :
    -2147483648 * 2147483647 ≤ x - qz * y + cy ∧ x - qz * y + cy ≤ 4294967295 := by
  have a1 : qz * y ≤ 2147483647 * y := Int.mul_le_mul_of_nonneg_right (by omega) hy.1
  have a2 : -1 * y ≤ qz * y := Int.mul_le_mul_of_nonneg_right hq.1 hy.1
  omega
theorem kn_Xs {al n v X s : Nat} (hX : X < v * 2147483648 ^ (al + 1)) (hlt : 2 ^ s * v < 2147483648 ^ n) : X * 2 ^ s < 2147483648 ^ (al + n + 1) := by
  have hp : 0 < 2 ^ s := Nat.two_pow_pos s
  have h1 : X * 2 ^ s < v * 2147483648 ^ (al + 1) * 2 ^ s := Nat.mul_lt_mul_of_pos_right hX hp
  have h2 : 2 ^ s * v * 2147483648 ^ (al + 1) ≤ 2147483648 ^ n * 2147483648 ^ (al + 1) := Nat.mul_le_mul_right _ (Nat.le_of_lt hlt)
  have e1 : v * 2147483648 ^ (al + 1) * 2 ^ s = 2 ^ s * v * 2147483648 ^ (al + 1) := by ac_rfl
  rw [← Nat.pow_add, show n + (al + 1) = al + n + 1 by omega] at h2
  exact Nat.lt_of_lt_of_le h1 (by rw [e1]; exact h2)
