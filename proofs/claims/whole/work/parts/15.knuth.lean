/-! the trial digit of schoolbook division: two = the divisor's two highest limbs (shifted), three = the dividend's three -/
/-- what the correcting loop keeps: high is told by digit and rest; digit is not too small -/
def kn_I (b V1 V2 high next digit rest : Nat) : Prop := digit * V1 + rest = high ∧ (high * b + next < (digit + 1) * (V1 * b + V2) ∨ b ≤ digit + 1)
theorem kn_0 {b V1 V2 high next : Nat} (hV : 0 < V1) (hn : next < b) : kn_I b V1 V2 high next (high / V1) (high % V1) := by
  refine ⟨by rw [Nat.mul_comm]; exact Nat.div_add_mod high V1, Or.inl ?_⟩
  have h1 : high < (high / V1 + 1) * V1 := by
    have := Nat.lt_mul_div_succ high hV
    rw [Nat.mul_comm] at this; exact this
  have h2 : (high + 1) * b ≤ ((high / V1 + 1) * V1) * b := Nat.mul_le_mul_right _ h1
  rw [Nat.mul_add, ← Nat.mul_assoc]
  rw [Nat.add_mul, Nat.one_mul] at h2
  omega
/-- a step down keeps it -/
theorem kn_s {b V1 V2 high next digit rest : Nat} (h : kn_I b V1 V2 high next (digit + 1) rest) (hc : ¬ (digit + 1 ≤ b - 1 ∧ (digit + 1) * V2 ≤ rest * b + next)) : kn_I b V1 V2 high next digit (rest + V1) := by
  obtain ⟨h1, h2⟩ := h
  refine ⟨by rw [← h1, Nat.add_mul]; omega, ?_⟩
  by_cases c : digit + 1 ≤ b - 1
  · refine Or.inl ?_
    have c2 : rest * b + next < (digit + 1) * V2 := by
      apply Nat.lt_of_not_le
      exact fun q => hc ⟨c, q⟩
    rw [Nat.mul_add, ← Nat.mul_assoc, ← h1, Nat.add_mul _ rest b]
    omega
  · exact Or.inr (by omega)
/-- the loop ends with the test -/
theorem kn_break {b V1 V2 high next digit rest : Nat} (h : kn_I b V1 V2 high next digit rest) (h2 : digit * V2 ≤ rest * b + next) : digit * (V1 * b + V2) ≤ high * b + next := by
  rw [Nat.mul_add, ← Nat.mul_assoc, ← h.1, Nat.add_mul]
  omega
/-- the loop ends as rest is great -/
theorem kn_rest {b V1 V2 high next digit rest : Nat} (h : kn_I b V1 V2 high next digit rest) (hb : digit ≤ b - 1) (hV2 : V2 < b) (hr : b ≤ rest) : digit * (V1 * b + V2) ≤ high * b + next := by
  refine kn_break h ?_
  have h1 : digit * V2 ≤ b * V2 := Nat.mul_le_mul_right _ (by omega)
  have h2 : b * V2 ≤ b * b := Nat.mul_le_mul_left _ (by omega)
  have h3 : b * b ≤ rest * b := Nat.mul_le_mul_right _ hr
  omega
/-- the loop ends behind two steps -/
theorem kn_two {b V1 V2 high next digit rest : Nat} (h : digit * V1 + rest = high) (hr : 2 * V1 ≤ rest) (hb : digit ≤ b) (hV2 : V2 < b) (hV : b ≤ 2 * V1) : digit * (V1 * b + V2) ≤ high * b + next := by
  rw [Nat.mul_add, ← Nat.mul_assoc, ← h, Nat.add_mul]
  have h1 : digit * V2 ≤ b * b := Nat.mul_le_mul hb (by omega)
  have h3 : b * b ≤ rest * b := Nat.mul_le_mul_right _ (by omega)
  omega
/-- no digit is far above the base -/
theorem kn_high {b V1 V2 high next : Nat} (hb : 0 < b) (h : high * b + next < (V1 * b + V2 + 1) * b) : high ≤ V1 * b + V2 := by
  apply Nat.le_of_lt_succ
  apply Nat.lt_of_not_le
  intro q
  have : (V1 * b + V2 + 1) * b ≤ high * b := Nat.mul_le_mul_right _ q
  omega
theorem kn_dig {b V1 V2 high digit rest : Nat} (hh : high ≤ V1 * b + V2) (h : digit * V1 + rest = high) (hV2 : V2 < b) (hV : b ≤ 2 * V1) : digit ≤ b + 1 := by
  apply Nat.le_of_lt_succ
  apply Nat.lt_of_not_le
  intro q
  have h1 : (b + 2) * V1 ≤ digit * V1 := Nat.mul_le_mul_right _ q
  rw [Nat.add_mul, Nat.mul_comm b V1] at h1
  omega
/-- the trial digit is the true one, or 1 more: u by v b^at -/
theorem kn_main {b n at_ v u sc two three dig : Nat} (hb : 2 ≤ b) (hv : 0 < v) (hsc : 0 < sc)
    (hlt : sc * v < b ^ n) (hge : b ^ n ≤ 2 * (sc * v)) (hu : u < v * b ^ (at_ + 1))
    (htwo : two = sc * v * (b * b) / b ^ n) (hthree : three = sc * u * (b * b) / b ^ (at_ + n))
    (h1 : dig * two ≤ three) (h2 : three < (dig + 1) * two ∨ b ≤ dig + 1) :
    u / (v * b ^ at_) ≤ dig ∧ (dig ≤ b - 1 → dig ≤ u / (v * b ^ at_) + 1) := by
  have hbn : 0 < b ^ n := Nat.pow_pos (by omega)
  have hba : 0 < b ^ at_ := Nat.pow_pos (by omega)
  have hvb : 0 < v * b ^ at_ := Nat.mul_pos hv hba
  have hban : b ^ (at_ + n) = b ^ at_ * b ^ n := Nat.pow_add b at_ n
  have hq : u / (v * b ^ at_) < b := by
    apply Nat.div_lt_of_lt_mul
    rw [Nat.pow_succ, ← Nat.mul_assoc] at hu; exact hu
  -- two is great
  have htwo_ge : b ≤ two := by
    rw [htwo]
    apply (Nat.le_div_iff_mul_le hbn).mpr
    have a1 : b ^ n * b ≤ 2 * (sc * v) * b := Nat.mul_le_mul_right _ hge
    have a2 : 2 * (sc * v) * b ≤ b * (sc * v) * b := Nat.mul_le_mul_right _ (Nat.mul_le_mul_right _ hb)
    have a3 : b * (sc * v) * b = sc * v * (b * b) := by rw [Nat.mul_comm b (sc * v), Nat.mul_assoc]
    rw [Nat.mul_comm b (b ^ n)]; omega
  generalize hQ : u / (v * b ^ at_) = q at hq ⊢
  have hq1 : q * (v * b ^ at_) ≤ u := by rw [← hQ]; exact Nat.div_mul_le_self _ _
  have hq2 : u < (q + 1) * (v * b ^ at_) := by
    rw [← hQ, Nat.mul_comm]; exact Nat.lt_mul_div_succ u hvb
  constructor
  · rcases h2 with h2 | h2
    · have k1 : q * two ≤ three := by
        rw [hthree]
        apply (Nat.le_div_iff_mul_le (Nat.pow_pos (by omega))).mpr
        have t1 : two * b ^ n ≤ sc * v * (b * b) := by rw [htwo]; exact Nat.div_mul_le_self _ _
        have t2 : q * b ^ at_ * (two * b ^ n) ≤ q * b ^ at_ * (sc * v * (b * b)) := Nat.mul_le_mul_left _ t1
        have t3 : sc * (b * b) * (q * (v * b ^ at_)) ≤ sc * (b * b) * u := Nat.mul_le_mul_left _ hq1
        have e1 : q * two * b ^ (at_ + n) = q * b ^ at_ * (two * b ^ n) := by rw [hban]; ac_rfl
        have e2 : q * b ^ at_ * (sc * v * (b * b)) = sc * (b * b) * (q * (v * b ^ at_)) := by ac_rfl
        have e3 : sc * u * (b * b) = sc * (b * b) * u := by ac_rfl
        omega
      apply Nat.le_of_lt_succ
      apply Nat.lt_of_not_le
      intro c
      have : (dig + 1) * two ≤ q * two := Nat.mul_le_mul_right _ c
      omega
    · omega
  · intro _
    apply Nat.le_of_not_lt
    intro c
    -- (q + 2) two ≤ three < (q + 1) (two + 1)
    have k1 : (q + 2) * two ≤ dig * two := Nat.mul_le_mul_right _ c
    have k2 : three < (q + 1) * (two + 1) := by
      rw [hthree]
      apply Nat.div_lt_of_lt_mul
      have t1 : sc * v * (b * b) < (two + 1) * b ^ n := by
        rw [htwo, Nat.mul_comm _ (b ^ n)]; exact Nat.lt_mul_div_succ _ hbn
      have t2 : (q + 1) * b ^ at_ * (sc * v * (b * b)) ≤ (q + 1) * b ^ at_ * ((two + 1) * b ^ n) := Nat.mul_le_mul_left _ (Nat.le_of_lt t1)
      have t3 : sc * (b * b) * u < sc * (b * b) * ((q + 1) * (v * b ^ at_)) := Nat.mul_lt_mul_of_pos_left hq2 (Nat.mul_pos hsc (Nat.mul_pos (by omega) (by omega)))
      have e1 : sc * (b * b) * ((q + 1) * (v * b ^ at_)) = (q + 1) * b ^ at_ * (sc * v * (b * b)) := by ac_rfl
      have e2 : b ^ (at_ + n) * ((q + 1) * (two + 1)) = (q + 1) * b ^ at_ * ((two + 1) * b ^ n) := by rw [hban]; ac_rfl
      have e3 : sc * u * (b * b) = sc * (b * b) * u := by ac_rfl
      omega
    rw [Nat.add_mul] at k1
    rw [Nat.add_mul, Nat.mul_add, Nat.mul_one, Nat.one_mul] at k2
    omega
