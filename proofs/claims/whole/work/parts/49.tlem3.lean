/-! decimals -/
def isLen (v L : Nat) : Prop := 1 ≤ L ∧ v < 10 ^ L ∧ (L = 1 ∨ 10 ^ (L - 1) ≤ v)
theorem isLen.uniq {v L K : Nat} (h : isLen v L) (k : isLen v K) : L = K := by
  obtain ⟨a1, a2, a3⟩ := h
  obtain ⟨b1, b2, b3⟩ := k
  rcases Nat.lt_trichotomy L K with c | c | c
  · rcases b3 with b3 | b3
    · omega
    · have : 10 ^ L ≤ 10 ^ (K - 1) := Nat.pow_le_pow_right (by decide) (by omega)
      omega
  · exact c
  · rcases a3 with a3 | a3
    · omega
    · have : 10 ^ K ≤ 10 ^ (L - 1) := Nat.pow_le_pow_right (by decide) (by omega)
      omega
theorem dec_69 {v m : Nat} (h : sm v) (hm : v / 10 ^ (9 * m) ≠ 0) : m < 69 := by
  apply Nat.lt_of_not_le
  intro c
  apply hm
  apply Nat.div_eq_of_lt
  have h1 : 10 ^ (9 * 69) ≤ 10 ^ (9 * m) := Nat.pow_le_pow_right (by decide) (by omega)
  have h2 : (2 : Nat) ^ 2048 ≤ 10 ^ (9 * 69) := Nat.le_of_ble_eq_true (by decide +kernel)
  exact Nat.lt_of_lt_of_le h (Nat.le_trans h2 h1)
theorem dig9 {x j : Nat} (hj : j < 9) : x % 1000000000 / 10 ^ j % 10 = x / 10 ^ j % 10 := by
  have e : (1000000000 : Nat) = 10 ^ j * 10 ^ (9 - j) := by rw [← Nat.pow_add, show j + (9 - j) = 9 by omega]
  rw [e, Nat.mod_mul_right_div_self]
  rw [show 9 - j = (8 - j) + 1 by omega, Nat.pow_succ, Nat.mul_comm, Nat.mod_mul_right_mod]
theorem dec_next {v m : Nat} : v / 10 ^ (9 * m) / 1000000000 = v / 10 ^ (9 * (m + 1)) := by
  rw [Nat.div_div_eq_div_mul, show (1000000000 : Nat) = 10 ^ 9 from rfl, ← Nat.pow_add, show 9 * m + 9 = 9 * (m + 1) by omega]
theorem dec_at {v m j : Nat} : v / 10 ^ (9 * m) / 10 ^ j = v / 10 ^ (9 * m + j) := by
  rw [Nat.div_div_eq_div_mul, ← Nat.pow_add]
/-- a highest digit that is 0 may go -/
theorem dec_drop {v L : Nat} (hL : 0 < L) (h : v < 10 ^ L) (h0 : v / 10 ^ (L - 1) % 10 = 0) : v < 10 ^ (L - 1) := by
  obtain ⟨k, rfl⟩ : ∃ k, L = k + 1 := ⟨L - 1, by omega⟩
  rw [Nat.add_sub_cancel] at *
  rw [Nat.pow_succ] at h
  have h1 : v / 10 ^ k < 10 := Nat.div_lt_of_lt_mul h
  rw [Nat.mod_eq_of_lt h1] at h0
  have hp : 0 < 10 ^ k := Nat.pow_pos (by decide)
  rcases Nat.lt_or_ge v (10 ^ k) with c | c
  · exact c
  · have := Nat.div_pos c hp
    omega
theorem dec_top {v L : Nat} (h0 : v / 10 ^ (L - 1) % 10 ≠ 0) : 10 ^ (L - 1) ≤ v := by
  apply Nat.le_of_not_lt
  intro c
  apply h0
  rw [Nat.div_eq_of_lt c]
/-- what a written number is -/
def decT (tx tz : Nat → Nat) (n v L : Nat) : Prop := isLen v L ∧ (∀ j, j < n → tz j = tx j) ∧ ∀ j, j < L → tz (n + j) = 48 + v / 10 ^ (L - 1 - j) % 10
theorem decT_rev {tx tz ts : Nat → Nat} {n v L : Nat} (hl : isLen v L) (h1 : ∀ j, j < n → tz j = tx j) (h2 : ∀ j, j < L → tz (n + j) = 48 + v / 10 ^ j % 10) (hs : ∀ k, k < n + L → ts k = if n ≤ k ∧ k ≤ n + L - 1 then tz (n + (n + L - 1) - k) else tz k) : decT tx ts n v L := by
  refine ⟨hl, fun j hj => ?_, fun j hj => ?_⟩
  · rw [hs j (by omega), if_neg (by omega)]; exact h1 j hj
  · rw [hs (n + j) (by omega), if_pos (by omega), show n + (n + L - 1) - (n + j) = n + (L - 1 - j) by omega]
    exact h2 _ (by omega)
