/-! powers, bit by bit -/
theorem pw_mono {b m n : Nat} (h : m ≤ n) (hb : ¬ sm (b ^ m)) : ¬ sm (b ^ n) := by
  intro q
  apply hb
  rcases Nat.eq_zero_or_pos b with c | c
  · subst c
    rcases Nat.eq_zero_or_pos m with d | d
    · subst d; exact sm_1
    · rw [Nat.zero_pow d]; exact sm_0
  · exact q.le (Nat.pow_le_pow_right c h)
/-- what stands on the way to b^k, with j bits to go -/
def pwI (b k j rv : Nat) : Prop := (sm rv ∧ rv = b ^ (k / 2 ^ j)) ∨ (¬ sm rv ∧ ¬ sm (b ^ k))
theorem pwI_0 {b k : Nat} (h : k ≤ 2048) : pwI b k 12 1 := Or.inl ⟨sm_1, by rw [Nat.div_eq_of_lt (show k < 2 ^ 12 from Nat.lt_of_le_of_lt h (by decide)), Nat.pow_zero]⟩
theorem pw_half {k j : Nat} (hj : 0 < j) : k / 2 ^ (j - 1) = 2 * (k / 2 ^ j) + k / 2 ^ (j - 1) % 2 := by
  obtain ⟨i, rfl⟩ : ∃ i, j = i + 1 := ⟨j - 1, by omega⟩
  rw [Nat.add_sub_cancel, Nat.pow_succ, ← Nat.div_div_eq_div_mul]
  omega
theorem pwI_sq {b k j rv : Nat} (hj : 0 < j) (h : sm rv ∧ rv = b ^ (k / 2 ^ j)) (hb : k / 2 ^ (j - 1) % 2 = 0 ∨ ¬ sm (rv * rv)) : pwI b k (j - 1) (rv * rv) := by
  have e := @pw_half k j hj
  have e2 : rv * rv = b ^ (2 * (k / 2 ^ j)) := by rw [h.2, Nat.two_mul, Nat.pow_add]
  have hle : k / 2 ^ (j - 1) ≤ k := Nat.div_le_self _ _
  by_cases c : sm (rv * rv)
  · rcases hb with hb | hb
    · exact Or.inl ⟨c, by rw [e2, e, hb]; rfl⟩
    · exact absurd c hb
  · refine Or.inr ⟨c, ?_⟩
    rw [e2] at c
    exact pw_mono (by omega) c
theorem pwI_sm {b k j rv : Nat} (hj : 0 < j) (h : sm rv ∧ rv = b ^ (k / 2 ^ j)) (hb : k / 2 ^ (j - 1) % 2 = 1) : pwI b k (j - 1) (rv * rv * b) := by
  have e := @pw_half k j hj
  have e2 : rv * rv * b = b ^ (k / 2 ^ (j - 1)) := by rw [e, hb, h.2, Nat.pow_succ, Nat.two_mul, Nat.pow_add]
  have hle : k / 2 ^ (j - 1) ≤ k := Nat.div_le_self _ _
  by_cases c : sm (rv * rv * b)
  · exact Or.inl ⟨c, e2⟩
  · refine Or.inr ⟨c, ?_⟩
    rw [e2] at c
    exact pw_mono hle c
theorem pwI_end {b k rv : Nat} (h : pwI b k 0 rv) : (sm rv ↔ sm (b ^ k)) ∧ (sm rv → rv = b ^ k) := by
  rw [pwI, Nat.pow_zero, Nat.div_one] at h
  rcases h with ⟨h1, h2⟩ | ⟨h1, h2⟩
  · exact ⟨⟨fun _ => by rw [← h2]; exact h1, fun _ => h1⟩, fun _ => h2⟩
  · exact ⟨⟨fun q => absurd q h1, fun q => absurd q h2⟩, fun q => absurd q h1⟩
theorem pwI_big {b k j rv : Nat} (h : pwI b k j rv) (hs : ¬ sm rv) : (sm rv ↔ sm (b ^ k)) ∧ (sm rv → rv = b ^ k) := by
  rcases h with ⟨h1, h2⟩ | ⟨h1, h2⟩
  · exact absurd h1 hs
  · exact ⟨⟨fun q => absurd q h1, fun q => absurd q h2⟩, fun q => absurd q h1⟩
