theorem eu_R.lex {x y : Nat} (h : y ≤ x) : ∀ {n a b : Nat}, eu_R n x y a b → a ≤ x
  | 0, a, b, q => by obtain ⟨rfl, rfl⟩ := q; exact Nat.le_refl _
  | n + 1, a, b, q => by
    obtain ⟨a0, b0, h1, h0, rfl, rfl⟩ := q
    exact Nat.le_trans (eu_R.le h h1) (eu_R.lex h h1)
theorem pick_a {P : Nat → Prop} {a b xi yi : Nat} (h : (xi = a ∧ yi = b) ∨ (xi = b ∧ yi = a)) (hx : P xi) (hy : P yi) : P a := by
  rcases h with ⟨h1, h2⟩ | ⟨h1, h2⟩
  · rw [← h1]; exact hx
  · rw [← h2]; exact hy
theorem pick_b {P : Nat → Prop} {a b xi yi : Nat} (h : (xi = a ∧ yi = b) ∨ (xi = b ∧ yi = a)) (hx : P xi) (hy : P yi) : P b := by
  rcases h with ⟨h1, h2⟩ | ⟨h1, h2⟩
  · rw [← h2]; exact hy
  · rw [← h1]; exact hx
theorem eu_leap {k n x y a b : Nat} (hy : y ≤ x) (hE : eu_R (n + 1) x y a b) (h : eu_Q (k + 1) x y) : eu_Q k a b := by
  refine eu_R.Q hy hE ?_
  have := eu_monoN n h
  rw [show k + (n + 1) = k + 1 + n by omega]; exact this
theorem eu_start {x y : Nat} (h : y < 2147483648 ^ 136) : eu_Q 6200 x y := by
  refine Or.inl (Nat.lt_of_lt_of_le h (Nat.le_trans ?_ fb_6201))
  rw [pow31]
  exact Nat.le_refl _
theorem cmpI_neg {a b : Nat} : cmpI a b < 0 ↔ a < b := by
  unfold cmpI; split
  · omega
  · split <;> omega
