/-! signs and sizes of what the bench works out -/
def cmpZ (a b : Int) : Int := if a < b then -1 else if a = b then 0 else 1
theorem sg_cases (b t : Nat) (h : b ≤ 1) : (b = 0 ∧ sg b t = t) ∨ (b = 1 ∧ sg b t = -(t : Int)) := by
  rcases (show b = 0 ∨ b = 1 by omega) with rfl | rfl
  · exact Or.inl ⟨rfl, rfl⟩
  · exact Or.inr ⟨rfl, rfl⟩
/-- fractions of other signs -/
theorem cf_ne {xs xt xb ys yt yb : Nat} (hx : xs ≤ 1) (hy : ys ≤ 1) (cx : xs = 1 → xt ≠ 0) (cy : ys = 1 → yt ≠ 0) (hxb : 0 < xb) (hyb : 0 < yb) :
    (sgn xs xt < sgn ys yt → cmpZ (sg xs (xt * yb)) (sg ys (yt * xb)) = -1) ∧ (sgn ys yt < sgn xs xt → cmpZ (sg xs (xt * yb)) (sg ys (yt * xb)) = 1) := by
  have h1 : xt * yb = 0 ↔ xt = 0 := by rw [Nat.mul_eq_zero]; omega
  have h2 : yt * xb = 0 ↔ yt = 0 := by rw [Nat.mul_eq_zero]; omega
  generalize xt * yb = p at *
  generalize yt * xb = q at *
  unfold sgn sg cmpZ
  rcases (show xs = 0 ∨ xs = 1 by omega) with rfl | rfl <;> rcases (show ys = 0 ∨ ys = 1 by omega) with rfl | rfl <;> constructor <;> intro h <;> simp only [Nat.zero_ne_one, if_true, if_false] at h ⊢ <;> repeat (first | (split at h) | (split) | omega)
theorem cf_eq {xs xt xb ys yt yb : Nat} (hx : xs ≤ 1) (hy : ys ≤ 1) (cx : xs = 1 → xt ≠ 0) (cy : ys = 1 → yt ≠ 0) (hxb : 0 < xb) (hyb : 0 < yb) (he : sgn xs xt = sgn ys yt) :
    (sgn xs xt < 0 → cmpZ (sg xs (xt * yb)) (sg ys (yt * xb)) = -cmpI (xt * yb) (yt * xb)) ∧ (0 ≤ sgn xs xt → cmpZ (sg xs (xt * yb)) (sg ys (yt * xb)) = cmpI (xt * yb) (yt * xb)) := by
  have h1 : xt * yb = 0 ↔ xt = 0 := by rw [Nat.mul_eq_zero]; omega
  have h2 : yt * xb = 0 ↔ yt = 0 := by rw [Nat.mul_eq_zero]; omega
  generalize xt * yb = p at *
  generalize yt * xb = q at *
  unfold sgn at he
  unfold sgn sg cmpZ cmpI
  rcases (show xs = 0 ∨ xs = 1 by omega) with rfl | rfl <;> rcases (show ys = 0 ∨ ys = 1 by omega) with rfl | rfl <;> simp only [Nat.zero_ne_one, if_true, if_false] at he ⊢ <;> constructor <;> intro h <;> repeat (first | (split at h) | (split at he) | (split) | omega)
theorem sgn_b (b t : Nat) : -1 ≤ sgn b t ∧ sgn b t ≤ 1 := by
  unfold sgn; split
  · omega
  · split <;> omega
theorem cmpI_b (a b : Nat) : -1 ≤ cmpI a b ∧ cmpI a b ≤ 1 := by
  unfold cmpI; split
  · omega
  · split <;> omega
theorem md.succ {v : Nat} (h : md v) : 1 * v + 1 < 2147483648 ^ 136 := by
  have h1 := h.f135
  have h2 : 2147483648 ^ 136 = 2147483648 ^ 135 * 2147483648 := Nat.pow_succ ..
  have h3 : 0 < 2147483648 ^ 135 := Nat.pow_pos (by decide)
  rw [h2]
  generalize 2147483648 ^ 135 = P at *
  omega
theorem md.div {a b : Nat} (h : md a) : md (a / b) := h.le (Nat.div_le_self _ _)
theorem md.mod {a b : Nat} (h : md a) : md (a % b) := h.le (Nat.mod_le _ _)
