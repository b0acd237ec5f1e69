/-! limbs of a number, and of one that is moved up by less than a limb -/
/-- limb i of n limbs, 0 beyond -/
def lm (d : Nat → Nat) (n i : Nat) : Nat := if i < n then d i else 0
theorem lm_lt {B : Nat} {d : Nat → Nat} {n : Nat} (hB : 0 < B) (h : ∀ i, i < n → d i < B) (i : Nat) : lm d n i < B := by
  unfold lm; split
  · exact h i (by omega)
  · exact hB
theorem bv_div {B : Nat} {d : Nat → Nat} {n i : Nat} (hB : 0 < B) (h : ∀ k, k < n → d k < B) (hi : i ≤ n) : bv B d n / B ^ i = bv B (fun k => d (i + k)) (n - i) ∧ bv B d n % B ^ i = bv B d i := by
  obtain ⟨r, rfl⟩ : ∃ r, n = i + r := ⟨n - i, by omega⟩
  have h1 : bv B d i < B ^ i := bv_lt (fun k hk => h k (by omega))
  have hp : 0 < B ^ i := Nat.pow_pos hB
  rw [bv_split B d i r, Nat.add_sub_cancel_left]
  constructor
  · rw [Nat.add_mul_div_left _ _ hp, Nat.div_eq_of_lt h1, Nat.zero_add]
  · rw [Nat.add_mul_mod_self_left, Nat.mod_eq_of_lt h1]
theorem bv_hi {B : Nat} {d : Nat → Nat} {n i : Nat} (hB : 0 < B) (h : ∀ k, k < n → d k < B) (hi : n ≤ i) : bv B d n / B ^ i = 0 ∧ bv B d n % B ^ i = bv B d n := by
  have h1 : bv B d n < B ^ n := bv_lt h
  have h2 : B ^ n ≤ B ^ i := Nat.pow_le_pow_right hB hi
  exact ⟨Nat.div_eq_of_lt (by omega), Nat.mod_eq_of_lt (by omega)⟩
theorem bv_limb {B : Nat} {d : Nat → Nat} {n i : Nat} (hB : 0 < B) (h : ∀ k, k < n → d k < B) : bv B d n / B ^ i % B = lm d n i := by
  unfold lm
  split
  · rename_i hi
    rw [(bv_div hB h (by omega)).1, show n - i = 1 + (n - i - 1) by omega, bv_split B _ 1, Nat.pow_one, Nat.add_mul_mod_self_left]
    show (0 + d (i + 0) * B ^ 0) % B = d i
    rw [Nat.zero_add, Nat.pow_zero, Nat.mul_one, Nat.add_zero, Nat.mod_eq_of_lt (h i hi)]
  · rw [(bv_hi hB h (by omega)).1, Nat.zero_mod]
/-- limb i + 1 of the number moved up by s -/
theorem lm_shift {v s t i : Nat} : v * 2 ^ s / (2 ^ s * 2 ^ t) ^ (i + 1) % (2 ^ s * 2 ^ t) = (v / (2 ^ s * 2 ^ t) ^ (i + 1) % (2 ^ s * 2 ^ t) * 2 ^ s + v / (2 ^ s * 2 ^ t) ^ i % (2 ^ s * 2 ^ t) / 2 ^ t) % (2 ^ s * 2 ^ t) := by
  generalize hS : 2 ^ s = S
  generalize hT : 2 ^ t = T
  have hS0 : 0 < S := by rw [← hS]; exact Nat.two_pow_pos s
  have hT0 : 0 < T := by rw [← hT]; exact Nat.two_pow_pos t
  generalize hB : S * T = B
  have hB0 : 0 < B := by rw [← hB]; exact Nat.mul_pos hS0 hT0
  generalize hP : B ^ i = P
  have hP0 : 0 < P := by rw [← hP]; exact Nat.pow_pos hB0
  have e1 : B ^ (i + 1) = P * B := by rw [← hP, Nat.pow_succ]
  rw [e1, ← Nat.div_div_eq_div_mul v P B, ← Nat.div_div_eq_div_mul (v * S) P B]
  generalize hq : v / P = q
  have hv : v = P * q + v % P := by rw [← hq]; exact (Nat.div_add_mod v P).symm
  have hr : v % P < P := Nat.mod_lt _ hP0
  generalize v % P = r at hv hr
  have e2 : v * S / P = q * S + r * S / P := by
    rw [hv, Nat.add_mul, Nat.mul_assoc, Nat.mul_add_div hP0]
  have e3 : r * S / P < S := by
    apply Nat.div_lt_of_lt_mul
    exact Nat.mul_lt_mul_of_pos_right hr hS0
  rw [e2]
  generalize r * S / P = z at e3
  -- q S + z, by B = S T
  have e4 : (q * S + z) / B = q / T := by
    rw [← hB, ← Nat.div_div_eq_div_mul, Nat.mul_comm q S, Nat.mul_add_div hS0, Nat.div_eq_of_lt e3, Nat.add_zero]
  rw [e4]
  -- q / T % B = (q / B % B * S + q % B / T) % B
  have e5 : q = B * (q / B) + q % B := (Nat.div_add_mod q B).symm
  have e6 : q / T = S * (q / B) + q % B / T := by
    have : B * (q / B) = T * (S * (q / B)) := by rw [← hB, Nat.mul_comm S T, Nat.mul_assoc]
    rw [this] at e5
    calc q / T = (T * (S * (q / B)) + q % B) / T := by rw [← e5]
      _ = S * (q / B) + q % B / T := Nat.mul_add_div hT0 _ _
  have e7 : q / B * S % B = q / B % B * S % B := by rw [Nat.mul_mod (q / B) S, Nat.mul_mod (q / B % B) S, Nat.mod_mod]
  rw [e6, Nat.mul_comm S, Nat.add_mod, e7, ← Nat.add_mod]
