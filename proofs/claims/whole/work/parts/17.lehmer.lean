/-! Euclid's row, and leaps along it -/
def fb : Nat → Nat
  | 0 => 0
  | 1 => 1
  | n + 2 => fb n + fb (n + 1)
theorem fb_add (m : Nat) : ∀ n : Nat, fb (m + n + 1) = fb (m + 1) * fb (n + 1) + fb m * fb n ∧ fb (m + n + 2) = fb (m + 1) * fb (n + 2) + fb m * fb (n + 1)
  | 0 => by
    constructor
    · simp [fb]
    · show fb m + fb (m + 1) = fb (m + 1) * fb 2 + fb m * fb 1
      simp [fb]; omega
  | n + 1 => by
    obtain ⟨h1, h2⟩ := fb_add m n
    constructor
    · show fb (m + n + 2) = _
      exact h2
    · show fb (m + n + 1) + fb (m + n + 2) = _
      have e3 : fb (m + 1) * fb (n + 1 + 2) = fb (m + 1) * fb (n + 1) + fb (m + 1) * fb (n + 2) := by rw [← Nat.mul_add]; rfl
      have e2 : fb m * fb (n + 1 + 1) = fb m * fb n + fb m * fb (n + 1) := by rw [← Nat.mul_add]; rfl
      rw [h1, h2, e3, e2]
      omega
theorem fb_mul (m n : Nat) : fb m * fb n ≤ fb (m + n) := by
  rcases m with _ | m
  · simp [fb]
  · rcases n with _ | n
    · simp [fb]
    · have h := (fb_add m (n + 1)).1
      have h2 : fb (m + 1) * fb (n + 1) ≤ fb (m + 1) * fb (n + 1 + 1) := Nat.mul_le_mul_left _ (by show fb (n + 1) ≤ fb n + fb (n + 1); omega)
      rw [show m + 1 + (n + 1) = m + (n + 1) + 1 by omega, h]
      omega
theorem fb_mono (n : Nat) : fb (n + 1) ≤ fb (n + 2) := by show fb (n + 1) ≤ fb n + fb (n + 1); omega
theorem fb_100 : 2 ^ 68 ≤ fb 100 := by
  have h5 : fb 20 = 6765 := by decide
  have h6 : fb 21 = 10946 := by decide
  have a40 := (fb_add 20 19).1
  have a41 := (fb_add 20 20).1
  have h19 : fb 19 = 4181 := by decide
  have h40 : fb 40 = 102334155 := by rw [show 40 = 20 + 19 + 1 from rfl, a40, h6, h19]; show 10946 * fb 20 + fb 20 * 4181 = _; rw [h5]
  have h41 : fb 41 = 165580141 := by rw [show 41 = 20 + 20 + 1 from rfl, a41, h6, h5]
  have h39 : fb 39 = 63245986 := by
    have : fb 41 = fb 39 + fb 40 := rfl
    omega
  have h80 : fb 80 = 23416728348467685 := by rw [show 80 = 40 + 39 + 1 from rfl, (fb_add 40 39).1, h41, h39]; show 165580141 * fb 40 + fb 40 * 63245986 = _; rw [h40]
  have h81 : fb 81 = 37889062373143906 := by rw [show 81 = 40 + 40 + 1 from rfl, (fb_add 40 40).1, h41, h40]
  have h100 : fb 100 = 354224848179261915075 := by rw [show 100 = 80 + 19 + 1 from rfl, (fb_add 80 19).1, h81, h80, h19]; show 37889062373143906 * fb 20 + _ = _; rw [h5]
  rw [h100]; decide
theorem fb_big : ∀ k : Nat, (2 ^ 68) ^ k ≤ fb (100 * k + 1)
  | 0 => by decide
  | k + 1 => by
    have h := fb_big k
    have h2 := fb_mul 100 (100 * k + 1)
    have h3 : (2 ^ 68) ^ k * 2 ^ 68 ≤ fb (100 * k + 1) * fb 100 := Nat.mul_le_mul h fb_100
    rw [Nat.pow_succ, show 100 * (k + 1) + 1 = 100 + (100 * k + 1) by omega]
    rw [Nat.mul_comm (fb 100)] at h2
    omega
theorem fb_6201 : 2 ^ 4216 ≤ fb 6201 := by
  have h := fb_big 62
  rw [← Nat.pow_mul] at h
  exact h
/-- at most k steps of Euclid's are left for x and y -/
def eu_Q (k x y : Nat) : Prop := y < fb (k + 1) ∨ x < fb (k + 2)
theorem eu_0 {x y : Nat} (h : eu_Q 0 x y) (hy : y ≤ x) : y = 0 := by
  rcases h with h | h
  · have : y < 1 := h
    omega
  · have : x < 1 := h
    omega
theorem eu_s {k x y : Nat} (h : eu_Q (k + 1) x y) (hy : y ≤ x) (h0 : 0 < y) : eu_Q k y (x % y) := by
  by_cases c : y < fb (k + 2)
  · exact Or.inr c
  · rcases h with h | h
    · exact absurd h c
    · refine Or.inl ?_
      have h1 : x < fb (k + 1) + fb (k + 2) := h
      have h2 : x % y ≤ x - y := by
        rw [Nat.mod_eq_sub_mod hy]
        exact Nat.mod_le _ _
      omega
theorem eu_mono {k x y : Nat} (h : eu_Q k x y) : eu_Q (k + 1) x y := by
  have h1 := fb_mono k
  have h2 := fb_mono (k + 1)
  rcases h with h | h
  · exact Or.inl (by show y < fb (k + 2); omega)
  · exact Or.inr (by show x < fb (k + 1 + 2); exact Nat.lt_of_lt_of_le h h2)
/-- Euclid's row from (x, y) to (a, b): n steps -/
def eu_R : Nat → Nat → Nat → Nat → Nat → Prop
  | 0, x, y, a, b => a = x ∧ b = y
  | n + 1, x, y, a, b => ∃ a0 b0 : Nat, eu_R n x y a0 b0 ∧ 0 < b0 ∧ a = b0 ∧ b = a0 % b0
theorem eu_R.le {x y : Nat} (h : y ≤ x) : ∀ {n a b : Nat}, eu_R n x y a b → b ≤ a
  | 0, a, b, q => by obtain ⟨rfl, rfl⟩ := q; exact h
  | n + 1, a, b, q => by
    obtain ⟨a0, b0, -, h0, rfl, rfl⟩ := q
    exact Nat.le_of_lt (Nat.mod_lt _ h0)
theorem eu_R.gcd {x y : Nat} : ∀ {n a b : Nat}, eu_R n x y a b → Nat.gcd a b = Nat.gcd x y
  | 0, a, b, q => by obtain ⟨rfl, rfl⟩ := q; rfl
  | n + 1, a, b, q => by
    obtain ⟨a0, b0, h1, h0, rfl, rfl⟩ := q
    rw [← eu_R.gcd h1]
    exact (Nat.gcd_comm _ _).trans ((Nat.gcd_rec _ _).symm.trans (Nat.gcd_comm _ _))
theorem eu_R.Q {x y : Nat} (hy : y ≤ x) : ∀ {n k a b : Nat}, eu_R n x y a b → eu_Q (k + n) x y → eu_Q k a b
  | 0, k, a, b, q, h => by obtain ⟨rfl, rfl⟩ := q; exact h
  | n + 1, k, a, b, q, h => by
    obtain ⟨a0, b0, h1, h0, rfl, rfl⟩ := q
    have := eu_R.Q (k := k + 1) hy h1 (by rw [show k + 1 + n = k + (n + 1) by omega]; exact h)
    exact eu_s this (eu_R.le hy h1) h0
theorem eu_monoN {x y : Nat} {k : Nat} : ∀ (n : Nat), eu_Q k x y → eu_Q (k + n) x y
  | 0, h => h
  | n + 1, h => eu_mono (eu_monoN n h)
/-- a leap's step: q is the quotient of all numbers that begin so -/
theorem lh_step {x y c d r1 r2 hi0 lo0 f g h k hi lo q : Int} (hd : 0 < d) (hc : 0 < c) (hX : x * c = hi0 * d + r1) (hY : y * c = lo0 * d + r2) (h1 : 0 ≤ r1) (h2 : r1 < d) (h3 : 0 ≤ r2) (h4 : r2 < d) (hhi : hi = f * hi0 + g * lo0) (hlo : lo = h * hi0 + k * lo0)
    (hs : (0 ≤ f ∧ g ≤ 0 ∧ h ≤ 0 ∧ 0 ≤ k) ∨ (f ≤ 0 ∧ 0 ≤ g ∧ 0 ≤ h ∧ k ≤ 0)) (p1 : 0 < lo + h) (p2 : 0 < lo + k) (hq : 0 ≤ q)
    (q1 : q * (lo + h) ≤ hi + f) (q2 : hi + f < (q + 1) * (lo + h)) (q3 : q * (lo + k) ≤ hi + g) (q4 : hi + g < (q + 1) * (lo + k)) :
    0 < h * x + k * y ∧ q * (h * x + k * y) ≤ f * x + g * y ∧ f * x + g * y < (q + 1) * (h * x + k * y) ∧ 0 ≤ hi - q * lo := by
  have eb : (h * x + k * y) * c = lo * d + h * r1 + k * r2 := by
    have e1 : (h * x + k * y) * c = h * (x * c) + k * (y * c) := by grind
    rw [e1, hX, hY, hlo]; grind
  have ea : (f * x + g * y) * c = hi * d + f * r1 + g * r2 := by
    have e1 : (f * x + g * y) * c = f * (x * c) + g * (y * c) := by grind
    rw [e1, hX, hY, hhi]; grind
  have pos : ∀ z : Int, 0 < z * c → 0 < z := fun z hz => Int.pos_of_mul_pos_right (by rw [Int.mul_comm]; exact hz) hc
  have nn : ∀ z : Int, 0 ≤ z * c → 0 ≤ z := fun z hz => by
    apply Int.not_lt.mp
    intro q
    have := Int.mul_neg_of_neg_of_pos q hc
    omega
  rcases hs with ⟨f0, g0, h0, k0⟩ | ⟨f0, g0, h0, k0⟩
  · have m1 : h * d ≤ h * r1 := Int.mul_le_mul_of_nonpos_left h0 (by omega)
    have m2 : 0 ≤ k * r2 := Int.mul_nonneg k0 h3
    have b1 : 0 < (lo + h) * d := Int.mul_pos p1 hd
    have c1 : 0 ≤ q * h * -1 := by
      have := Int.mul_nonneg hq (show 0 ≤ -h by omega)
      grind
    have c2 : 0 ≤ q * k := Int.mul_nonneg hq k0
    refine ⟨pos _ ?_, ?_, ?_, ?_⟩
    · rw [eb]; grind
    · have w1 : 0 ≤ (f - q * h) * r1 := Int.mul_nonneg (by grind) h1
      have w2 : (g - q * k) * d ≤ (g - q * k) * r2 := Int.mul_le_mul_of_nonpos_left (by grind) (by omega)
      have w3 : 0 ≤ (hi + g - q * (lo + k)) * d := Int.mul_nonneg (by omega) (by omega)
      have : 0 ≤ (f * x + g * y - q * (h * x + k * y)) := nn _ (by
        have : (f * x + g * y - q * (h * x + k * y)) * c = (f * x + g * y) * c - q * ((h * x + k * y) * c) := by grind
        rw [this, ea, eb]; grind)
      omega
    · have w1 : 0 ≤ ((q + 1) * k - g) * r2 := Int.mul_nonneg (by grind) h3
      have w2 : ((q + 1) * h - f) * d ≤ ((q + 1) * h - f) * r1 := Int.mul_le_mul_of_nonpos_left (by grind) (by omega)
      have w3 : 0 < ((q + 1) * (lo + h) - (hi + f)) * d := Int.mul_pos (by omega) (by omega)
      have : 0 < ((q + 1) * (h * x + k * y) - (f * x + g * y)) := pos _ (by
        have : ((q + 1) * (h * x + k * y) - (f * x + g * y)) * c = (q + 1) * ((h * x + k * y) * c) - (f * x + g * y) * c := by grind
        rw [this, ea, eb]; grind)
      omega
    · grind
  · have m1 : k * d ≤ k * r2 := Int.mul_le_mul_of_nonpos_left k0 (by omega)
    have m2 : 0 ≤ h * r1 := Int.mul_nonneg h0 h1
    have b1 : 0 < (lo + k) * d := Int.mul_pos p2 hd
    have c1 : 0 ≤ q * k * -1 := by
      have := Int.mul_nonneg hq (show 0 ≤ -k by omega)
      grind
    have c2 : 0 ≤ q * h := Int.mul_nonneg hq h0
    refine ⟨pos _ ?_, ?_, ?_, ?_⟩
    · rw [eb]; grind
    · have w1 : 0 ≤ (g - q * k) * r2 := Int.mul_nonneg (by grind) h3
      have w2 : (f - q * h) * d ≤ (f - q * h) * r1 := Int.mul_le_mul_of_nonpos_left (by grind) (by omega)
      have w3 : 0 ≤ (hi + f - q * (lo + h)) * d := Int.mul_nonneg (by omega) (by omega)
      have : 0 ≤ (f * x + g * y - q * (h * x + k * y)) := nn _ (by
        have : (f * x + g * y - q * (h * x + k * y)) * c = (f * x + g * y) * c - q * ((h * x + k * y) * c) := by grind
        rw [this, ea, eb]; grind)
      omega
    · have w1 : 0 ≤ ((q + 1) * h - f) * r1 := Int.mul_nonneg (by grind) h1
      have w2 : ((q + 1) * k - g) * d ≤ ((q + 1) * k - g) * r2 := Int.mul_le_mul_of_nonpos_left (by grind) (by omega)
      have w3 : 0 < ((q + 1) * (lo + k) - (hi + g)) * d := Int.mul_pos (by omega) (by omega)
      have : 0 < ((q + 1) * (h * x + k * y) - (f * x + g * y)) := pos _ (by
        have : ((q + 1) * (h * x + k * y) - (f * x + g * y)) * c = (q + 1) * ((h * x + k * y) * c) - (f * x + g * y) * c := by grind
        rw [this, ea, eb]; grind)
      omega
    · grind
