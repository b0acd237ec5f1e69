/-! the highest bits of two numbers, and leaps along Euclid's row told by them -/
theorem Wv.opn {ty : Nat → ClassId} {ad : Nat → Nat} {F : Nat → va_E} {w N v : Nat} (h : Wv ty ad F w N v) : ∃ (n : Nat) (g : Nat → Int32), F w = oW ad w n ∧ F (w + 1) = aI ty N g ∧ Wok N n g v := let ⟨n, g, ⟨h1, h2⟩, h3⟩ := h; ⟨n, g, h1, h2, h3⟩
theorem pw_preWa {s : State} {H : Heap} {locs : List Loc} {D : va_G} {ty : Nat → ClassId} {ad : Nat → Nat} {M : Nat} {F : Nat → va_E} {A : Nat → Prop} (hw : pw D classes (tysL ty) ad M F A s H locs) {w N : Nat} {As : List Value} (hi : w < M) (h : Wa ty ad F w N) : PreV s H R_W (ad w) (va_Pc (.ref (ad w) :: As) (pPre D classes (tysL ty) ad M F H.size)) As := by
  obtain ⟨n, g, h1, -⟩ := h
  exact pw_preV hw hi h1 rfl
theorem Wv.ltN {ty : Nat → ClassId} {ad : Nat → Nat} {F : Nat → va_E} {w N v : Nat} (h : Wv ty ad F w N v) : v < 2147483648 ^ N := let ⟨_, _, _, h3⟩ := h; h3.ltN
/-- the 62 highest bits, by division -/
theorem hb_eq {y m : Nat} (hm : 1 ≤ m) (hy : y < 2147483648 ^ m) : xl y ((m : Int) - 1) * 2 ^ 31 + xl y ((m : Int) - 2) = y * (2147483648 * 2147483648) / 2147483648 ^ m := by
  have h := xl3 hm (Nat.lt_of_lt_of_le hy (Nat.pow_le_pow_right (by decide) (by omega : m ≤ m + 1)))
  have e0 : xl y (m : Int) = 0 := by rw [xl_n, Nat.div_eq_of_lt hy, Nat.zero_mod]
  rw [e0, Nat.zero_mul, Nat.zero_add] at h
  exact h
theorem hb_lt (y : Nat) (i j : Int) : xl y i * 2 ^ 31 + xl y j < 4611686018427387904 := by
  have := xl_lt y i
  have := xl_lt y j
  omega
/-- the numbers of a leap on its way -/
def lpI (x y hi0 lo0 i : Nat) (f g h k hi lo : Int) : Prop :=
  hi = f * hi0 + g * lo0 ∧ lo = h * hi0 + k * lo0 ∧ ((0 ≤ f ∧ g ≤ 0 ∧ h ≤ 0 ∧ 0 ≤ k) ∨ (f ≤ 0 ∧ 0 ≤ g ∧ 0 ≤ h ∧ k ≤ 0)) ∧
  (-2147483648 < f ∧ f < 2147483648 ∧ -2147483648 < g ∧ g < 2147483648) ∧ (-2147483648 < h ∧ h < 2147483648 ∧ -2147483648 < k ∧ k < 2147483648) ∧
  (0 ≤ hi ∧ hi < 4611686018427387904) ∧ (0 ≤ lo ∧ lo < 4611686018427387904) ∧ 0 ≤ hi + f ∧ 0 ≤ hi + g ∧ (i = 0 → g = 0) ∧
  ∃ x' y' : Nat, eu_R i x y x' y' ∧ f * x + g * y = x' ∧ h * x + k * y = y'
theorem lpI_0 {x y hi0 lo0 : Nat} (h1 : hi0 < 4611686018427387904) (h2 : lo0 < 4611686018427387904) : lpI x y hi0 lo0 0 1 0 0 1 hi0 lo0 := by
  refine ⟨by omega, by omega, Or.inl (by omega), by omega, by omega, by omega, by omega, by omega, by omega, fun _ => rfl, x, y, ⟨rfl, rfl⟩, by omega, by omega⟩
theorem lpI_s {x y hi0 lo0 i c d q : Nat} {f g h k hi lo : Int} (hI : lpI x y hi0 lo0 i f g h k hi lo) (hc : 0 < c) (hd : 0 < d) (h1 : hi0 = x * c / d) (h2 : lo0 = y * c / d) (p1 : 0 < lo + h) (p2 : 0 < lo + k)
    (q1 : q = (hi + f).toNat / (lo + h).toNat) (q2 : q = (hi + g).toNat / (lo + k).toNat) (b1 : (f - q * h).natAbs < 2147483648) (b2 : (g - q * k).natAbs < 2147483648) :
    lpI x y hi0 lo0 (i + 1) h k (f - q * h) (g - q * k) lo (hi - q * lo) := by
  obtain ⟨e1, e2, sg, bf, bh, bhi, blo, n1, n2, -, x', y', hE, ex, ey⟩ := hI
  have dv : ∀ a b : Nat, 0 < b → (a / b : Nat) * (b : Int) ≤ (a : Int) ∧ (a : Int) < ((a / b : Nat) + 1) * (b : Int) := by
    intro a b hb
    have w1 := Nat.div_mul_le_self a b
    have w2 := Nat.lt_mul_div_succ a hb
    have e3 : ((a / b : Nat) : Int) * (b : Int) = ((a / b * b : Nat) : Int) := by rw [Int.natCast_mul]
    have e4 : (((a / b : Nat) : Int) + 1) * (b : Int) = ((b * (a / b + 1) : Nat) : Int) := by rw [Int.natCast_mul, Int.mul_comm]; rfl
    rw [e3, e4]
    omega
  have A1 := dv (hi + f).toNat (lo + h).toNat (by omega)
  have A2 := dv (hi + g).toNat (lo + k).toNat (by omega)
  rw [← q1, Int.toNat_of_nonneg n1, Int.toNat_of_nonneg (by omega)] at A1
  rw [← q2, Int.toNat_of_nonneg n2, Int.toNat_of_nonneg (by omega)] at A2
  have X1 : (x : Int) * c = hi0 * d + ((x * c % d : Nat) : Int) := by
    have := Nat.div_add_mod (x * c) d
    rw [← h1] at this
    have e5 : ((d * hi0 + x * c % d : Nat) : Int) = ((x * c : Nat) : Int) := by rw [this]
    simp only [Int.natCast_add, Int.natCast_mul] at e5 ⊢
    rw [Int.mul_comm (hi0 : Int)]; omega
  have Y1 : (y : Int) * c = lo0 * d + ((y * c % d : Nat) : Int) := by
    have := Nat.div_add_mod (y * c) d
    rw [← h2] at this
    have e5 : ((d * lo0 + y * c % d : Nat) : Int) = ((y * c : Nat) : Int) := by rw [this]
    simp only [Int.natCast_add, Int.natCast_mul] at e5 ⊢
    rw [Int.mul_comm (lo0 : Int)]; omega
  have r1 := Nat.mod_lt (x * c) hd
  have r2 := Nat.mod_lt (y * c) hd
  obtain ⟨s1, s2, s3, s4⟩ := lh_step (x := x) (y := y) (c := c) (d := d) (r1 := ((x * c % d : Nat) : Int)) (r2 := ((y * c % d : Nat) : Int)) (hi0 := hi0) (lo0 := lo0) (q := q) (by omega) (by omega) X1 Y1 (Int.natCast_nonneg _) (Int.ofNat_lt.mpr r1) (Int.natCast_nonneg _) (Int.ofNat_lt.mpr r2) e1 e2 sg p1 p2 (by omega) A1.1 A1.2 A2.1 A2.2
  have sgn : (0 ≤ h ∧ k ≤ 0 ∧ f - q * h ≤ 0 ∧ 0 ≤ g - q * k) ∨ (h ≤ 0 ∧ 0 ≤ k ∧ 0 ≤ f - q * h ∧ g - q * k ≤ 0) := by
    have hq : (0 : Int) ≤ q := by omega
    rcases sg with ⟨f0, g0, h0, k0⟩ | ⟨f0, g0, h0, k0⟩
    · have w1 : (q : Int) * h ≤ 0 := Int.mul_nonpos_of_nonneg_of_nonpos hq h0
      have w2 : 0 ≤ (q : Int) * k := Int.mul_nonneg hq k0
      exact Or.inr (by omega)
    · have w1 : (q : Int) * k ≤ 0 := Int.mul_nonpos_of_nonneg_of_nonpos hq k0
      have w2 : 0 ≤ (q : Int) * h := Int.mul_nonneg hq h0
      exact Or.inl (by omega)
  have hql : 0 ≤ (q : Int) * lo := Int.mul_nonneg (by omega) blo.1
  rw [ex, ey] at s2 s3
  rw [ey] at s1
  have hy0 : 0 < y' := by omega
  have hqd : x' / y' = q := by
    have w1 : q * y' ≤ x' := by
      have : ((q * y' : Nat) : Int) ≤ x' := by rw [Int.natCast_mul]; exact s2
      omega
    have w2 : x' < (q + 1) * y' := by
      have : (x' : Int) < (((q + 1) * y' : Nat) : Int) := by rw [Int.natCast_mul]; exact s3
      omega
    exact Nat.div_eq_of_lt_le w1 w2
  have hmod : (f - q * h) * x + (g - q * k) * y = ((x' % y' : Nat) : Int) := by
    have w := Nat.div_add_mod x' y'
    rw [hqd] at w
    have e5 : ((y' * q + x' % y' : Nat) : Int) = (x' : Int) := by rw [w]
    simp only [Int.natCast_add, Int.natCast_mul] at e5
    have : (f - q * h) * (x : Int) + (g - q * k) * y = (f * x + g * y) - q * (h * x + k * y) := by grind
    rw [this, ex, ey, Int.mul_comm]; omega
  refine ⟨e2, ?_, sgn, by omega, by omega, blo, ⟨s4, by omega⟩, by omega, by omega, fun q => absurd q (by omega), y', x' % y', ⟨x', y', hE, hy0, rfl, rfl⟩, ey, hmod⟩
  rw [e1, e2]; grind
/-- bounds of a step's products -/
theorem lp_b {q : Nat} {a b : Int} (hq : q < 2147483648) (ha : -2147483648 < a ∧ a < 2147483648) (hb : -2147483648 < b ∧ b < 2147483648) : -9223372036854775807 ≤ b - q * a ∧ b - q * a < 9223372036854775808 := by
  have w1 : (q : Int) * a ≤ 2147483648 * 2147483648 := by
    rcases Int.le_total 0 a with h | h
    · have : (q : Int) * a ≤ 2147483648 * a := Int.mul_le_mul_of_nonneg_right (by omega) h
      omega
    · have : (q : Int) * a ≤ 0 := Int.mul_nonpos_of_nonneg_of_nonpos (by omega) h
      omega
  have w2 : -(2147483648 * 2147483648) ≤ (q : Int) * a := by
    rcases Int.le_total 0 a with h | h
    · have : 0 ≤ (q : Int) * a := Int.mul_nonneg (by omega) h
      omega
    · have : 2147483648 * a ≤ (q : Int) * a := Int.mul_le_mul_of_nonpos_right (by omega) h
      omega
  omega
