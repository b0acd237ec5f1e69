/-! products and mixes, limb by limb -/
theorem pr_in {B i j cy da : Nat} {dx dy dw db : Nat → Nat} (h : bv B (fun t => dy (i + t)) j + cy * B ^ j = bv B (fun t => dx (i + t)) j + da * bv B db j)
    (hw : dw (i + j) = (da * db j + dx (i + j) + cy) % B) (hs : ∀ k, k < j → dw (i + k) = dy (i + k)) :
    bv B (fun t => dw (i + t)) (j + 1) + ((da * db j + dx (i + j) + cy) / B) * B ^ (j + 1) = bv B (fun t => dx (i + t)) (j + 1) + da * bv B db (j + 1) := by
  rw [bv_s, bv_s, bv_s, bv_congr (B := B) (d := fun t => dw (i + t)) (e := fun t => dy (i + t)) hs, hw]
  have k := carry_step B (da * db j + dx (i + j) + cy) (B ^ j)
  rw [Nat.pow_succ]
  rw [Nat.add_mul, Nat.add_mul] at k
  have e1 : da * (bv B db j + db j * B ^ j) = da * bv B db j + da * db j * B ^ j := by rw [Nat.mul_add, Nat.mul_assoc]
  omega
theorem pr_out {B i nb cy : Nat} {dx dy dv da db : Nat → Nat} (h : bv B dx (i + nb) = bv B da i * bv B db nb)
    (hin : bv B (fun t => dy (i + t)) nb + cy * B ^ nb = bv B (fun t => dx (i + t)) nb + da i * bv B db nb)
    (hs : ∀ k, k < i → dy k = dx k) (hv : dv (i + nb) = cy) (hvs : ∀ k, k < i + nb → dv k = dy k) : bv B dv (i + 1 + nb) = bv B da (i + 1) * bv B db nb := by
  rw [show i + 1 + nb = i + nb + 1 by omega, bv_s, hv, bv_congr hvs, bv_split B dy i nb, bv_congr hs, bv_s, Nat.add_mul, ← h, bv_split B dx i nb, Nat.pow_add]
  have e1 : B ^ i * (bv B (fun t => dy (i + t)) nb + cy * B ^ nb) = B ^ i * (bv B (fun t => dx (i + t)) nb + da i * bv B db nb) := by rw [hin]
  rw [Nat.mul_add, Nat.mul_add] at e1
  have e2 : B ^ i * (cy * B ^ nb) = cy * (B ^ i * B ^ nb) := by ac_rfl
  have e3 : B ^ i * (da i * bv B db nb) = da i * B ^ i * bv B db nb := by ac_rfl
  omega
theorem bv_lm {B : Nat} {d : Nat → Nat} {n k : Nat} (h : n ≤ k) : bv B (lm d n) k = bv B d n := by
  rw [bv_trim h (fun i h1 _ => by unfold lm; rw [if_neg (by omega)])]
  exact bv_congr (fun i hi => by unfold lm; rw [if_pos hi])
theorem mx_step {i : Nat} {fz gz cy S : Int} {dx dy da db : Nat → Nat} (h : (bv 2147483648 dx i : Int) + cy * 2147483648 ^ i = fz * (bv 2147483648 da i : Int) + gz * (bv 2147483648 db i : Int))
    (hS : S = fz * (da i : Int) + gz * (db i : Int) + cy) (hy : (dy i : Int) = S % 2147483648) (hs : ∀ k, k < i → dy k = dx k) :
    (bv 2147483648 dy (i + 1) : Int) + (S / 2147483648) * 2147483648 ^ (i + 1) = fz * (bv 2147483648 da (i + 1) : Int) + gz * (bv 2147483648 db (i + 1) : Int) := by
  rw [bv_s, bv_s, bv_s, bv_congr hs]
  have k := carry_stepI 2147483648 S (2147483648 ^ i)
  have e0 : ((2147483648 ^ i : Nat) : Int) = (2147483648 : Int) ^ i := by simp
  simp only [Int.natCast_add, Int.natCast_mul, e0]
  rw [hy, Int.pow_succ]
  subst hS
  grind
theorem mx_carry {i : Nat} {cy : Int} {x v : Nat} (h : (x : Int) + cy * 2147483648 ^ i = v) (hx : x < 2147483648 ^ i) (hv : v < 2147483648 ^ (i + 1)) : 0 ≤ cy ∧ cy < 2147483648 := by
  have e0 : ((2147483648 ^ i : Nat) : Int) = (2147483648 : Int) ^ i := by simp
  have hp : (0 : Int) < 2147483648 ^ i := Int.pow_pos (by decide)
  rw [Nat.pow_succ] at hv
  have hx' : (x : Int) < 2147483648 ^ i := by rw [← e0]; exact Int.ofNat_lt.mpr hx
  have hv' : (v : Int) < 2147483648 ^ i * 2147483648 := by
    rw [← e0]
    have h9 := Int.ofNat_lt.mpr hv
    rw [Int.natCast_mul] at h9
    exact h9
  generalize (2147483648 : Int) ^ i = P at *
  constructor
  · apply Int.not_lt.mp
    intro q
    have : cy * P ≤ -1 * P := Int.mul_le_mul_of_nonneg_right (by omega) (by omega)
    omega
  · apply Int.not_le.mp
    intro q
    have : 2147483648 * P ≤ cy * P := Int.mul_le_mul_of_nonneg_right q (by omega)
    omega
/-- no mix that is not below 0 has more than one limb more -/
theorem mx_fit {fz gz : Int} {va vb vr n : Nat} (h : fz * va + gz * vb = vr) (ha : va < 2147483648 ^ n) (hb : vb < 2147483648 ^ n) (f1 : fz < 2147483648) (g1 : gz < 2147483648) (hs : fz ≤ 0 ∨ gz ≤ 0 ∨ (fz = 1 ∧ gz = 1)) : vr < 2147483648 ^ (n + 1) := by
  rw [Nat.pow_succ]
  generalize 2147483648 ^ n = P at *
  have h0a : (0 : Int) ≤ va := Int.natCast_nonneg _
  have h0b : (0 : Int) ≤ vb := Int.natCast_nonneg _
  rcases hs with q | q | ⟨rfl, rfl⟩
  · have k1 : fz * va ≤ 0 := Int.mul_nonpos_of_nonpos_of_nonneg q h0a
    have k2 : gz * vb ≤ 2147483648 * vb := Int.mul_le_mul_of_nonneg_right (by omega) h0b
    omega
  · have k1 : gz * vb ≤ 0 := Int.mul_nonpos_of_nonpos_of_nonneg q h0b
    have k2 : fz * va ≤ 2147483648 * va := Int.mul_le_mul_of_nonneg_right (by omega) h0a
    omega
  · omega
/-- no sum on the way passes a long -/
theorem mx_bound {fz gz cy x y : Int} (f1 : -2147483648 < fz ∧ fz < 2147483648) (g1 : -2147483648 < gz ∧ gz < 2147483648) (hx : 0 ≤ x ∧ x < 2147483648) (hy : 0 ≤ y ∧ y < 2147483648) (hc : -4294967296 ≤ cy ∧ cy ≤ 4294967296) :
    -9223372036854775808 ≤ fz * x + gz * y + cy ∧ fz * x + gz * y + cy < 9223372036854775808 := by
  have a1 : fz * x ≤ 2147483647 * x := Int.mul_le_mul_of_nonneg_right (by omega) hx.1
  have a2 : -2147483647 * x ≤ fz * x := Int.mul_le_mul_of_nonneg_right (by omega) hx.1
  have b1 : gz * y ≤ 2147483647 * y := Int.mul_le_mul_of_nonneg_right (by omega) hy.1
  have b2 : -2147483647 * y ≤ gz * y := Int.mul_le_mul_of_nonneg_right (by omega) hy.1
  omega
