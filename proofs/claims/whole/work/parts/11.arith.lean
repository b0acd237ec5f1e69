/-! numbers: Int32 and Int64 told by their integers -/
def iI (z : Int) : Int32 := Int32.ofInt z
def iL (z : Int) : Int64 := Int64.ofInt z
theorem iI_add (a b : Int) : iI a + iI b = iI (a + b) := (Int32.ofInt_add a b).symm
theorem iI_sub (a b : Int) : iI a - iI b = iI (a - b) := (Int32.ofInt_sub a b).symm
theorem iI_mul (a b : Int) : iI a * iI b = iI (a * b) := (Int32.ofInt_mul a b).symm
theorem iI_neg (a : Int) : -iI a = iI (-a) := (Int32.ofInt_neg a).symm
theorem iI_T {a : Int} (h : -2147483648 ≤ a) (h2 : a < 2147483648) : (iI a).toInt = a := Int32.toInt_ofInt_of_le (by omega) (by omega)
theorem iI_of (x : Int32) : x = iI x.toInt := (Int32.ofInt_toInt x).symm
theorem iI_ex (x : Int32) : ∃ z : Int, -2147483648 ≤ z ∧ z < 2147483648 ∧ x = iI z := ⟨x.toInt, by have := x.le_toInt; omega, by have := x.toInt_lt; omega, iI_of x⟩
theorem iI_lt {a b : Int} (h : -2147483648 ≤ a) (h2 : a < 2147483648) (h3 : -2147483648 ≤ b) (h4 : b < 2147483648) : iI a < iI b ↔ a < b := by
  rw [Int32.lt_iff_toInt_lt, iI_T h h2, iI_T h3 h4]
theorem iI_le {a b : Int} (h : -2147483648 ≤ a) (h2 : a < 2147483648) (h3 : -2147483648 ≤ b) (h4 : b < 2147483648) : iI a ≤ iI b ↔ a ≤ b := by
  rw [Int32.le_iff_toInt_le, iI_T h h2, iI_T h3 h4]
theorem iI_eq {a b : Int} (h : -2147483648 ≤ a) (h2 : a < 2147483648) (h3 : -2147483648 ≤ b) (h4 : b < 2147483648) : iI a = iI b ↔ a = b := by
  rw [← Int32.toInt_inj, iI_T h h2, iI_T h3 h4]
theorem iI_in {a : Int} {n : Nat} (h0 : 0 ≤ a) (h : a < n) (h2 : a < 2147483648) : vp_in (iI a) n := by
  rw [vp_in_iff, iI_T (by omega) h2]
  exact ⟨h0, h⟩
theorem iI_cl {a : Int} (h0 : 0 ≤ a) (h2 : a < 2147483648) : (iI a).toNatClampNeg = a.toNat := by
  show (iI a).toInt.toNat = a.toNat
  rw [iI_T (by omega) h2]
theorem iI_cn {n : Nat} (h2 : n < 2147483648) : (iI n).toNatClampNeg = n := by
  rw [iI_cl (by omega) (by omega)]; rfl
theorem iI_nat (n : Nat) : iI n = nI n := Int32.ofInt_eq_ofNat
theorem iI_nn {a : Int} (h0 : 0 ≤ a) (h2 : a < 2147483648) : ¬ iI a < 0 := by
  rw [Int32.lt_iff_toInt_lt, iI_T (by omega) h2, Int32.toInt_zero]; omega
theorem iI_mod (a : Int) (k : Int) : iI (a + k * 4294967296) = iI a := by
  rw [← Int32.toInt_inj]
  show (Int32.ofInt _).toInt = (Int32.ofInt _).toInt
  rw [Int32.toInt_ofInt, Int32.toInt_ofInt]
  show Int.bmod _ 4294967296 = Int.bmod _ 4294967296
  rw [show k * 4294967296 = 4294967296 * k by omega]
  exact Int.add_mul_bmod_self_left ..
theorem iL_add (a b : Int) : iL a + iL b = iL (a + b) := (Int64.ofInt_add a b).symm
theorem iL_sub (a b : Int) : iL a - iL b = iL (a - b) := (Int64.ofInt_sub a b).symm
theorem iL_mul (a b : Int) : iL a * iL b = iL (a * b) := (Int64.ofInt_mul a b).symm
theorem iL_neg (a : Int) : -iL a = iL (-a) := (Int64.ofInt_neg a).symm
theorem iL_T {a : Int} (h : -9223372036854775808 ≤ a) (h2 : a < 9223372036854775808) : (iL a).toInt = a := Int64.toInt_ofInt_of_le (by omega) (by omega)
theorem iL_of (x : Int64) : x = iL x.toInt := (Int64.ofInt_toInt x).symm
theorem iL_ex (x : Int64) : ∃ z : Int, -9223372036854775808 ≤ z ∧ z < 9223372036854775808 ∧ x = iL z := ⟨x.toInt, by have := x.le_toInt; omega, by have := x.toInt_lt; omega, iL_of x⟩
theorem iL_lt {a b : Int} (h : -9223372036854775808 ≤ a) (h2 : a < 9223372036854775808) (h3 : -9223372036854775808 ≤ b) (h4 : b < 9223372036854775808) : iL a < iL b ↔ a < b := by
  rw [Int64.lt_iff_toInt_lt, iL_T h h2, iL_T h3 h4]
theorem iL_le {a b : Int} (h : -9223372036854775808 ≤ a) (h2 : a < 9223372036854775808) (h3 : -9223372036854775808 ≤ b) (h4 : b < 9223372036854775808) : iL a ≤ iL b ↔ a ≤ b := by
  rw [Int64.le_iff_toInt_le, iL_T h h2, iL_T h3 h4]
theorem iL_eq {a b : Int} (h : -9223372036854775808 ≤ a) (h2 : a < 9223372036854775808) (h3 : -9223372036854775808 ≤ b) (h4 : b < 9223372036854775808) : iL a = iL b ↔ a = b := by
  rw [← Int64.toInt_inj, iL_T h h2, iL_T h3 h4]
theorem iL_nat (n : Nat) : iL n = lN n := Int64.ofInt_eq_ofNat
theorem iI_L {a : Int} (h : -2147483648 ≤ a) (h2 : a < 2147483648) : (iI a).toInt64 = iL a := by
  rw [← Int64.ofInt_int32ToInt, iI_T h h2]; rfl
theorem iL_I (a : Int) : (iL a).toInt32 = iI a := Int64.toInt32_ofInt
/-- what lcmp answers, as an integer -/
theorem iL_cmp {a b : Int} (h : -9223372036854775808 ≤ a) (h2 : a < 9223372036854775808) (h3 : -9223372036854775808 ≤ b) (h4 : b < 9223372036854775808) : lg_cmp (iL a) (iL b) = iI (if b < a then 1 else if a = b then 0 else -1) := by
  unfold lg_cmp
  by_cases c1 : b < a
  · rw [if_pos (show iL a > iL b from (iL_lt h3 h4 h h2).mpr c1), if_pos c1]; rfl
  · rw [if_neg (show ¬ iL a > iL b from fun q => c1 ((iL_lt h3 h4 h h2).mp q)), if_neg c1]
    by_cases c2 : a = b
    · rw [if_pos (congrArg iL c2), if_pos c2]; rfl
    · rw [if_neg (fun q => c2 ((iL_eq h h2 h3 h4).mp q)), if_neg c2]; rfl
/-- shifts and masks of longs -/
theorem iL_bv (a : Int) : (iL a).toBitVec = BitVec.ofInt 64 a := rfl
theorem iL_mask {k : Nat} (hk : k < 64) (a : Int) : iL a &&& iL (2 ^ k - 1 : Int) = iL (a % 2 ^ k) := by
  apply Int64.toBitVec_inj.mp
  rw [Int64.toBitVec_and, iL_bv, iL_bv, iL_bv]
  apply BitVec.eq_of_toNat_eq
  have hp : (2 ^ k : Nat) ≤ 2 ^ 63 := Nat.pow_le_pow_right (by decide) (by omega)
  have hp0 : 0 < (2 ^ k : Nat) := Nat.two_pow_pos k
  have e1 : ((2 : Int) ^ k) = ((2 ^ k : Nat) : Int) := by simp
  rw [BitVec.toNat_and, BitVec.toNat_ofInt, BitVec.toNat_ofInt, BitVec.toNat_ofInt, e1]
  generalize hP : 2 ^ k = P at hp hp0
  have e2 : ((P : Int) - 1) % (2 ^ 64 : Nat) = ((P - 1 : Nat) : Int) := by omega
  have e3 : (a % (P : Int)) % (2 ^ 64 : Nat) = a % (P : Int) := by
    have := Int.emod_nonneg a (show (P : Int) ≠ 0 by omega)
    have := Int.emod_lt_of_pos a (show (0 : Int) < P by omega)
    exact Int.emod_eq_of_lt (by omega) (by omega)
  rw [e2, e3, Int.toNat_natCast, ← hP, Nat.and_two_pow_sub_one_eq_mod, hP]
  have e4 : (a % (2 ^ 64 : Nat)) % (P : Int) = a % P := Int.emod_emod_of_dvd a (by
    rw [← hP]
    exact_mod_cast Nat.pow_dvd_pow 2 (by omega : k ≤ 64))
  have n1 := Int.emod_nonneg a (show ((2 ^ 64 : Nat) : Int) ≠ 0 by decide)
  rw [← e4]
  generalize a % ((2 ^ 64 : Nat) : Int) = z at n1
  obtain ⟨n, rfl⟩ := Int.eq_ofNat_of_zero_le n1
  rfl
theorem iL_shr {k : Nat} (hk : k < 64) {a : Int} (h : -9223372036854775808 ≤ a) (h2 : a < 9223372036854775808) : iL a >>> ((iI k).toInt64 &&& 63) = iL (a / 2 ^ k) := by
  rw [iI_nat, wb_c k hk]
  apply Int64.toInt_inj.mp
  have e : (iL a >>> lN k).toInt = (iL a).toInt >>> k := by
    have e0 : ((lN k).toBitVec.smod 64).toNat = k := by
      rw [wb_tb, wb_sm k hk, BitVec.toNat_ofNat, Nat.mod_eq_of_lt (by omega)]
    have := BitVec.toInt_sshiftRight (x := (iL a).toBitVec) (n := ((lN k).toBitVec.smod 64).toNat)
    rw [e0] at this
    show (BitVec.sshiftRight (iL a).toBitVec ((lN k).toBitVec.smod 64).toNat).toInt = _
    rw [e0]
    exact this
  have hp0 : (0 : Int) < 2 ^ k := Int.pow_pos (by decide)
  have b1 : -9223372036854775808 ≤ a / 2 ^ k := by
    apply (Int.le_ediv_iff_mul_le hp0).mpr
    have : (1 : Int) ≤ 2 ^ k := hp0
    have := Int.mul_le_mul_of_nonpos_left (a := -9223372036854775808) (b := 2 ^ k) (c := 1) (by omega) this
    omega
  have b2 : a / 2 ^ k < 9223372036854775808 := by
    apply Int.ediv_lt_of_lt_mul hp0
    have : (1 : Int) ≤ 2 ^ k := hp0
    have := Int.mul_le_mul_of_nonneg_left (a := 1) (b := 2 ^ k) (c := 9223372036854775808) this (by omega)
    omega
  rw [e, Int.shiftRight_eq_div_pow, iL_T h h2, iL_T b1 b2]
  simp
theorem iL_shl {k : Nat} (hk : k < 64) {a : Nat} : iL a <<< ((iI k).toInt64 &&& 63) = iL ((a * 2 ^ k : Nat) : Int) := by
  rw [iI_nat, iL_nat, iL_nat, wb_shl a hk]
theorem iL_ushr {k : Nat} (hk : k < 64) {a : Nat} (ha : a < 18446744073709551616) : ((iL a).toUInt64 >>> ((iI k).toInt64.toUInt64 &&& Int64.toUInt64 63)).toInt64 = iL ((a / 2 ^ k : Nat) : Int) := by
  rw [iI_nat, iL_nat, iL_nat, wb_shr ha hk]
theorem iL_or {k a b : Nat} (ha : a < 2 ^ k) (h : b * 2 ^ k + a < 18446744073709551616) : iL ((b * 2 ^ k : Nat) : Int) ||| iL a = iL ((b * 2 ^ k + a : Nat) : Int) := by
  rw [iL_nat, iL_nat, iL_nat, g_or rfl ha h]
theorem iL_uns (x : Int64) : ∃ n : Nat, n < 18446744073709551616 ∧ x = iL n := by
  obtain ⟨n, h, e⟩ := wb_of x
  exact ⟨n, h, by rw [e, iL_nat]⟩
/-- the unsigned number of a long's absolute value -/
theorem iL_uabs {z : Int} (h : -9223372036854775808 ≤ z) (h2 : z < 9223372036854775808) : (if 0 < iL z then iL z else -iL z) = iL (z.natAbs : Int) := by
  have h0 : (0 : Int64) = iL 0 := rfl
  by_cases c : 0 < z
  · rw [if_pos (by rw [h0]; exact (iL_lt (by omega) (by omega) h h2).mpr c)]
    congr 1; omega
  · rw [if_neg (by rw [h0]; exact fun q => c ((iL_lt (by omega) (by omega) h h2).mp q)), iL_neg]
    congr 1; omega
/-- ints -/
theorem iI_shr {k : Nat} (hk : k < 32) {a : Nat} (h2 : a < 2147483648) : iI a >>> (iI k &&& 31) = iI ((a / 2 ^ k : Nat) : Int) := by
  rw [iI_nat, iI_nat, iI_nat]
  exact pk_shrN h2 _ k (s_l k hk)
theorem iI_ushr {k : Nat} (hk : k < 32) {a : Nat} (h2 : a < 4294967296) : ((iI a).toUInt32 >>> ((iI k).toUInt32 &&& Int32.toUInt32 31)).toInt32 = iI ((a / 2 ^ k : Nat) : Int) := by
  rw [iI_nat, iI_nat, iI_nat]
  exact pk_ushrN h2 _ k (s_u k hk)
theorem iI_mask {k a : Nat} (hk : k < 32) (ha : a < 4294967296) : iI a &&& iI ((2 ^ k - 1 : Nat) : Int) = iI ((a % 2 ^ k : Nat) : Int) := by
  rw [iI_nat, iI_nat, iI_nat]
  refine pk_andN ha k ?_
  have := Nat.pow_lt_pow_right (show 1 < 2 by decide) hk
  exact pk_tn (by omega)
