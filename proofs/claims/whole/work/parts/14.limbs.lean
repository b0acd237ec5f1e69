/-! numbers in limbs: bv B d n is the number whose n lowest limbs to the base B are d 0, d 1, .. -/
def bv (B : Nat) (d : Nat → Nat) : Nat → Nat
  | 0 => 0
  | n + 1 => bv B d n + d n * B ^ n
theorem bv_0 (B : Nat) (d : Nat → Nat) : bv B d 0 = 0 := rfl
theorem bv_s (B : Nat) (d : Nat → Nat) (n : Nat) : bv B d (n + 1) = bv B d n + d n * B ^ n := rfl
theorem bv_congr {B : Nat} {d e : Nat → Nat} : ∀ {n : Nat}, (∀ i, i < n → d i = e i) → bv B d n = bv B e n
  | 0, _ => rfl
  | n + 1, h => by rw [bv_s, bv_s, bv_congr (fun i hi => h i (by omega)), h n (by omega)]
theorem bv_lt {B : Nat} {d : Nat → Nat} : ∀ {n : Nat}, (∀ i, i < n → d i < B) → bv B d n < B ^ n
  | 0, _ => by simp [bv_0]
  | n + 1, h => by
    have h1 := bv_lt (n := n) (fun i hi => h i (by omega))
    have h2 : d n + 1 ≤ B := h n (by omega)
    have h3 : (d n + 1) * B ^ n ≤ B * B ^ n := Nat.mul_le_mul_right _ h2
    rw [bv_s, Nat.pow_succ, Nat.mul_comm (B ^ n) B]
    rw [Nat.add_mul, Nat.one_mul] at h3
    omega
theorem bv_split (B : Nat) (d : Nat → Nat) (a : Nat) : ∀ b : Nat, bv B d (a + b) = bv B d a + B ^ a * bv B (fun i => d (a + i)) b
  | 0 => by simp [bv_0]
  | b + 1 => by
    rw [← Nat.add_assoc, bv_s, bv_split B d a b, bv_s, Nat.mul_add, Nat.pow_add, Nat.add_assoc]
    congr 2
    rw [Nat.mul_left_comm]
theorem bv_top {B : Nat} {d : Nat → Nat} {n : Nat} (h : d n ≠ 0) : B ^ n ≤ bv B d (n + 1) := by
  have : 1 * B ^ n ≤ d n * B ^ n := Nat.mul_le_mul_right _ (by omega)
  rw [bv_s]; omega
theorem bv_zero {B : Nat} {d : Nat → Nat} : ∀ {n : Nat}, (∀ i, i < n → d i = 0) → bv B d n = 0
  | 0, _ => rfl
  | n + 1, h => by rw [bv_s, bv_zero (fun i hi => h i (by omega)), h n (by omega)]; simp
/-- trailing zeros above don't count -/
theorem bv_trim {B : Nat} {d : Nat → Nat} {k : Nat} : ∀ {n : Nat}, k ≤ n → (∀ i, k ≤ i → i < n → d i = 0) → bv B d n = bv B d k
  | 0, h, _ => by rw [show k = 0 by omega]
  | n + 1, h, hz => by
    by_cases c : k = n + 1
    · rw [c]
    · rw [bv_s, hz n (by omega) (by omega), bv_trim (by omega) (fun i h1 h2 => hz i h1 (by omega))]; simp
/-- a greater limb decides, if those above are the same -/
theorem bv_cmp {B : Nat} {d e : Nat → Nat} {n k : Nat} (hk : k < n) (hd : ∀ i, i < n → d i < B) (heq : ∀ i, k < i → i < n → d i = e i) (h : d k < e k) : bv B d n < bv B e n := by
  obtain ⟨r, rfl⟩ : ∃ r, n = (k + 1) + r := ⟨n - (k + 1), by omega⟩
  rw [bv_split B d, bv_split B e, bv_congr (B := B) (d := fun i => d (k + 1 + i)) (e := fun i => e (k + 1 + i)) (fun i hi => heq _ (by omega) (by omega)), bv_s, bv_s]
  have h1 : bv B d k < B ^ k := bv_lt (fun i hi => hd i (by omega))
  have h2 : (d k + 1) * B ^ k ≤ e k * B ^ k := Nat.mul_le_mul_right _ h
  rw [Nat.add_mul, Nat.one_mul] at h2
  omega
/-- more limbs, the highest of which is not 0 -/
theorem bv_size {B : Nat} {d e : Nat → Nat} {n k : Nat} (hB : 0 < B) (h : n < k) (hd : ∀ i, i < n → d i < B) (he : e (k - 1) ≠ 0) : bv B d n < bv B e k := by
  obtain ⟨j, rfl⟩ : ∃ j, k = j + 1 := ⟨k - 1, by omega⟩
  have h1 := bv_lt hd
  have h2 : B ^ j ≤ bv B e (j + 1) := bv_top he
  have h3 : B ^ n ≤ B ^ j := Nat.pow_le_pow_right hB (by omega)
  omega
theorem bv_eq0 {B : Nat} {d : Nat → Nat} {n : Nat} (hB : 0 < B) (hn : n = 0 ∨ d (n - 1) ≠ 0) : bv B d n = 0 ↔ n = 0 := by
  constructor
  · intro h
    rcases hn with hn | hn
    · exact hn
    · rcases Nat.eq_zero_or_pos n with c | c
      · exact c
      · obtain ⟨j, rfl⟩ : ∃ j, n = j + 1 := ⟨n - 1, by omega⟩
        have h2 : B ^ j ≤ bv B d (j + 1) := bv_top hn
        have h3 : 0 < B ^ j := Nat.pow_pos hB
        omega
  · rintro rfl; rfl
/-- the limbs of an int array, without sign -/
def dl (g : Nat → Int32) (i : Nat) : Nat := (g i).toBitVec.toNat
theorem dl_get {g : Nat → Int32} {i : Nat} (_ : dl g i < 2147483648) : g i = iI (dl g i) := by
  rw [iI_nat]
  apply Int32.toBitVec_inj.mp
  apply BitVec.eq_of_toNat_eq
  show dl g i = (BitVec.ofNat 32 (dl g i)).toNat
  rw [BitVec.toNat_ofNat, Nat.mod_eq_of_lt]
  exact (g i).toBitVec.isLt
theorem dl_iI {n : Nat} (h : n < 4294967296) : (iI n).toBitVec.toNat = n := by
  rw [iI_nat]; exact pk_tn h
theorem dl_us {g : Nat → Int32} {k n : Nat} (h : n < 4294967296) : dl (upd g k (iI n)) k = n := by
  show (upd g k (iI n) k).toBitVec.toNat = n
  rw [pk_us, dl_iI h]
theorem dl_un {g : Nat → Int32} {k j : Nat} {x : Int32} (h : j ≠ k) : dl (upd g k x) j = dl g j := by
  show (upd g k x j).toBitVec.toNat = _
  rw [pk_un h]; rfl
theorem dl_of {g : Nat → Int32} {k n : Nat} (h : n < 4294967296) (e : g k = iI n) : dl g k = n := by
  show (g k).toBitVec.toNat = n
  rw [e, dl_iI h]
/-- powers -/
theorem pw_pos {B : Nat} (hB : 0 < B) (n : Nat) : 0 < B ^ n := Nat.pow_pos hB
/-- one limb with its carry -/
theorem carry_step (B S P : Nat) : (S % B) * P + (S / B) * (P * B) = S * P := by
  have h := Nat.mod_add_div S B
  have : S * P = (S % B + B * (S / B)) * P := by rw [h]
  rw [this, Nat.add_mul]
  congr 1
  rw [Nat.mul_comm B, Nat.mul_assoc, Nat.mul_comm B P]
theorem carry_stepI (B S P : Int) : (S % B) * P + (S / B) * (P * B) = S * P := by
  have h := Int.emod_add_mul_ediv S B
  have : S * P = (S % B + B * (S / B)) * P := by rw [h]
  rw [this, Int.add_mul]
  congr 1
  rw [Int.mul_comm B, Int.mul_assoc, Int.mul_comm B P]
