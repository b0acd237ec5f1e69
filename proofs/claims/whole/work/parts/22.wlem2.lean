/-! arithmetic of a Whole's loops -/
theorem bv_cons (B : Nat) (d : Nat → Nat) : ∀ n : Nat, bv B d (n + 1) = d 0 + B * bv B (fun t => d (t + 1)) n
  | 0 => by simp [bv]
  | n + 1 => by
    rw [bv_s, bv_cons B d n, bv_s, Nat.mul_add, Nat.pow_succ]
    have : d (n + 1) * (B ^ n * B) = B * (d (n + 1) * B ^ n) := by ac_rfl
    omega
theorem dl3 {g g1 g2 g3 : Nat → Int32} {a b c : Nat} (ha : a < 2147483648) (hb : b < 2147483648) (hc : c < 2147483648) (e1 : g1 = upd g 0 (iI a)) (e2 : g2 = upd g1 1 (iI b)) (e3 : g3 = upd g2 2 (iI c)) :
    (∀ i, i < 3 → dl g3 i < 2147483648) ∧ bv 2147483648 (dl g3) 3 = a + b * 2147483648 + c * 4611686018427387904 := by
  have h0 : dl g3 0 = a := by rw [e3, dl_un (by decide), e2, dl_un (by decide), e1, dl_us (by omega)]
  have h1 : dl g3 1 = b := by rw [e3, dl_un (by decide), e2, dl_us (by omega)]
  have h2 : dl g3 2 = c := by rw [e3, dl_us (by omega)]
  constructor
  · intro i hi
    rcases (show i = 0 ∨ i = 1 ∨ i = 2 by omega) with rfl | rfl | rfl <;> omega
  · show ((0 + dl g3 0 * 2147483648 ^ 0) + dl g3 1 * 2147483648 ^ 1) + dl g3 2 * 2147483648 ^ 2 = _
    rw [h0, h1, h2]; omega
/-- a word of 32 bits out of two limbs of 31 -/
theorem word_eq {v i o k : Nat} (ho : o ≤ 30) (hk : 32 * k = 31 * i + o) : v / 2 ^ (32 * k) % 4294967296 = ((v / 2147483648 ^ (i + 1) % 2147483648) * 2 ^ (31 - o) + (v / 2147483648 ^ i % 2147483648) / 2 ^ o) % 4294967296 := by
  rw [hk, Nat.pow_add, ← pow31, ← Nat.div_div_eq_div_mul, Nat.pow_succ, ← Nat.div_div_eq_div_mul v]
  generalize v / 2147483648 ^ i = q
  have hB : 2147483648 = 2 ^ o * 2 ^ (31 - o) := by rw [← Nat.pow_add, show o + (31 - o) = 31 by omega]
  have hp : 0 < 2 ^ o := Nat.two_pow_pos o
  have e1 : q = 2147483648 * (q / 2147483648) + q % 2147483648 := (Nat.div_add_mod q _).symm
  have e2 : q / 2 ^ o = 2 ^ (31 - o) * (q / 2147483648) + q % 2147483648 / 2 ^ o := by
    have : 2147483648 * (q / 2147483648) = 2 ^ o * (2 ^ (31 - o) * (q / 2147483648)) := by
      rw [← Nat.mul_assoc, ← hB]
    calc q / 2 ^ o = (2 ^ o * (2 ^ (31 - o) * (q / 2147483648)) + q % 2147483648) / 2 ^ o := by rw [← this, ← e1]
      _ = _ := Nat.mul_add_div hp _ _
  generalize hr : q / 2147483648 = r at e2
  have e3 : r = 2147483648 * (r / 2147483648) + r % 2147483648 := (Nat.div_add_mod r _).symm
  have e4 : 2 ^ (31 - o) * r = 4294967296 * (2 ^ (30 - o) * (r / 2147483648)) + r % 2147483648 * 2 ^ (31 - o) := by
    have h1 : 2 ^ (31 - o) = 2 ^ (30 - o) * 2 := by rw [show 31 - o = (30 - o) + 1 by omega, Nat.pow_succ]
    have h2 : 2 ^ (31 - o) * r = 2 ^ (31 - o) * (2147483648 * (r / 2147483648)) + 2 ^ (31 - o) * (r % 2147483648) := by rw [← Nat.mul_add, ← e3]
    have h3 : 2 ^ (31 - o) * (2147483648 * (r / 2147483648)) = 4294967296 * (2 ^ (30 - o) * (r / 2147483648)) := by
      rw [h1, show (4294967296 : Nat) = 2 * 2147483648 by decide]; ac_rfl
    rw [h2, h3, Nat.mul_comm (2 ^ (31 - o)) (r % 2147483648)]
  rw [e2, e4, Nat.add_assoc, Nat.mul_add_mod]
theorem lmz_nat {N n v : Nat} {g : Nat → Int32} (h : Wok N n g v) (i : Nat) : lmz g n i = v / 2147483648 ^ i % 2147483648 := by
  rw [← h.2.2.2, bv_limb (by decide) h.2.1]
  unfold lmz lm
  by_cases c : i < n
  · rw [if_pos (by omega), if_pos c]; rfl
  · rw [if_neg (by omega), if_neg c]
/-- a product by a limb and a carry -/
theorem tp_step {B F x c S d e D i : Nat} (h : S + c * B ^ i = F * D + e) (hS : d = (F * x + c) % B) : (S + d * B ^ i) + ((F * x + c) / B) * B ^ (i + 1) = F * (D + x * B ^ i) + e := by
  have k := carry_step B (F * x + c) (B ^ i)
  rw [hS, Nat.pow_succ, Nat.mul_add]
  rw [Nat.add_mul] at k
  have : F * (x * B ^ i) = F * x * B ^ i := by ac_rfl
  omega
/-- its highest limb is not 0, as the number is not smaller than it was -/
theorem top_ne {B n v : Nat} {d : Nat → Nat} (hd : ∀ i, i < n → d i < B) (hv : 0 < n → B ^ (n - 1) ≤ v) (h : bv B d n = v) : n = 0 ∨ d (n - 1) ≠ 0 := by
  rcases Nat.eq_zero_or_pos n with c | c
  · exact Or.inl c
  · refine Or.inr (fun q => ?_)
    obtain ⟨j, rfl⟩ : ∃ j, n = j + 1 := ⟨n - 1, by omega⟩
    rw [Nat.add_sub_cancel] at q
    have h1 := hv c
    rw [Nat.add_sub_cancel] at h1
    rw [bv_s, q] at h
    have h2 : bv B d j < B ^ j := bv_lt (fun i hi => hd i (by omega))
    omega
