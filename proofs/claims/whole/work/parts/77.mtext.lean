/-! the reference: its text -/
def dgI (tx : Nat → Nat) (n i : Nat) : Nat := if i < n ∧ isd (tx i) then 1 else 0
theorem dgI_1 {tx : Nat → Nat} {n i : Nat} (h : i < n ∧ isd (tx i)) : iI 1 = iI (dgI tx n i : Int) := by rw [dgI, if_pos h]; rfl
theorem dgI_0 {tx : Nat → Nat} {n i : Nat} (h : ¬ (i < n ∧ isd (tx i))) : iI 0 = iI (dgI tx n i : Int) := by rw [dgI, if_neg h]; rfl
theorem dgI_y {tx : Nat → Nat} {n i : Nat} (h : (dgI tx n i : Int) ≠ 0) : i < n ∧ isd (tx i) := Classical.byContradiction (fun h9 => by rw [dgI, if_neg h9] at h; exact absurd rfl h)
theorem dgI_n {tx : Nat → Nat} {n i : Nat} (h : (dgI tx n i : Int) = 0) : ¬ (i < n ∧ isd (tx i)) := fun h9 => by rw [dgI, if_pos h9] at h; exact absurd h (by decide)
theorem dgI_b (tx : Nat → Nat) (n i : Nat) : dgI tx n i ≤ 1 := by unfold dgI; split <;> decide
theorem dend_y {tx : Nat → Nat} {n i : Nat} (h : i < n ∧ isd (tx i)) : dend tx (n - (i + 1)) (i + 1) = dend tx (n - i) i := by
  rw [show n - i = (n - (i + 1)) + 1 by omega]
  show _ = if isd (tx i) then _ else _
  rw [if_pos h.2]
theorem dend_n {tx : Nat → Nat} {n i : Nat} (h : ¬ (i < n ∧ isd (tx i))) (hi : i ≤ n) : dend tx (n - i) i = i := by
  by_cases c : i < n
  · rw [show n - i = (n - (i + 1)) + 1 by omega]
    show (if isd (tx i) then _ else _) = i
    rw [if_neg (fun h9 => h ⟨c, h9⟩)]
  · rw [show n - i = 0 by omega]; rfl
theorem az_s (tx : Nat → Nat) : ∀ k i : Nat, az tx (k + 1) i = (az tx k i && decide (tx (i + k) = 48))
  | 0, i => by simp [az]
  | k + 1, i => by
    show (decide (tx i = 48) && az tx (k + 1) (i + 1)) = ((decide (tx i = 48) && az tx k (i + 1)) && _)
    rw [az_s tx k (i + 1), Bool.and_assoc, show i + 1 + k = i + (k + 1) by omega]
def azN (tx : Nat → Nat) (k i : Nat) : Nat := if az tx k i = true then 0 else 1
theorem azN_b (tx : Nat → Nat) (k i : Nat) : azN tx k i ≤ 1 := by unfold azN; split <;> decide
theorem azN_0 (tx : Nat → Nat) (i : Nat) : azN tx 0 i = 0 := rfl
theorem azN_1 {tx : Nat → Nat} {k i : Nat} (h : azN tx k i ≠ 0 ∨ tx (i + k) ≠ 48) : 1 = azN tx (k + 1) i := by
  unfold azN at *
  rw [az_s]
  by_cases c : az tx k i = true
  · rw [if_pos c] at h
    have h2 := h.resolve_left (by simp)
    simp [c, h2]
  · simp [c]
theorem azN_z {tx : Nat → Nat} {k i : Nat} (h : azN tx k i = 0) (h2 : tx (i + k) = 48) : 0 = azN tx (k + 1) i := by
  unfold azN at *
  rw [az_s]
  by_cases c : az tx k i = true
  · simp [c, h2]
  · rw [if_neg c] at h; exact absurd h (by decide)
def xx (P : Nat → Int32) (k n : Nat) : Nat := bv 65536 (fun i => dl P (12300 + k + i)) n
theorem xx_c (P : Nat → Int32) (k n : Nat) : xx P k (n + 1) = dl P (12300 + k) + 65536 * xx P (k + 1) n := by
  unfold xx
  rw [bv_cons]
  congr 2
  exact bv_congr (fun i _ => by rw [show 12300 + k + (i + 1) = 12300 + (k + 1) + i by omega])
theorem xx_0 (P : Nat → Int32) (n : Nat) : xx P 0 n = bvP P 41 n := rfl
theorem xs_loop {P8 P9 : Nat → Int32} {k n cy x0 : Nat} (hkn : k + 1 ≤ n) (hU : xx P8 (k + 1) (n - (k + 1)) = xx P9 (k + 1) (n - (k + 1)) * 10 + cy) (hx : x0 = cy * 65536 + dl P8 (12300 + k)) (hq : x0 / 10 < 65536) :
    xx P8 k (n - k) = xx (upd P9 (12300 + k) (iI ((x0 / 10 : Nat) : Int))) k (n - k) * 10 + x0 % 10 := by
  rw [show n - k = (n - (k + 1)) + 1 by omega, xx_c, xx_c, dl_us (by omega)]
  have e : xx (upd P9 (12300 + k) (iI ((x0 / 10 : Nat) : Int))) (k + 1) (n - (k + 1)) = xx P9 (k + 1) (n - (k + 1)) := bv_congr (fun i _ => dl_un (by omega))
  rw [e]
  exact us_step (p := 0) hU hx
theorem dec_620 {v m : Nat} (h : sm v) (hm : v / 10 ^ m ≠ 0) : m < 620 := by
  apply Nat.lt_of_not_le
  intro c
  have e1 : 10 ^ 620 ≤ 10 ^ m := Nat.pow_le_pow_right (by decide) c
  have e2 : (2 : Nat) ^ 2048 ≤ 10 ^ 620 := Nat.le_of_ble_eq_true (by decide +kernel)
  exact hm (Nat.div_eq_of_lt (Nat.lt_of_lt_of_le h (Nat.le_trans e2 e1)))
theorem len_0 : dlen 0 = 1 := (dlen_of (v := 0) (L := 1) ⟨by decide, by decide, Or.inl rfl⟩).symm
theorem len_m {v m : Nat} (h0 : v / 10 ^ m = 0) (h1 : v / 10 ^ (m - 1) ≠ 0) (hm : 0 < m) : dlen v = m := by
  refine (dlen_of ⟨hm, ?_, Or.inr ?_⟩).symm
  · exact (Nat.div_eq_zero_iff_lt (Nat.pow_pos (by decide))).mp h0
  · exact Nat.le_of_not_lt (fun h9 => h1 (Nat.div_eq_of_lt h9))
