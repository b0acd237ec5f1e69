/-! the text -/
abbrev oT (ad : Nat → Nat) (n : Int) : va_E := .inr (2, [.ref (ad (97)), .int (iI (n))])
abbrev aC (ty : Nat → ClassId) (g : Nat → Int32) : va_E := .inl (ty 1, 1400, .inl (g))
/-- the text has n characters tx -/
def Tx (ty : Nat → ClassId) (ad : Nat → Nat) (F : Nat → va_E) (n : Nat) (tx : Nat → Nat) : Prop := F 96 = oT ad n ∧ ∃ g, F 97 = aC ty g ∧ n ≤ 1400 ∧ (∀ i, i < n → g i = iI (tx i)) ∧ ∀ i, i < n → tx i < 128
theorem nar_ch {q : Nat} (h : q < 65536) : vp_nar .char (iI q) = iI q := by
  unfold vp_nar; rw [iI_nat, (pk_charN h).1]
theorem i2c_ch {q : Nat} (h : q < 65536) : ((iI q).toUInt32 % 65536).toInt32 = iI q := by
  rw [iI_nat, pk_char, pk_tn (by omega), Nat.mod_eq_of_lt h]
def tat (tx : Nat → Nat) (n : Nat) (i : Int) : Int := if 0 ≤ i ∧ i < n then (tx i.toNat : Int) else -1
theorem tat_b {tx : Nat → Nat} {n : Nat} (h : ∀ i, i < n → tx i < 128) (i : Int) : -1 ≤ tat tx n i ∧ tat tx n i < 128 := by
  unfold tat; split
  · have := h i.toNat (by omega); omega
  · omega
theorem tat_n {tx : Nat → Nat} {n i : Nat} (h : i < n) : tat tx n (i : Int) = tx i := by
  unfold tat; rw [if_pos (by omega)]; rfl
/-- a decimal digit -/
abbrev isd (c : Nat) : Prop := 48 ≤ c ∧ c ≤ 57
/-- where the digits from i on end, k places left -/
def dend (tx : Nat → Nat) : Nat → Nat → Nat
  | 0, i => i
  | k + 1, i => if isd (tx i) then dend tx k (i + 1) else i
theorem dend_b (tx : Nat → Nat) : ∀ (k i : Nat), i ≤ dend tx k i ∧ dend tx k i ≤ i + k
  | 0, i => by simp [dend]
  | k + 1, i => by
    have h := dend_b tx k (i + 1)
    unfold dend; split <;> omega
theorem dend_d (tx : Nat → Nat) : ∀ (k i j : Nat), i ≤ j → j < dend tx k i → isd (tx j)
  | 0, i, j, h1, h2 => by simp [dend] at h2; omega
  | k + 1, i, j, h1, h2 => by
    unfold dend at h2
    by_cases c : isd (tx i)
    · rw [if_pos c] at h2
      by_cases e : j = i
      · rw [e]; exact c
      · exact dend_d tx k (i + 1) j (by omega) h2
    · rw [if_neg c] at h2; omega
/-- whether k characters from i on are all '0' -/
def az (tx : Nat → Nat) : Nat → Nat → Bool
  | 0, _ => true
  | k + 1, i => decide (tx i = 48) && az tx k (i + 1)
/-- what k digits from i on tell -/
def dval (tx : Nat → Nat) (i : Nat) : Nat → Nat
  | 0 => 0
  | k + 1 => dval tx i k * 10 + (tx (i + k) - 48)
theorem dval_le (tx : Nat → Nat) (i : Nat) : ∀ {k m : Nat}, k ≤ m → dval tx i k ≤ dval tx i m
  | k, 0, h => by rw [show k = 0 by omega]; exact Nat.le_refl _
  | k, m + 1, h => by
    by_cases c : k = m + 1
    · rw [c]; exact Nat.le_refl _
    · have := dval_le tx i (show k ≤ m by omega)
      show dval tx i k ≤ dval tx i m * 10 + _
      omega
/-- where a text starts its digits -/
def fdig (tx : Nat → Nat) (n : Nat) : Nat := if 0 < n ∧ tx 0 = 45 then 1 else 0
theorem fdig_eq {tx : Nat → Nat} {n : Nat} : tat tx n 0 = 45 ↔ (0 < n ∧ tx 0 = 45) := by
  unfold tat
  by_cases c : 0 < n
  · rw [if_pos (by omega)]
    show ((tx 0 : Nat) : Int) = 45 ↔ _
    omega
  · rw [if_neg (by omega)]; omega
theorem fdig_le {tx : Nat → Nat} {n : Nat} : fdig tx n ≤ n ∧ fdig tx n ≤ 1 := by
  unfold fdig; split <;> omega
/-- where a text goes wrong, or -1 -/
def wrongT (tx : Nat → Nat) (n : Nat) : Int :=
  let a := fdig tx n
  let b := dend tx (n - a) a
  if a < b ∧ b = n then -1 else if b = a ∨ ¬ (b < n ∧ tx b = 47) then b else
    let c := dend tx (n - (b + 1)) (b + 1)
    if c = n ∧ az tx (c - (b + 1)) (b + 1) = false then -1 else c
