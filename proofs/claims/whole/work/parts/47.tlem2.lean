theorem Tx.mv {ty : Nat → ClassId} {ad : Nat → Nat} {F F' : Nat → va_E} {n : Nat} {tx : Nat → Nat} (h : Tx ty ad F n tx) (e1 : F' 96 = F 96) (e2 : F' 97 = F 97) : Tx ty ad F' n tx := by
  obtain ⟨h1, g, h2, h3⟩ := h
  exact ⟨e1.trans h1, g, e2.trans h2, h3⟩
theorem pw_preT {s : State} {H : Heap} {locs : List Loc} {D : va_G} {ty : Nat → ClassId} {ad : Nat → Nat} {M : Nat} {F : Nat → va_E} {A : Nat → Prop} (hw : pw D classes (tysL ty) ad M F A s H locs) {n : Nat} {tx : Nat → Nat} {As : List Value} (hi : 96 < M) (h : Tx ty ad F n tx) : PreV s H R_T (ad 96) (va_Pc (.ref (ad 96) :: As) (pPre D classes (tysL ty) ad M F H.size)) As := pw_preV hw hi h.1 rfl
theorem Tx.len {ty : Nat → ClassId} {ad : Nat → Nat} {F : Nat → va_E} {n : Nat} {tx : Nat → Nat} (h : Tx ty ad F n tx) : n ≤ 1400 := let ⟨_, _, _, h3, _⟩ := h; h3
def txp (tx : Nat → Nat) (n ch : Nat) : Nat → Nat := fun i => if i = n then ch else tx i
theorem txp_s (tx : Nat → Nat) (n ch : Nat) : txp tx n ch n = ch := if_pos rfl
theorem txp_n {tx : Nat → Nat} {n ch i : Nat} (h : i ≠ n) : txp tx n ch i = tx i := if_neg h
def frT (F F1 : Nat → va_E) : Prop := ∀ y, y ≠ 96 → y ≠ 97 → F1 y = F y
theorem tell_fit {v u d : Nat} (hv : sm v) (hu : u ≤ 1000000000) (hd : d < 1000000000) : u * v + d < 2147483648 ^ 136 := by
  have h1 : u * v ≤ 1000000000 * v := Nat.mul_le_mul_right _ hu
  have h2 : v < 2 ^ 2048 := hv
  have h3 : (2 : Nat) ^ 2048 * 2147483648 ≤ 2147483648 ^ 136 := by
    rw [pow31, show (2147483648 : Nat) = 2 ^ 31 from rfl, ← Nat.pow_add]
    exact Nat.pow_le_pow_right (by decide) (by decide)
  refine Nat.lt_of_lt_of_le ?_ h3
  generalize (2 : Nat) ^ 2048 = P at *
  omega
theorem dval_s (tx : Nat → Nat) (i k : Nat) : dval tx i (k + 1) = dval tx i k * 10 + (tx (i + k) - 48) := rfl
