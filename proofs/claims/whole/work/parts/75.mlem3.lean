/-! the reference: power, combine: lemmas -/
theorem raise_b {A B : Prop} {r : Int32} (h : (A ∧ r = iI 1 ∧ B) ∨ (¬ A ∧ r = iI 0)) : r = iI 1 ∨ r = iI 0 := h.elim (fun x => Or.inl x.2.1) (fun x => Or.inr x.2)
theorem raise_n {A B : Prop} {r : Int32} (h : (A ∧ r = iI 1 ∧ B) ∨ (¬ A ∧ r = iI 0)) (c : r = iI 0) : ¬ A := by
  rcases h with ⟨_, e, _⟩ | ⟨n, _⟩
  · rw [e] at c; exact absurd c (by decide)
  · exact n
theorem raise_y {A B : Prop} {r : Int32} (h : (A ∧ r = iI 1 ∧ B) ∨ (¬ A ∧ r = iI 0)) (c : r ≠ iI 0) : A ∧ B := by
  rcases h with ⟨a, _, b⟩ | ⟨_, e⟩
  · exact ⟨a, b⟩
  · exact absurd e c
theorem bb_ne {a b : Nat} (ha : 0 < a) (hb : 0 < b) : ((a * b : Nat) : Int) ≠ 0 := by have := Nat.mul_pos ha hb; omega
theorem jz_md {lz : Nat} {x y : Int} (h : lz ≤ 1) (hx : pr x.natAbs) (hy : pr y.natAbs) : md (jz lz x y).natAbs := by
  refine (hx.add hy).le ?_
  obtain rfl | rfl : lz = 0 ∨ lz = 1 := by omega
  · rw [jz0]; omega
  · rw [jz1]; omega
theorem gcd_md {x y : Int} (hx : sm x.natAbs) (hy : sm y.natAbs) : md (Int.natAbs ((Nat.gcd x.natAbs y.natAbs : Nat) : Int)) := by
  rw [Int.natAbs_natCast]
  rcases Nat.eq_zero_or_pos x.natAbs with c | c
  · rw [c, Nat.gcd_zero_left]; exact hy.toMd
  · exact hx.toMd.le (Nat.gcd_le_left _ c)
theorem pw_neg {z n : Int} {b nn : Nat} (h : n < 0) (hn : nn = n.natAbs) : pwV z b n = (flZ (z ^ nn) ((b ^ nn : Nat) : Int), z.natAbs ^ nn) := by rw [pwV, if_pos h, hn]
theorem pw_pos9 {z n : Int} {b nn : Nat} (h : 0 ≤ n) (hn : nn = n.natAbs) : pwV z b n = (z ^ nn, b ^ nn) := by rw [pwV, if_neg (by omega), hn]
theorem pw_nn (b nn : Nat) : 0 ≤ ((b : Nat) : Int) ^ nn := by rw [← Int.natCast_pow]; exact Int.natCast_nonneg _
theorem pw_abs (b nn : Nat) : (((b : Nat) : Int) ^ nn).natAbs = b ^ nn := by rw [Int.natAbs_pow, Int.natAbs_natCast]
theorem pw_b0 {b nn : Nat} (h : 0 < b) : ((b : Nat) : Int) ^ nn ≠ 0 := by rw [← Int.natCast_pow]; have := Nat.pow_pos (n := nn) h; omega
theorem pw_z0 {z n : Int} {nn : Nat} (hd : ¬ (n < 0 ∧ z = 0)) (_ : nn = n.natAbs) (h : n < 0) : z ^ nn ≠ 0 := by
  intro h2
  have h3 : (z ^ nn).natAbs = 0 := by rw [h2]; rfl
  rw [Int.natAbs_pow] at h3
  have : 0 < z.natAbs ^ nn := Nat.pow_pos (by omega)
  omega
theorem pw_big {g : Sg} {u b nn : Nat} {z n : Int} (hg : Nat.gcd z.natAbs b = 1) (hn : nn = n.natAbs) (h : ¬ sm (z.natAbs ^ nn) ∨ ¬ sm (((b : Nat) : Int).natAbs ^ nn)) : s_lay g u (pwV z b n).1 (pwV z b n).2 = (-1, g) := by
  rw [Int.natAbs_natCast] at h
  have hgp : Nat.gcd (z.natAbs ^ nn) (b ^ nn) = 1 := Nat.Coprime.pow _ _ hg
  unfold pwV
  rw [← hn]
  by_cases c : n < 0
  · rw [if_pos c]
    dsimp only
    rw [s_lay_1 _ _ _ _ (by rw [flZ_abs, Int.natAbs_natCast, Nat.gcd_comm]; exact hgp), s_keep, cif_neg]
    rw [flZ_abs, Int.natAbs_natCast]
    exact fun h9 => h.elim (fun x => x h9.2) (fun x => x h9.1)
  · rw [if_neg c]
    dsimp only
    rw [s_lay_1 _ _ _ _ (by rw [Int.natAbs_pow]; exact hgp), s_keep, cif_neg]
    rw [Int.natAbs_pow]
    exact fun h9 => h.elim (fun x => x h9.1) (fun x => x h9.2)
