/-! write, read -/
noncomputable def dlen (v : Nat) : Nat := @Classical.epsilon Nat ⟨0⟩ (isLen v)
theorem dlen_of {v L : Nat} (h : isLen v L) : L = dlen v := h.uniq (@Classical.epsilon_spec_aux Nat ⟨0⟩ (isLen v) ⟨L, h⟩)
noncomputable def decS (tx : Nat → Nat) (n v : Nat) : Nat → Nat := fun i => if i < n then tx i else 48 + v / 10 ^ (dlen v - 1 - (i - n)) % 10
theorem decT_S {tx tz : Nat → Nat} {n v L : Nat} (h : decT tx tz n v L) : ∀ i, i < n + L → tz i = decS tx n v i := by
  obtain ⟨h1, h2, h3⟩ := h
  intro i hi
  unfold decS
  by_cases c : i < n
  · rw [if_pos c]; exact h2 i c
  · rw [if_neg c, ← dlen_of h1]
    have := h3 (i - n) (by omega)
    rw [show n + (i - n) = i by omega] at this
    exact this
theorem decS_ext {tx ty9 : Nat → Nat} {n v : Nat} (h : ∀ i, i < n → tx i = ty9 i) (i : Nat) : decS tx n v i = decS ty9 n v i := by
  unfold decS; split
  · exact h i (by assumption)
  · rfl
theorem isLen_620 {v L : Nat} (h : isLen v L) (hs : sm v) : L ≤ 620 := by
  obtain ⟨h1, h2, h3⟩ := h
  rcases h3 with h3 | h3
  · omega
  · apply Nat.le_of_not_lt
    intro c
    have e1 : 10 ^ 620 ≤ 10 ^ (L - 1) := Nat.pow_le_pow_right (by decide) (by omega)
    have e2 : (2 : Nat) ^ 2048 ≤ 10 ^ 620 := Nat.le_of_ble_eq_true (by decide +kernel)
    exact absurd hs (Nat.not_lt.mpr (Nat.le_trans e2 (Nat.le_trans e1 h3)))
/-- the text of a fraction -/
noncomputable def wr1 (z : Int) : Nat × (Nat → Nat) := (sB z + dlen z.natAbs, decS (fun _ => 45) (sB z) z.natAbs)
noncomputable def wrS (z : Int) (b : Nat) : Nat × (Nat → Nat) := cif (b = 1) (wr1 z) ((wr1 z).1 + 1 + dlen b, decS (txp (wr1 z).2 (wr1 z).1 47) ((wr1 z).1 + 1) b)
noncomputable def o_write (g : Sg) (a : Int) : An := cif (isR a) (0, ((wrS (zS g a.toNat) (bS g a.toNat)).1 : Int), (zS g, bS g, (wrS (zS g a.toNat) (bS g a.toNat)).1, (wrS (zS g a.toNat) (bS g a.toNat)).2, pS g)) (1, 0, g)
theorem Bn.set91 {ty : Nat → ClassId} {ad : Nat → Nat} {F F' : Nat → va_E} (h : Bn ty ad F) (hw : Wa ty ad F' 91 136) (e : ∀ y, 82 ≤ y → y ≤ 95 → y ≠ 91 → y ≠ 92 → F' y = F y) : Bn ty ad F' := by
  obtain ⟨⟨bb, h1, h2⟩, h3, h4, h5, h6, -, ⟨f, g, hh, k, h8⟩, h9⟩ := h
  exact ⟨⟨bb, h1, (e _ (by omega) (by omega) (by omega) (by omega)).trans h2⟩, h3.mv2 (fun y _ _ => e y (by omega) (by omega) (by omega) (by omega)), h4.mv2 (fun y _ _ => e y (by omega) (by omega) (by omega) (by omega)), h5.mv2 (fun y _ _ => e y (by omega) (by omega) (by omega) (by omega)), h6.mv2 (fun y _ _ => e y (by omega) (by omega) (by omega) (by omega)), hw, ⟨f, g, hh, k, (e _ (by omega) (by omega) (by omega) (by omega)).trans h8⟩, h9.mv2 (fun y _ _ => e y (by omega) (by omega) (by omega) (by omega))⟩
theorem Dk.tb {ty : Nat → ClassId} {ad : Nat → Nat} {F F' : Nat → va_E} {g : Sg} (h : Dk ty ad F g) {n : Nat} {tx : Nat → Nat} (hB : Bn ty ad F') (ht : Tx ty ad F' n tx) (e : ∀ y, y < 82 ∨ 97 < y → F' y = F y) : Dk ty ad F' (zS g, bS g, n, tx, pS g) :=
  ⟨(e _ (by omega)).trans h.1, h.2.1.mv (fun y _ _ => e y (by omega)), hB, ht⟩
noncomputable def o_read (g : Sg) (to : Int) : An := cif (isR to) (cif (wrongT (tS g) (nS g) = -1) (cif (sm (numT (tS g) (nS g)) ∧ sm (denT (tS g) (nS g))) (0, 0, (s_lay (zS g, bS g, 0, tS g, pS g) to.toNat (sg (fdig (tS g) (nS g)) (numT (tS g) (nS g))) (denT (tS g) (nS g))).2) (0, -1, g)) (2, 0, (zS g, bS g, nS g, tS g, wrongT (tS g) (nS g)))) (1, 0, g)
theorem wrongT_b {tx : Nat → Nat} {n : Nat} (hn : n ≤ 1400) : -1 ≤ wrongT tx n ∧ wrongT tx n ≤ 1400 := by
  have h1 := @fdig_le tx n
  have h2 := dend_b tx (n - fdig tx n) (fdig tx n)
  have h3 := dend_b tx (n - (dend tx (n - fdig tx n) (fdig tx n) + 1)) (dend tx (n - fdig tx n) (fdig tx n) + 1)
  unfold wrongT
  dsimp only
  by_cases c1 : fdig tx n < dend tx (n - fdig tx n) (fdig tx n) ∧ dend tx (n - fdig tx n) (fdig tx n) = n
  · rw [if_pos c1]; omega
  · rw [if_neg c1]
    by_cases c2 : dend tx (n - fdig tx n) (fdig tx n) = fdig tx n ∨ ¬ (dend tx (n - fdig tx n) (fdig tx n) < n ∧ tx (dend tx (n - fdig tx n) (fdig tx n)) = 47)
    · rw [if_pos c2]; omega
    · rw [if_neg c2]
      split
      · omega
      · omega
/-- a text that is right has its end where it ends -/
theorem wrongT_end {tx : Nat → Nat} {n : Nat} (h : wrongT tx n = -1) : dend tx (n - fdig tx n) (fdig tx n) < n → dend tx (n - (dend tx (n - fdig tx n) (fdig tx n) + 1)) (dend tx (n - fdig tx n) (fdig tx n) + 1) = n := by
  intro hb
  unfold wrongT at h
  dsimp only at h
  rw [if_neg (by omega)] at h
  by_cases c2 : dend tx (n - fdig tx n) (fdig tx n) = fdig tx n ∨ ¬ (dend tx (n - fdig tx n) (fdig tx n) < n ∧ tx (dend tx (n - fdig tx n) (fdig tx n)) = 47)
  · rw [if_pos c2] at h; omega
  · rw [if_neg c2] at h
    split at h
    · exact (by assumption : _ ∧ _).1
    · omega
theorem s_lay_0 {g : Sg} {u b t q : Nat} (h1 : sm t) (h2 : sm q) : (s_lay g u (sg b t) q).1 = 0 := by
  rw [s_lay_sg, s_keep, cif_pos ⟨by rw [sg_abs]; exact h1.le (Nat.div_le_self _ _), h2.le (Nat.div_le_self _ _)⟩]
