/-! what every call keeps -/
theorem okS.put {g : Sg} (h : okS g) {to : Nat} {p : Int} {q : Nat} (h1 : sm p.natAbs) (h2 : sm q) (h0 : 0 < q) (hg : Nat.gcd p.natAbs q = 1) : okS (putS g to p q) := by
  refine ⟨fun i hi => ?_, h.2⟩
  by_cases c : i = to
  · subst c
    show sm (va_up (zS g) i p i).natAbs ∧ sm (va_up (bS g) i q i) ∧ 0 < va_up (bS g) i q i ∧ Nat.gcd (va_up (zS g) i p i).natAbs (va_up (bS g) i q i) = 1
    rw [va_up_self, va_up_self]
    exact ⟨h1, h2, h0, hg⟩
  · show sm (va_up (zS g) to p i).natAbs ∧ sm (va_up (bS g) to q i) ∧ 0 < va_up (bS g) to q i ∧ Nat.gcd (va_up (zS g) to p i).natAbs (va_up (bS g) to q i) = 1
    rw [va_up_ne _ _ c, va_up_ne _ _ c]
    exact h.at hi
theorem okS.keep {g : Sg} (h : okS g) {to : Nat} {p : Int} {q : Nat} (h0 : 0 < q) (hg : Nat.gcd p.natAbs q = 1) : okS (s_keep g to p q).2 := by
  unfold s_keep
  by_cases c : sm p.natAbs ∧ sm q
  · rw [cif_pos c]; exact h.put c.1 c.2 h0 hg
  · rw [cif_neg c]; exact h
theorem okS.lay {g : Sg} (h : okS g) {to : Nat} {p : Int} {q : Nat} (h0 : 0 < q) : okS (s_lay g to p q).2 := by
  have hd : 0 < Nat.gcd p.natAbs q := Nat.gcd_pos_of_pos_right _ h0
  unfold s_lay
  refine h.keep (Nat.div_pos (Nat.gcd_le_right _ h0) hd) ?_
  rw [Int.natAbs_tdiv, Int.natAbs_natCast]
  exact Nat.gcd_div_gcd_div_gcd_of_pos_right h0
theorem okS.set {g : Sg} (h : okS g) (to p q : Int) : okS (o_set g to p q).2.2 := by
  unfold o_set
  by_cases c : isR to ∧ q ≠ 0
  · rw [cif_pos c]; exact h.lay (by have := c.2; omega)
  · rw [cif_neg c]; exact h
theorem rN16 {i : Int} (h : isR i) : i.toNat < 16 := by have := h.1; have := h.2; omega
theorem cmb_pos {g : Sg} (h : okS g) {kd : Int} {x y : Nat} (hx : x < 16) (hy : y < 16) (hd : ¬ ((kd = 3 ∨ kd = 6 ∨ kd = 7) ∧ zS g y = 0)) : 0 < (cmbV kd (zS g x) (bS g x) (zS g y) (bS g y)).2 := by
  have h1 := (h.at hx).2.2.1
  have h2 := (h.at hy).2.2.1
  have h3 : 0 < bS g x * bS g y := Nat.mul_pos h1 h2
  unfold cmbV
  split
  · exact h3
  split
  · exact h3
  split
  · exact h3
  split
  · exact Nat.mul_pos (by omega) h1
  split
  · split <;> assumption
  split
  · split <;> assumption
  split
  · exact Nat.one_pos
  split
  · exact h3
  · exact Nat.one_pos
theorem okS.combine {g : Sg} (h : okS g) (to kd a b : Int) : okS (o_combine g to kd a b).2.2 := by
  unfold o_combine
  by_cases c : cmbO g to kd a b
  · rw [cif_pos c]
    by_cases d : (kd = 3 ∨ kd = 6 ∨ kd = 7) ∧ zS g b.toNat = 0
    · rw [cif_pos d]; exact h
    · rw [cif_neg d]; exact h.lay (cmb_pos h (rN16 c.1.2.1) (rN16 c.1.2.2) d)
  · rw [cif_neg c]; exact h
theorem okS.change {g : Sg} (h : okS g) (to kd a : Int) : okS (o_change g to kd a).2.2 := by
  unfold o_change
  by_cases c : (isR to ∧ isR a) ∧ (0 ≤ kd ∧ kd ≤ 6)
  · rw [cif_pos c]
    by_cases d : kd = 2 ∧ zS g a.toNat = 0
    · rw [cif_pos d]; exact h
    · rw [cif_neg d]
      refine h.lay ?_
      have h1 := (h.at (rN16 c.1.2)).2.2.1
      unfold chV
      split
      · exact h1
      split
      · exact h1
      split
      · show 0 < (zS g a.toNat).natAbs; omega
      split
      · exact Nat.one_pos
      split
      · exact Nat.one_pos
      split
      · exact Nat.one_pos
      · exact Nat.one_pos
  · rw [cif_neg c]; exact h
theorem okS.power {g : Sg} (h : okS g) (to a n : Int) : okS (o_power g to a n).2.2 := by
  unfold o_power
  by_cases c : (isR to ∧ isR a) ∧ (-2048 ≤ n ∧ n ≤ 2048)
  · rw [cif_pos c]
    by_cases d : n < 0 ∧ zS g a.toNat = 0
    · rw [cif_pos d]; exact h
    · rw [cif_neg d]
      refine h.lay ?_
      have h1 := (h.at (rN16 c.1.2)).2.2.1
      unfold pwV
      split
      · show 0 < (zS g a.toNat).natAbs ^ n.natAbs
        exact Nat.pow_pos (by omega)
      · show 0 < (bS g a.toNat) ^ n.natAbs
        exact Nat.pow_pos h1
  · rw [cif_neg c]; exact h
theorem okS.order {g : Sg} (h : okS g) (a b : Int) : okS (o_order g a b).2.2 := by
  unfold o_order
  by_cases c : isR a ∧ isR b
  · rw [cif_pos c]; exact h
  · rw [cif_neg c]; exact h
theorem okS.sign {g : Sg} (h : okS g) (a : Int) : okS (o_sign g a).2.2 := by
  unfold o_sign
  by_cases c : isR a
  · rw [cif_pos c]; exact h
  · rw [cif_neg c]; exact h
theorem okS.places {g : Sg} (h : okS g) (a w : Int) : okS (o_places g a w).2.2 := by
  unfold o_places
  by_cases c : isR a ∧ (w = 0 ∨ w = 1)
  · rw [cif_pos c]; exact h
  · rw [cif_neg c]; exact h
theorem okS.part {g : Sg} (h : okS g) (a w k : Int) : okS (o_part g a w k).2.2 := by
  unfold o_part
  by_cases c : isR a ∧ (w = 0 ∨ w = 1)
  · rw [cif_pos c]; exact h
  · rw [cif_neg c]; exact h
theorem decS_lt {tx : Nat → Nat} {n v : Nat} (h : ∀ i, i < n → tx i < 128) (i : Nat) : decS tx n v i < 128 := by
  unfold decS
  split
  · exact h i (by assumption)
  · omega
theorem okS.write {g : Sg} (h : okS g) (a : Int) : okS (o_write g a).2.2 := by
  unfold o_write
  by_cases c : isR a
  · rw [cif_pos c]
    have hl1 := isLen_620 (isLen_dlen (zS g a.toNat).natAbs) (h.at (rN16 c)).1
    have hl2 := isLen_620 (isLen_dlen (bS g a.toNat)) (h.at (rN16 c)).2.1
    have hs := sB_le (zS g a.toNat)
    have e1 : (wr1 (zS g a.toNat)).1 = sB (zS g a.toNat) + dlen (zS g a.toNat).natAbs := rfl
    have w1 : ∀ i, (wr1 (zS g a.toNat)).2 i < 128 := fun i => by
      show decS (fun _ => 45) (sB (zS g a.toNat)) (zS g a.toNat).natAbs i < 128
      exact decS_lt (fun j _ => by decide) i
    refine ⟨h.1, ?_, ?_, h.2.2.2⟩
    · show (wrS (zS g a.toNat) (bS g a.toNat)).1 ≤ 1400
      unfold wrS
      by_cases d : bS g a.toNat = 1
      · rw [cif_pos d]; omega
      · rw [cif_neg d]; show (wr1 (zS g a.toNat)).1 + 1 + dlen (bS g a.toNat) ≤ 1400; omega
    · intro i _
      show (wrS (zS g a.toNat) (bS g a.toNat)).2 i < 128
      unfold wrS
      by_cases d : bS g a.toNat = 1
      · rw [cif_pos d]; exact w1 i
      · rw [cif_neg d]
        refine decS_lt (fun j _ => ?_) i
        unfold txp
        split
        · decide
        · exact w1 j
  · rw [cif_neg c]; exact h
theorem okS.read {g : Sg} (h : okS g) (to : Int) : okS (o_read g to).2.2 := by
  unfold o_read
  by_cases c : isR to
  · rw [cif_pos c]
    have h0 : okS (zS g, bS g, 0, tS g, pS g) := ⟨h.1, Nat.zero_le _, fun i hi => absurd hi (Nat.not_lt_zero _), h.2.2.2⟩
    by_cases d : wrongT (tS g) (nS g) = -1
    · rw [cif_pos d]
      by_cases e : sm (numT (tS g) (nS g)) ∧ sm (denT (tS g) (nS g))
      · rw [cif_pos e]
        refine h0.lay ?_
        by_cases f : dend (tS g) (nS g - fdig (tS g) (nS g)) (fdig (tS g) (nS g)) < nS g
        · exact wr_pos rfl d rfl rfl f
        · unfold denT; rw [if_neg f]; exact Nat.one_pos
      · rw [cif_neg e]; exact h
    · rw [cif_neg d]
      have hb := wrongT_b (tx := tS g) h.2.1
      exact ⟨h.1, h.2.1, h.2.2.1, hb.1, hb.2⟩
  · rw [cif_neg c]; exact h
theorem okS.type {g : Sg} (h : okS g) (C : Nat) (m : Int) : okS (s_type g C m).2 := by
  unfold s_type
  by_cases c : tyC g C m
  · rw [cif_pos c]
    obtain ⟨c1, c2, c3, c4⟩ := c
    refine ⟨h.1, ?_, ?_, h.2.2.2⟩
    · show nS g + m.toNat ≤ 1400; omega
    · intro i hi
      show tyT (tS g) (nS g) C m.toNat i < 128
      have hi9 : i < nS g + m.toNat := hi
      unfold tyT
      split
      · exact h.2.2.1 i (by assumption)
      · have := (c4 (nS g + m.toNat - 1 - i) (by omega)).2; omega
  · rw [cif_neg c]; exact h
theorem okS.wipe {g : Sg} (h : okS g) : okS (zS g, bS g, 0, tS g, pS g) := ⟨h.1, Nat.zero_le _, fun i hi => absurd hi (Nat.not_lt_zero _), h.2.2.2⟩
