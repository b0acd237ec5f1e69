/-! the law's own methods: what they answer -/
def lPost (ty : Nat → ClassId) (ad : Nat → Nat) (F : Nat → va_E) (a : An) (r : Int32) (F1 : Nat → va_E) : Prop :=
  r = iI a.1 ∧ Dk ty ad F1 a.2.2 ∧ (∃ o1 : Nat → Int64, F1 104 = .inl (ty 3, 1, .inr (.inl o1)) ∧ (a.1 = 0 → o1 0 = iL a.2.1)) ∧ ∀ y, 97 < y → y ≠ 104 → F1 y = F y
abbrev XIq (l : Launch) (y : MethodName) (ws : List Cond) (rm : Room) (av : List Value) (D : va_G) (ty : Nat → ClassId) (ad : Nat → Nat) (M : Nat) (F : Nat → va_E) (sz mc ms : Nat) (post : Int32 → (Nat → va_E) → Prop) (px : String × (Nat → va_E) → Prop) : Prop :=
  vx_Met l y ws rm (va_Pc av (fun U => xPre D classes (tysL ty) ad M F sz U ∧ va_Nc xS xE U)) (va_Qi post (pAt D classes (tysL ty) ad M (pA ad M sz)) (pA ad M sz)) (xX D ty ad M sz px) mc ms (pA ad M sz)
theorem updL_s (f : Nat → Int64) (k : Nat) (x : Int64) : vp_updL f k x k = x := by simp [vp_updL]
theorem s_keep_1 (g : Sg) (to : Nat) (p : Int) (q : Nat) : (s_keep g to p q).1 = 0 ∨ (s_keep g to p q).1 = -1 := by
  unfold s_keep
  by_cases c : sm p.natAbs ∧ sm q
  · rw [cif_pos c]; exact Or.inl rfl
  · rw [cif_neg c]; exact Or.inr rfl
theorem s_lay_b (g : Sg) (to : Nat) (p : Int) (q : Nat) : (s_lay g to p q).1 = 0 ∨ (s_lay g to p q).1 = -1 := s_keep_1 ..
/-- an answer: its code is 0 or 1, its number an int -/
def anB (a : An) : Prop := (a.1 = 0 ∨ a.1 = 1) ∧ -2147483648 ≤ a.2.1 ∧ a.2.1 < 2147483648
theorem anB_err (g : Sg) : anB (1, 0, g) := ⟨Or.inr rfl, by dsimp only; omega, by dsimp only; omega⟩
theorem anB_lay (g : Sg) (to : Nat) (p : Int) (q : Nat) : anB (0, s_lay g to p q) := by
  refine ⟨Or.inl rfl, ?_, ?_⟩ <;> show _ <;> rcases s_lay_b g to p q with h | h <;> dsimp only <;> rw [h] <;> decide
theorem anB_of {a : An} {z : Int} {g : Sg} (h : a = (0, z, g)) (h1 : -2147483648 ≤ z) (h2 : z < 2147483648) : anB a := by rw [h]; exact ⟨Or.inl rfl, h1, h2⟩
theorem b_set (g : Sg) (to p q : Int) : anB (o_set g to p q) := by
  unfold o_set
  by_cases c : isR to ∧ q ≠ 0
  · rw [cif_pos c]; exact ⟨Or.inl rfl, by dsimp only; omega, by dsimp only; omega⟩
  · rw [cif_neg c]; exact anB_err g
theorem b_combine (g : Sg) (to kd a b1 : Int) : anB (o_combine g to kd a b1) := by
  unfold o_combine
  by_cases c : cmbO g to kd a b1
  · rw [cif_pos c]
    by_cases d : (kd = 3 ∨ kd = 6 ∨ kd = 7) ∧ zS g b1.toNat = 0
    · rw [cif_pos d]; exact ⟨Or.inl rfl, by dsimp only; omega, by dsimp only; omega⟩
    · rw [cif_neg d]; exact anB_lay ..
  · rw [cif_neg c]; exact anB_err g
theorem b_change (g : Sg) (to kd a : Int) : anB (o_change g to kd a) := by
  unfold o_change
  by_cases c : (isR to ∧ isR a) ∧ (0 ≤ kd ∧ kd ≤ 6)
  · rw [cif_pos c]
    by_cases d : kd = 2 ∧ zS g a.toNat = 0
    · rw [cif_pos d]; exact ⟨Or.inl rfl, by dsimp only; omega, by dsimp only; omega⟩
    · rw [cif_neg d]; exact anB_lay ..
  · rw [cif_neg c]; exact anB_err g
theorem b_power (g : Sg) (to a n : Int) : anB (o_power g to a n) := by
  unfold o_power
  by_cases c : (isR to ∧ isR a) ∧ (-2048 ≤ n ∧ n ≤ 2048)
  · rw [cif_pos c]
    by_cases d : n < 0 ∧ zS g a.toNat = 0
    · rw [cif_pos d]; exact ⟨Or.inl rfl, by dsimp only; omega, by dsimp only; omega⟩
    · rw [cif_neg d]; exact anB_lay ..
  · rw [cif_neg c]; exact anB_err g
theorem b_order (g : Sg) (a b : Int) : anB (o_order g a b) := by
  unfold o_order
  by_cases c : isR a ∧ isR b
  · rw [cif_pos c]
    have := cmpZ_b (zS g a.toNat * bS g b.toNat) (zS g b.toNat * bS g a.toNat)
    exact ⟨Or.inl rfl, by show _ ≤ cmpZ _ _; omega, by show cmpZ _ _ < _; omega⟩
  · rw [cif_neg c]; exact anB_err g
theorem b_sign (g : Sg) (a : Int) : anB (o_sign g a) := by
  unfold o_sign
  by_cases c : isR a
  · rw [cif_pos c]
    refine ⟨Or.inl rfl, ?_, ?_⟩
    · show _ ≤ (zS g a.toNat).sign
      rcases Int.lt_trichotomy (zS g a.toNat) 0 with h | h | h
      · rw [Int.sign_eq_neg_one_of_neg h]; decide
      · rw [h]; decide
      · rw [Int.sign_eq_one_of_pos h]; decide
    · show (zS g a.toNat).sign < _
      rcases Int.lt_trichotomy (zS g a.toNat) 0 with h | h | h
      · rw [Int.sign_eq_neg_one_of_neg h]; decide
      · rw [h]; decide
      · rw [Int.sign_eq_one_of_pos h]; decide
  · rw [cif_neg c]; exact anB_err g
theorem b_places {g : Sg} (h : okS g) (a w : Int) : anB (o_places g a w) := by
  unfold o_places
  by_cases c : isR a ∧ (w = 0 ∨ w = 1)
  · rw [cif_pos c]
    have hs : sm (if w = 0 then (zS g a.toNat).natAbs else bS g a.toNat) := by
      split
      · exact (h.at (rN16 c.1)).1
      · exact (h.at (rN16 c.1)).2.1
    have hb : bl (if w = 0 then (zS g a.toNat).natAbs else bS g a.toNat) ≤ 2048 := bl_le.mpr hs
    refine ⟨Or.inl rfl, ?_, ?_⟩
    · show _ ≤ ((bl (if w = 0 then (zS g a.toNat).natAbs else bS g a.toNat) : Nat) : Int); omega
    · show ((bl (if w = 0 then (zS g a.toNat).natAbs else bS g a.toNat) : Nat) : Int) < _; omega
  · rw [cif_neg c]; exact anB_err g
theorem c_part9 (g : Sg) (a w k : Int) : (o_part g a w k).1 = 0 ∨ (o_part g a w k).1 = 1 := by
  unfold o_part
  by_cases c : isR a ∧ (w = 0 ∨ w = 1)
  · rw [cif_pos c]; exact Or.inl rfl
  · rw [cif_neg c]; exact Or.inr rfl
theorem b_write {g : Sg} (h : okS g) (a : Int) : anB (o_write g a) := by
  have h2 := (h.write a).2.1
  unfold o_write at *
  by_cases c : isR a
  · rw [cif_pos c] at h2 ⊢
    have h3 : (wrS (zS g a.toNat) (bS g a.toNat)).1 ≤ 1400 := h2
    refine ⟨Or.inl rfl, ?_, ?_⟩
    · show _ ≤ (((wrS (zS g a.toNat) (bS g a.toNat)).1 : Nat) : Int); omega
    · show (((wrS (zS g a.toNat) (bS g a.toNat)).1 : Nat) : Int) < _; omega
  · rw [cif_neg c]; exact anB_err g
theorem b_read (g : Sg) (to : Int) : ((o_read g to).1 = 0 ∨ (o_read g to).1 = 1 ∨ (o_read g to).1 = 2) ∧ -2147483648 ≤ (o_read g to).2.1 ∧ (o_read g to).2.1 < 2147483648 := by
  unfold o_read
  by_cases c : isR to
  · rw [cif_pos c]
    by_cases d : wrongT (tS g) (nS g) = -1
    · rw [cif_pos d]
      by_cases e : sm (numT (tS g) (nS g)) ∧ sm (denT (tS g) (nS g))
      · rw [cif_pos e]; exact ⟨Or.inl rfl, by dsimp only; omega, by dsimp only; omega⟩
      · rw [cif_neg e]; exact ⟨Or.inl rfl, by dsimp only; omega, by dsimp only; omega⟩
    · rw [cif_neg d]; exact ⟨Or.inr (Or.inr rfl), by dsimp only; omega, by dsimp only; omega⟩
  · rw [cif_neg c]; exact ⟨Or.inr (Or.inl rfl), by dsimp only; omega, by dsimp only; omega⟩
theorem Dk.fr {ty : Nat → ClassId} {ad : Nat → Nat} {F F1 : Nat → va_E} {g : Sg} (h : Dk ty ad F g) (e : ∀ y, y < 98 → F1 y = F y) : Dk ty ad F1 g :=
  ⟨(e 0 (by omega)).trans h.1, h.2.1.mv (fun y _ h9 => e y (by omega)), h.2.2.1.mv (fun y h8 h9 => e y (by omega)), h.2.2.2.mv (e _ (by omega)) (e _ (by omega))⟩
theorem Mo.fr {ty : Nat → ClassId} {ad : Nat → Nat} {F F1 : Nat → va_E} {co : Int} {g : Sg} (h : Mo ty ad F co g) (e : ∀ y, 97 < y → y < 104 → F1 y = F y) : Mo ty ad F1 co g := by
  obtain ⟨h1, h2, tt, dd, h3, h4, h5⟩ := h
  exact ⟨(e _ (by omega) (by omega)).trans h1, h2.m3 (e _ (by omega) (by omega)) (e _ (by omega) (by omega)) (e _ (by omega) (by omega)), tt, dd, (e _ (by omega) (by omega)).trans h3, h4, (e _ (by omega) (by omega)).trans h5⟩
