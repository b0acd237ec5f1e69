theorem Bn.mv {ty : Nat → ClassId} {ad : Nat → Nat} {F F' : Nat → va_E} (h : Bn ty ad F) (e : ∀ y, 82 ≤ y → y ≤ 95 → F' y = F y) : Bn ty ad F' := by
  obtain ⟨⟨bb, h1, h2⟩, a1, a2, a3, a4, a5, ⟨f, g, h, k, a6⟩, a7⟩ := h
  exact ⟨⟨bb, h1, (e _ (by omega) (by omega)).trans h2⟩, a1.mv (e _ (by omega) (by omega)) (e _ (by omega) (by omega)), a2.mv (e _ (by omega) (by omega)) (e _ (by omega) (by omega)), a3.mv (e _ (by omega) (by omega)) (e _ (by omega) (by omega)), a4.mv (e _ (by omega) (by omega)) (e _ (by omega) (by omega)), a5.mv (e _ (by omega) (by omega)) (e _ (by omega) (by omega)), ⟨f, g, h, k, (e _ (by omega) (by omega)).trans a6⟩, a7.mv (e _ (by omega) (by omega)) (e _ (by omega) (by omega))⟩
theorem gcd_1r (a : Nat) : Nat.gcd a 1 = 1 := Nat.gcd_one_right a
theorem kr_fin {ty : Nat → ClassId} {ad : Nat → Nat} {F F0 F1 : Nat → va_E} {r : Int32} {x t b bb : Nat} (hx : x + 4 < 82)
    (h1 : sm t ∧ sm b → r = iI 0 ∧ Frc ty ad F1 x t b (if bb = 1 ∧ t ≠ 0 then 1 else 0) ∧ ∀ y, y < x ∨ x + 4 < y → F1 y = F0 y) (h2 : ¬ (sm t ∧ sm b) → r = iI (-1) ∧ F1 = F0) (hB : Bn ty ad F0) (e : ∀ y, y < 82 ∨ 95 < y → F0 y = F y) :
    ((sm t ∧ sm b → r = iI 0 ∧ Frc ty ad F1 x t b (if bb = 1 ∧ t ≠ 0 then 1 else 0) ∧ ∀ y, y < x ∨ x + 4 < y → y < 82 ∨ 95 < y → F1 y = F y) ∧ (¬ (sm t ∧ sm b) → r = iI (-1) ∧ frB F F1)) ∧ Bn ty ad F1 := by
  refine ⟨⟨fun h => ?_, fun h => ?_⟩, ?_⟩
  · obtain ⟨a1, a2, a3⟩ := h1 h
    exact ⟨a1, a2, fun y h3 h4 => (a3 y h3).trans (e y h4)⟩
  · obtain ⟨a1, a2⟩ := h2 h
    exact ⟨a1, fun y h4 => by rw [a2]; exact e y h4⟩
  · by_cases c : sm t ∧ sm b
    · exact hB.mv (fun y h3 h4 => (h1 c).2.2 y (by omega))
    · rw [(h2 c).2]; exact hB
