theorem ite_z {P : Prop} [Decidable P] : (if P then (1 : Int) else 0) = 0 ↔ ¬ P := by split <;> simp [*]
theorem ite_nz {P : Prop} [Decidable P] : ¬ (if P then (1 : Int) else 0) = 0 ↔ P := by split <;> simp [*]
theorem nar_if {P : Prop} [Decidable P] : narrow .boolean (.int (iI (if P then 1 else 0))) = .int (iI (if P then 1 else 0)) := by split <;> rfl
theorem nar_bb {b : Nat} (h : b ≤ 1) : narrow .boolean (.int (iI (b : Int))) = .int (iI (b : Int)) := by
  rcases (show b = 0 ∨ b = 1 by omega) with rfl | rfl <;> rfl
theorem fit_bb {b : Nat} (h : b ≤ 1) : fits .boolean (.int (iI (b : Int))) = true := by
  rcases (show b = 0 ∨ b = 1 by omega) with rfl | rfl <;> rfl
theorem sg_mul {a b t u c : Nat} (ha : a ≤ 1) (hb : b ≤ 1) (hc : c = if a = b then 0 else 1) : sg c (t * u) = sg a t * sg b u := by
  rcases (show a = 0 ∨ a = 1 by omega) with rfl | rfl <;> rcases (show b = 0 ∨ b = 1 by omega) with rfl | rfl <;> subst hc <;> simp [sg] <;> grind
def sgn (b t : Nat) : Int := if t = 0 then 0 else if b = 1 then -1 else 1
