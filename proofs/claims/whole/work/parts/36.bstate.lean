/-! the bench, fractions, and sizes of numbers -/
def sm (v : Nat) : Prop := v < 2 ^ 2048
def pr (v : Nat) : Prop := v < 2 ^ 4096
def md (v : Nat) : Prop := v < 2 ^ 4100
theorem sm.f67 {v : Nat} (h : sm v) : v < 2147483648 ^ 67 := by
  rw [pow31]; exact Nat.lt_of_lt_of_le h (Nat.pow_le_pow_right (by decide) (by decide))
theorem sm.f136 {v : Nat} (h : sm v) : v < 2147483648 ^ 136 := by
  rw [pow31]; exact Nat.lt_of_lt_of_le h (Nat.pow_le_pow_right (by decide) (by decide))
theorem md.f135 {v : Nat} (h : md v) : v < 2147483648 ^ 135 := by
  rw [pow31]; exact Nat.lt_of_lt_of_le h (Nat.pow_le_pow_right (by decide) (by decide))
theorem md.f136 {v : Nat} (h : md v) : v < 2147483648 ^ 136 := by
  rw [pow31]; exact Nat.lt_of_lt_of_le h (Nat.pow_le_pow_right (by decide) (by decide))
theorem pr.toMd {v : Nat} (h : pr v) : md v := Nat.lt_of_lt_of_le h (Nat.pow_le_pow_right (by decide) (by decide))
theorem sm.toPr {v : Nat} (h : sm v) : pr v := Nat.lt_of_lt_of_le h (Nat.pow_le_pow_right (by decide) (by decide))
theorem sm.toMd {v : Nat} (h : sm v) : md v := h.toPr.toMd
theorem sm.mul {a b : Nat} (ha : sm a) (hb : sm b) : pr (a * b) := by
  have h : a * b < 2 ^ 2048 * 2 ^ 2048 := Nat.mul_lt_mul'' ha hb
  rw [← Nat.pow_add] at h
  exact h
theorem pr.add {a b : Nat} (ha : pr a) (hb : pr b) : md (a + b) := by
  have h : a + b < 2 ^ 4096 + 2 ^ 4096 := Nat.add_lt_add ha hb
  have e : 2 ^ 4096 + 2 ^ 4096 = 2 ^ 4097 := by rw [Nat.pow_succ]; omega
  rw [e] at h
  exact Nat.lt_of_lt_of_le h (Nat.pow_le_pow_right (by decide) (by decide))
theorem md.le {a b : Nat} (hb : md b) (h : a ≤ b) : md a := Nat.lt_of_le_of_lt h hb
theorem pr.le {a b : Nat} (hb : pr b) (h : a ≤ b) : pr a := Nat.lt_of_le_of_lt h hb
theorem sm.le {a b : Nat} (hb : sm b) (h : a ≤ b) : sm a := Nat.lt_of_le_of_lt h hb
theorem sm_0 : sm 0 := Nat.two_pow_pos _
theorem sm_1 : sm 1 := Nat.one_lt_two_pow (by decide)
theorem sm_long {v : Nat} (h : v < 18446744073709551616) : sm v := Nat.lt_of_lt_of_le h (show 2 ^ 64 ≤ 2 ^ 2048 from Nat.pow_le_pow_right (by decide) (by decide))
theorem sm_if {v : Nat} {A : Sort _} [Decidable (v < 2 ^ 2048)] [Decidable (sm v)] (a b : A) : (if v < 2 ^ 2048 then a else b) = if sm v then a else b := by
  by_cases c : v < 2 ^ 2048
  · rw [if_pos c, if_pos (show sm v from c)]
  · rw [if_neg c, if_neg (show ¬ sm v from c)]
abbrev oB (ad : Nat → Nat) (bb : Int) : va_E := .inr (4, [.ref (ad (83)), .ref (ad (85)), .ref (ad (87)), .ref (ad (89)), .ref (ad (91)), .ref (ad (93)), .int (iI (bb))])
abbrev oF (ad : Nat → Nat) (x : Nat) (bb : Int) : va_E := .inr (1, [.ref (ad (x + 1)), .ref (ad (x + 3)), .int (iI (bb))])
/-- the bench, but for top, bottom, sign -/
def BnR (ty : Nat → ClassId) (ad : Nat → Nat) (F : Nat → va_E) : Prop := Wa ty ad F 87 136 ∧ Wa ty ad F 89 136 ∧ Wa ty ad F 91 136 ∧ (∃ f g h k : Int64, F 93 = .inr (3, [.ref (ad (93 + 1)), .long f, .long g, .long h, .long k])) ∧ Wa ty ad F (93 + 1) 136
def Bn (ty : Nat → ClassId) (ad : Nat → Nat) (F : Nat → va_E) : Prop := (∃ bb : Nat, bb ≤ 1 ∧ F 82 = oB ad bb) ∧ Wa ty ad F 83 136 ∧ Wa ty ad F 85 136 ∧ BnR ty ad F
/-- what is worked out there: top, bottom, below 0 or not -/
def BnT (ty : Nat → ClassId) (ad : Nat → Nat) (F : Nat → va_E) (tv bv bb : Nat) : Prop := bb ≤ 1 ∧ F 82 = oB ad bb ∧ Wv ty ad F 83 136 tv ∧ Wv ty ad F 85 136 bv ∧ BnR ty ad F
/-- the fraction at cell x -/
def Frc (ty : Nat → ClassId) (ad : Nat → Nat) (F : Nat → va_E) (x tv bv bb : Nat) : Prop := bb ≤ 1 ∧ F x = oF ad x bb ∧ Wv ty ad F (x + 1) 67 tv ∧ Wv ty ad F (x + 3) 67 bv
def frB (F F1 : Nat → va_E) : Prop := ∀ y, y < 82 ∨ 95 < y → F1 y = F y
theorem BnT.bn {ty : Nat → ClassId} {ad : Nat → Nat} {F : Nat → va_E} {tv bv bb : Nat} (h : BnT ty ad F tv bv bb) : Bn ty ad F := ⟨⟨bb, h.1, h.2.1⟩, h.2.2.1.a, h.2.2.2.1.a, h.2.2.2.2⟩
theorem Frc.mv {ty : Nat → ClassId} {ad : Nat → Nat} {F F' : Nat → va_E} {x tv bv bb : Nat} (h : Frc ty ad F x tv bv bb) (e : ∀ y, x ≤ y → y ≤ x + 4 → F' y = F y) : Frc ty ad F' x tv bv bb := by
  obtain ⟨h1, h2, h3, h4⟩ := h
  exact ⟨h1, (e _ (by omega) (by omega)).trans h2, h3.mv (e _ (by omega) (by omega)) (e _ (by omega) (by omega)), h4.mv (e _ (by omega) (by omega)) (e _ (by omega) (by omega))⟩
/-- a size with a sign -/
def sg (b t : Nat) : Int := if b = 1 then -(t : Int) else t
theorem sg_0 (t : Nat) : sg 0 t = t := rfl
theorem sg_1 (t : Nat) : sg 1 t = -(t : Int) := rfl
theorem sg_abs (b t : Nat) : (sg b t).natAbs = t := by
  unfold sg; split <;> omega
theorem pw_preF {s : State} {H : Heap} {locs : List Loc} {D : va_G} {ty : Nat → ClassId} {ad : Nat → Nat} {M : Nat} {F : Nat → va_E} {A : Nat → Prop} (hw : pw D classes (tysL ty) ad M F A s H locs) {x tv bv bb : Nat} {As : List Value} (hi : x < M) (h : Frc ty ad F x tv bv bb) : PreV s H R_F (ad x) (va_Pc (.ref (ad x) :: As) (pPre D classes (tysL ty) ad M F H.size)) As := pw_preV hw hi h.2.1 rfl
