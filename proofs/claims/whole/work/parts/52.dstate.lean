/-! the desk's state, as its document tells it: what stands above and below the line, the text, the wrong place -/
abbrev Sg : Type := (Nat → Int) × (Nat → Nat) × Nat × (Nat → Nat) × Int
abbrev zS (g : Sg) : Nat → Int := g.1
abbrev bS (g : Sg) : Nat → Nat := g.2.1
abbrev nS (g : Sg) : Nat := g.2.2.1
abbrev tS (g : Sg) : Nat → Nat := g.2.2.2.1
abbrev pS (g : Sg) : Int := g.2.2.2.2
noncomputable def cif {α : Type} (P : Prop) (a b : α) : α := @ite α P (Classical.propDecidable P) a b
theorem cif_pos {α : Type} {P : Prop} {a b : α} (h : P) : cif P a b = a := if_pos h
theorem cif_neg {α : Type} {P : Prop} {a b : α} (h : ¬ P) : cif P a b = b := if_neg h
def okS (g : Sg) : Prop := (∀ i, i < 16 → sm (zS g i).natAbs ∧ sm (bS g i) ∧ 0 < bS g i ∧ Nat.gcd (zS g i).natAbs (bS g i) = 1) ∧ nS g ≤ 1400 ∧ (∀ i, i < nS g → tS g i < 128) ∧ -1 ≤ pS g ∧ pS g ≤ 1400
/-- the fraction z / b at cell x -/
def frz (ty : Nat → ClassId) (ad : Nat → Nat) (F : Nat → va_E) (x : Nat) (z : Int) (b : Nat) : Prop := Frc ty ad F x z.natAbs b (if z < 0 then 1 else 0)
abbrev oK (ad : Nat → Nat) (pl : Int) : va_E := .inr (5, [.ref (ad (1)), .ref (ad (82)), .ref (ad (96)), .int (iI (pl))])
def Rg (ty : Nat → ClassId) (ad : Nat → Nat) (F : Nat → va_E) (z : Nat → Int) (b : Nat → Nat) : Prop := (∃ q : Nat → Option Nat, F 1 = .inl (ty 2, 16, .inr (.inr (.inr (.inr (q))))) ∧ ∀ i, i < 16 → q i = some (ad (2 + 5 * i))) ∧ ∀ i, i < 16 → frz ty ad F (2 + 5 * i) (z i) (b i)
def Dk (ty : Nat → ClassId) (ad : Nat → Nat) (F : Nat → va_E) (g : Sg) : Prop := F 0 = oK ad (pS g) ∧ Rg ty ad F (zS g) (bS g) ∧ Bn ty ad F ∧ Tx ty ad F (nS g) (tS g)
/-- nothing behind the desk's cells changed -/
def frD (F F1 : Nat → va_E) : Prop := ∀ y, 97 < y → F1 y = F y
theorem frz.mv {ty : Nat → ClassId} {ad : Nat → Nat} {F F' : Nat → va_E} {x : Nat} {z : Int} {b : Nat} (h : frz ty ad F x z b) (e : ∀ y, x ≤ y → y ≤ x + 4 → F' y = F y) : frz ty ad F' x z b := Frc.mv h e
theorem Rg.mv {ty : Nat → ClassId} {ad : Nat → Nat} {F F' : Nat → va_E} {z : Nat → Int} {b : Nat → Nat} (h : Rg ty ad F z b) (e : ∀ y, 1 ≤ y → y < 82 → F' y = F y) : Rg ty ad F' z b := by
  obtain ⟨⟨q, h1, h2⟩, h3⟩ := h
  exact ⟨⟨q, (e 1 (by omega) (by omega)).trans h1, h2⟩, fun i hi => (h3 i hi).mv (fun y h4 h5 => e y (by omega) (by omega))⟩
theorem Wa.mv2 {ty : Nat → ClassId} {ad : Nat → Nat} {F F' : Nat → va_E} {w N : Nat} (h : Wa ty ad F w N) (e : ∀ y, w ≤ y → y ≤ w + 1 → F' y = F y) : Wa ty ad F' w N := h.mv (e _ (by omega) (by omega)) (e _ (by omega) (by omega))
theorem Tx.ext {ty : Nat → ClassId} {ad : Nat → Nat} {F : Nat → va_E} {n : Nat} {tx ty9 : Nat → Nat} (h : Tx ty ad F n tx) (e : ∀ i, i < n → tx i = ty9 i) : Tx ty ad F n ty9 := by
  obtain ⟨h1, g, h2, h3, h4, h5⟩ := h
  exact ⟨h1, g, h2, h3, fun i hi => by rw [← e i hi]; exact h4 i hi, fun i hi => by rw [← e i hi]; exact h5 i hi⟩
theorem Dk.text {ty : Nat → ClassId} {ad : Nat → Nat} {F F' : Nat → va_E} {g : Sg} (h : Dk ty ad F g) {n : Nat} {tx : Nat → Nat} (ht : Tx ty ad F' n tx) (e : ∀ y, y ≠ 96 → y ≠ 97 → F' y = F y) : Dk ty ad F' (zS g, bS g, n, tx, pS g) :=
  ⟨(e _ (by omega) (by omega)).trans h.1, h.2.1.mv (fun y _ _ => e y (by omega) (by omega)), h.2.2.1.mv (fun y _ _ => e y (by omega) (by omega)), ht⟩
/-- the characters that a long tells -/
def byt (C k : Nat) : Nat := C / 2 ^ (8 * k) % 256
theorem byt_lt (C k : Nat) : byt C k < 256 := Nat.mod_lt _ (by decide)
def tyT (tx : Nat → Nat) (n C m : Nat) : Nat → Nat := fun i => if i < n then tx i else byt C (n + m - 1 - i)
def tyC (g : Sg) (C : Nat) (m : Int) : Prop := 1 ≤ m ∧ m ≤ 8 ∧ nS g + m ≤ 1400 ∧ ∀ k : Nat, (k : Int) < m → 32 ≤ byt C k ∧ byt C k ≤ 126
noncomputable def s_type (g : Sg) (C : Nat) (m : Int) : Int × Sg := cif (tyC g C m) (nS g + m, (zS g, bS g, nS g + m.toNat, tyT (tS g) (nS g) C m.toNat, pS g)) (-1, g)
theorem byt_I {C k : Nat} (hC : C < 18446744073709551616) (hk : k ≤ 7) : (iI ((C / 2 ^ (8 * k) : Nat) : Int)) &&& iI 255 = iI (byt C k : Int) := by
  have e : iI ((C / 2 ^ (8 * k) : Nat) : Int) = iI ((C / 2 ^ (8 * k) % 4294967296 : Nat) : Int) := by
    have h := Nat.div_add_mod (C / 2 ^ (8 * k)) 4294967296
    conv => lhs; rw [← h]
    rw [show ((4294967296 * (C / 2 ^ (8 * k) / 4294967296) + C / 2 ^ (8 * k) % 4294967296 : Nat) : Int) = ((C / 2 ^ (8 * k) % 4294967296 : Nat) : Int) + ((C / 2 ^ (8 * k) / 4294967296 : Nat) : Int) * 4294967296 by omega]
    exact iI_mod _ _
  rw [e]
  have h := iI_mask (k := 8) (a := C / 2 ^ (8 * k) % 4294967296) (by decide) (Nat.mod_lt _ (by decide))
  refine Eq.trans h ?_
  unfold byt
  rw [show (2 : Nat) ^ 8 = 256 from rfl, Nat.mod_mod_of_dvd _ (by decide : 256 ∣ 4294967296)]
