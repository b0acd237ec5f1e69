/-! combine, change, power: what they lay -/
def flZ (y : Int) (n : Int) : Int := if y < 0 then -n else n
def cmbV (kd x : Int) (xb : Nat) (y : Int) (yb : Nat) : Int × Nat :=
  if kd = 0 then (x * yb + y * xb, xb * yb) else if kd = 1 then (x * yb - y * xb, xb * yb) else if kd = 2 then (x * y, xb * yb) else if kd = 3 then (flZ y (x * yb), y.natAbs * xb)
  else if kd = 4 then (if x * yb ≤ y * xb then (x, xb) else (y, yb)) else if kd = 5 then (if y * xb ≤ x * yb then (x, xb) else (y, yb))
  else if kd = 6 then (flZ y (x * yb) / ((y.natAbs * xb : Nat) : Int), 1) else if kd = 7 then (x * yb - flZ y (x * yb) / ((y.natAbs * xb : Nat) : Int) * (y * xb), xb * yb) else (((Nat.gcd x.natAbs y.natAbs : Nat) : Int), 1)
def chV (kd x : Int) (xb : Nat) : Int × Nat :=
  if kd = 0 then (-x, xb) else if kd = 1 then ((x.natAbs : Int), xb) else if kd = 2 then (flZ x xb, x.natAbs) else if kd = 3 then (x / (xb : Int), 1) else if kd = 4 then (-(-x / (xb : Int)), 1) else if kd = 5 then (x, 1) else ((xb : Int), 1)
def pwV (x : Int) (xb : Nat) (n : Int) : Int × Nat := if n < 0 then (flZ (x ^ n.natAbs) ((xb ^ n.natAbs : Nat) : Int), x.natAbs ^ n.natAbs) else (x ^ n.natAbs, xb ^ n.natAbs)
theorem cmb_0 (x : Int) (xb : Nat) (y : Int) (yb : Nat) : cmbV 0 x xb y yb = (x * yb + y * xb, xb * yb) := rfl
theorem cmb_1 (x : Int) (xb : Nat) (y : Int) (yb : Nat) : cmbV 1 x xb y yb = (x * yb - y * xb, xb * yb) := rfl
theorem cmb_2 (x : Int) (xb : Nat) (y : Int) (yb : Nat) : cmbV 2 x xb y yb = (x * y, xb * yb) := rfl
theorem cmb_3 (x : Int) (xb : Nat) (y : Int) (yb : Nat) : cmbV 3 x xb y yb = (flZ y (x * yb), y.natAbs * xb) := rfl
theorem cmb_4 (x : Int) (xb : Nat) (y : Int) (yb : Nat) : cmbV 4 x xb y yb = (if x * yb ≤ y * xb then (x, xb) else (y, yb)) := rfl
theorem cmb_5 (x : Int) (xb : Nat) (y : Int) (yb : Nat) : cmbV 5 x xb y yb = (if y * xb ≤ x * yb then (x, xb) else (y, yb)) := rfl
theorem cmb_6 (x : Int) (xb : Nat) (y : Int) (yb : Nat) : cmbV 6 x xb y yb = (flZ y (x * yb) / ((y.natAbs * xb : Nat) : Int), 1) := rfl
theorem cmb_7 (x : Int) (xb : Nat) (y : Int) (yb : Nat) : cmbV 7 x xb y yb = (x * yb - flZ y (x * yb) / ((y.natAbs * xb : Nat) : Int) * (y * xb), xb * yb) := rfl
theorem cmb_8 (x : Int) (xb : Nat) (y : Int) (yb : Nat) : cmbV 8 x xb y yb = (((Nat.gcd x.natAbs y.natAbs : Nat) : Int), 1) := rfl
theorem ch_0 (x : Int) (xb : Nat) : chV 0 x xb = (-x, xb) := rfl
theorem ch_1 (x : Int) (xb : Nat) : chV 1 x xb = ((x.natAbs : Int), xb) := rfl
theorem ch_2 (x : Int) (xb : Nat) : chV 2 x xb = (flZ x xb, x.natAbs) := rfl
theorem ch_3 (x : Int) (xb : Nat) : chV 3 x xb = (x / (xb : Int), 1) := rfl
theorem ch_4 (x : Int) (xb : Nat) : chV 4 x xb = (-(-x / (xb : Int)), 1) := rfl
theorem ch_5 (x : Int) (xb : Nat) : chV 5 x xb = (x, 1) := rfl
theorem ch_6 (x : Int) (xb : Nat) : chV 6 x xb = ((xb : Int), 1) := rfl
def cmbO (g : Sg) (to kd a b1 : Int) : Prop := (isR to ∧ isR a ∧ isR b1) ∧ (0 ≤ kd ∧ kd ≤ 8) ∧ (kd = 8 → bS g a.toNat = 1 ∧ bS g b1.toNat = 1)
noncomputable def o_combine (g : Sg) (to kd a b1 : Int) : An := cif (cmbO g to kd a b1)
  (cif ((kd = 3 ∨ kd = 6 ∨ kd = 7) ∧ zS g b1.toNat = 0) (0, -2, g) (0, s_lay g to.toNat (cmbV kd (zS g a.toNat) (bS g a.toNat) (zS g b1.toNat) (bS g b1.toNat)).1 (cmbV kd (zS g a.toNat) (bS g a.toNat) (zS g b1.toNat) (bS g b1.toNat)).2)) (1, 0, g)
theorem o_combine_ok {g : Sg} {to kd a b1 : Int} {u x y : Nat} (hR : isR to ∧ isR a ∧ isR b1) (hk : 0 ≤ kd ∧ kd ≤ 8) (h8 : kd = 8 → bS g x = 1 ∧ bS g y = 1) (hd : ¬ ((kd = 3 ∨ kd = 6 ∨ kd = 7) ∧ zS g y = 0)) (eu : u = to.toNat) (ex : x = a.toNat) (ey : y = b1.toNat) :
    o_combine g to kd a b1 = (0, s_lay g u (cmbV kd (zS g x) (bS g x) (zS g y) (bS g y)).1 (cmbV kd (zS g x) (bS g x) (zS g y) (bS g y)).2) := by
  subst eu; subst ex; subst ey
  rw [o_combine, cif_pos ⟨hR, hk, h8⟩, cif_neg hd]
theorem o_combine_0 {g : Sg} {to kd a b1 : Int} {x y : Nat} (hR : isR to ∧ isR a ∧ isR b1) (hk : 0 ≤ kd ∧ kd ≤ 8) (h8 : kd = 8 → bS g x = 1 ∧ bS g y = 1) (hd : (kd = 3 ∨ kd = 6 ∨ kd = 7) ∧ zS g y = 0) (ex : x = a.toNat) (ey : y = b1.toNat) : o_combine g to kd a b1 = (0, -2, g) := by
  subst ex; subst ey
  rw [o_combine, cif_pos ⟨hR, hk, h8⟩, cif_pos hd]
noncomputable def o_change (g : Sg) (to kd a : Int) : An := cif ((isR to ∧ isR a) ∧ (0 ≤ kd ∧ kd ≤ 6)) (cif (kd = 2 ∧ zS g a.toNat = 0) (0, -2, g) (0, s_lay g to.toNat (chV kd (zS g a.toNat) (bS g a.toNat)).1 (chV kd (zS g a.toNat) (bS g a.toNat)).2)) (1, 0, g)
theorem o_change_ok {g : Sg} {to kd a : Int} {u x : Nat} (hR : isR to ∧ isR a) (hk : 0 ≤ kd ∧ kd ≤ 6) (hd : ¬ (kd = 2 ∧ zS g x = 0)) (eu : u = to.toNat) (ex : x = a.toNat) :
    o_change g to kd a = (0, s_lay g u (chV kd (zS g x) (bS g x)).1 (chV kd (zS g x) (bS g x)).2) := by
  subst eu; subst ex
  rw [o_change, cif_pos ⟨hR, hk⟩, cif_neg hd]
noncomputable def o_power (g : Sg) (to a n : Int) : An := cif ((isR to ∧ isR a) ∧ (-2048 ≤ n ∧ n ≤ 2048)) (cif (n < 0 ∧ zS g a.toNat = 0) (0, -2, g) (0, s_lay g to.toNat (pwV (zS g a.toNat) (bS g a.toNat) n).1 (pwV (zS g a.toNat) (bS g a.toNat) n).2)) (1, 0, g)
theorem o_power_ok {g : Sg} {to a n : Int} {u x : Nat} (hR : isR to ∧ isR a) (hk : -2048 ≤ n ∧ n ≤ 2048) (hd : ¬ (n < 0 ∧ zS g x = 0)) (eu : u = to.toNat) (ex : x = a.toNat) :
    o_power g to a n = (0, s_lay g u (pwV (zS g x) (bS g x) n).1 (pwV (zS g x) (bS g x) n).2) := by
  subst eu; subst ex
  rw [o_power, cif_pos ⟨hR, hk⟩, cif_neg hd]
theorem sg_flip {s t a : Nat} (h : s + t = 1) : sg t a = - sg s a := by
  unfold sg
  by_cases c : s = 1
  · rw [if_pos c, if_neg (by omega)]; omega
  · rw [if_neg c, if_pos (by omega)]
theorem sg_q {s t a : Nat} {y : Int} (hs : s ≤ 1) (ht : t ≤ 1) (h : t = 1 ↔ y < 0) : sg (if s = t then 0 else 1) a = flZ y (sg s a) := by
  unfold flZ
  by_cases c : y < 0
  · rw [if_pos c]
    have ht1 := h.mpr c
    by_cases c2 : s = t
    · rw [if_pos c2]; exact sg_flip (by omega)
    · rw [if_neg c2]; exact sg_flip (by omega)
  · rw [if_neg c]
    have ht1 : t = 0 := by
      have := mt h.mp c
      omega
    by_cases c2 : s = t
    · rw [if_pos c2]; congr 1; omega
    · rw [if_neg c2]; congr 1; omega
theorem sg_floor {s u v : Nat} (hs : s ≤ 1) (hv : 0 < v) : sg s u / (v : Int) = sg s (if s = 1 ∧ u % v ≠ 0 then u / v + 1 else u / v) := by
  have h1 := Nat.div_add_mod u v
  have h2 := Nat.mod_lt u hv
  by_cases c : s = 1
  · subst c
    rw [sg_1, sg_1]
    by_cases c2 : u % v = 0
    · rw [if_neg (fun h => h.2 c2)]
      refine ((Int.ediv_emod_unique (r := 0) (show (0 : Int) < v by omega)).mpr ⟨?_, by omega, by omega⟩).1
      rw [c2, Nat.add_zero] at h1
      rw [Int.mul_neg, Int.zero_add, ← Int.natCast_mul, h1]
    · rw [if_pos ⟨rfl, c2⟩]
      refine ((Int.ediv_emod_unique (r := ((v - u % v : Nat) : Int)) (show (0 : Int) < v by omega)).mpr ⟨?_, by omega, by omega⟩).1
      rw [Int.mul_neg, ← Int.natCast_mul, Nat.mul_add, Nat.mul_one]
      omega
  · rw [show s = 0 by omega, sg_0, sg_0, if_neg (fun h => absurd h.1 (by omega)), Int.natCast_ediv]
theorem sg_rest {s t u v : Nat} (hs : s ≤ 1) (ht : t ≤ 1) (hv : 0 < v) : sg t (if s = t ∨ u % v = 0 then u % v else v - u % v) = sg s u - sg (if s = t then 0 else 1) u / (v : Int) * sg t v := by
  rw [sg_floor (by split <;> omega) hv]
  have h1 := Nat.div_add_mod u v
  have h2 := Nat.mod_lt u hv
  have h3 : (v : Int) * ((u / v : Nat) : Int) = ((v * (u / v) : Nat) : Int) := by rw [Int.natCast_mul]
  have h4 : (((u / v + 1 : Nat)) : Int) * (v : Int) = ((v * (u / v) : Nat) : Int) + v := by rw [← Int.natCast_mul, Nat.mul_comm, Nat.mul_add, Nat.mul_one]; omega
  have h5 : ((u / v : Nat) : Int) * (v : Int) = ((v * (u / v) : Nat) : Int) := by rw [Int.mul_comm, h3]
  by_cases c : s = t
  · rw [if_pos (Or.inl c), if_pos c, if_neg (fun h => absurd h.1 (by omega)), sg_0]
    by_cases c1 : s = 1
    · rw [← c, c1, sg_1, sg_1, sg_1, Int.mul_neg, h5]; omega
    · rw [← c, show s = 0 by omega, sg_0, sg_0, sg_0, h5]; omega
  · rw [if_neg c]
    by_cases c2 : u % v = 0
    · rw [if_pos (Or.inr c2), if_neg (fun h => h.2 c2), c2, sg_1]
      by_cases c1 : s = 1
      · rw [c1, show t = 0 by omega, sg_1, sg_0, sg_0, Int.neg_mul, h5]; omega
      · rw [show s = 0 by omega, show t = 1 by omega, sg_1, sg_0, sg_1, Int.mul_neg, Int.neg_mul, h5]; omega
    · rw [if_neg (fun h => h.elim c c2), if_pos ⟨rfl, c2⟩, sg_1]
      by_cases c1 : s = 1
      · rw [c1, show t = 0 by omega, sg_1, sg_0, sg_0, Int.neg_mul, h4]; omega
      · rw [show s = 0 by omega, show t = 1 by omega, sg_1, sg_0, sg_1, Int.mul_neg, Int.neg_mul, h4]; omega
theorem sg_pow {s a : Nat} (hs : s ≤ 1) : ∀ n : Nat, sg (if s = 1 ∧ n % 2 = 1 then 1 else 0) (a ^ n) = sg s a ^ n
  | 0 => by rw [if_neg (fun h => by omega), sg_0]; simp
  | n + 1 => by
    rw [Nat.pow_succ, Int.pow_succ, ← sg_pow hs n]
    refine sg_mul (by split <;> omega) hs ?_
    rcases (show s = 0 ∨ s = 1 by omega) with rfl | rfl
    · simp
    · rcases Nat.mod_two_eq_zero_or_one n with h | h
      · have h2 : (n + 1) % 2 = 1 := by omega
        simp [h, h2]
      · have h2 : (n + 1) % 2 = 0 := by omega
        simp [h, h2]
theorem BnT.of_take {ty : Nat → ClassId} {ad : Nat → Nat} {F F1 : Nat → va_E} {t b s : Nat} (hB : Bn ty ad F) (hs : s ≤ 1) (h : F1 82 = oB ad s ∧ Wv ty ad F1 83 136 t ∧ Wv ty ad F1 85 136 b ∧ ∀ y, y < 82 ∨ 86 < y → F1 y = F y) : BnT ty ad F1 t b s := by
  obtain ⟨-, -, -, h5, h6, h7, ⟨f, g, hh, k, h8⟩, h9⟩ := hB
  obtain ⟨q1, q2, q3, e⟩ := h
  exact ⟨hs, q1, q2, q3, h5.mv2 (fun y _ _ => e y (by omega)), h6.mv2 (fun y _ _ => e y (by omega)), h7.mv2 (fun y _ _ => e y (by omega)), ⟨f, g, hh, k, (e _ (by omega)).trans h8⟩, h9.mv2 (fun y _ _ => e y (by omega))⟩
theorem cmpZ_b (a b : Int) : -1 ≤ cmpZ a b ∧ cmpZ a b ≤ 1 := by
  unfold cmpZ; split <;> (try split) <;> omega
theorem cmpZ_le {a b : Int} : cmpZ a b ≤ 0 ↔ a ≤ b := by
  unfold cmpZ; split <;> (try split) <;> omega
theorem cmpZ_ge {a b : Int} : 0 ≤ cmpZ a b ↔ b ≤ a := by
  unfold cmpZ; split <;> (try split) <;> omega
theorem s_keep_eq {g : Sg} {u bb tq bq T B : Nat} (h1 : sm tq ↔ sm T) (h2 : sm tq → tq = T) (h3 : sm bq ↔ sm B) (h4 : sm bq → bq = B) : s_keep g u (sg bb tq) bq = s_keep g u (sg bb T) B := by
  unfold s_keep
  by_cases c : sm tq ∧ sm bq
  · rw [h2 c.1, h4 c.2]
  · rw [cif_neg (by rw [sg_abs]; exact c), cif_neg (by rw [sg_abs]; exact fun h => c ⟨h1.mpr h.1, h3.mpr h.2⟩)]
theorem sgn_z {b t : Nat} (hb : b ≤ 1) : sgn b t = 0 ↔ sg b t = 0 := by
  unfold sgn sg
  by_cases c : t = 0
  · subst c; simp
  · rw [if_neg c]; split <;> constructor <;> intro h <;> omega
/-! words that hide what isn't to be looked into -/
def rN (i : Int) : Nat := i.toNat
def ab (z : Int) : Nat := z.natAbs
def sB (z : Int) : Nat := if z < 0 then 1 else 0
def cm8 (kd : Int) (p q : Nat) : Prop := kd = 8 → p = 1 ∧ q = 1
def cmD (kd z : Int) : Prop := ¬ ((kd = 3 ∨ kd = 6 ∨ kd = 7) ∧ z = 0)
theorem rN_lt {i : Int} (h : isR i) : rN i < 16 := by unfold rN; have := h.1; have := h.2; omega
theorem sB_le (z : Int) : sB z ≤ 1 := by unfold sB; split <;> omega
theorem sB_1 {s : Nat} {z : Int} (h : s = sB z) : s = 1 ↔ z < 0 := by rw [h]; unfold sB; split <;> omega
theorem sB_ab {s t : Nat} {z : Int} (h : s = sB z) (h2 : t = ab z) : s = 1 → t ≠ 0 := by intro h3; have := (sB_1 h).mp h3; rw [h2]; unfold ab; omega
theorem ab_pos {t : Nat} {z : Int} (h2 : t = ab z) (h : z ≠ 0) : 0 < t := by rw [h2]; unfold ab; omega
