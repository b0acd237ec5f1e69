/-! a step of the division, over whole numbers -/
theorem lr_X {g : Nat → Int32} {nt m : Nat} (hd : ∀ i, i < nt + 1 → dl g i < 2147483648) (hm : m ≤ nt + 1) (ht : m = nt + 1 → dl g nt = 0) : bv 2147483648 (dl g) nt % 2147483648 ^ m = bv 2147483648 (dl g) m := by
  rcases Nat.lt_or_ge nt m with c | c
  · rw [show m = nt + 1 by omega, (bv_hi (by decide) (fun k hk => hd k (by omega)) (by omega)).2, bv_s, ht (by omega)]
    simp
  · exact (bv_div (by decide) (fun k hk => hd k (by omega)) c).2
/-- the number at al and above, with its highest limb -/
theorem lr_split {d : Nat → Nat} {al n : Nat} : bv 2147483648 d (al + n + 1) = bv 2147483648 d al + 2147483648 ^ al * (bv 2147483648 (fun k => d (al + k)) n + d (al + n) * 2147483648 ^ n) := by
  rw [Nat.add_assoc, bv_split 2147483648 d al (n + 1), bv_s]
theorem lr_pure {A P L O T v dig : Int} {X : Nat} (hA : 0 < A) (hP : 0 < P) (hL : 0 ≤ L) (hL2 : L < A) (hX : (X : Int) = L + A * (O + T * P)) (hv : 0 < v) (hv2 : v < P) (q1 : 0 ≤ X - (dig - 1) * (v * A)) (q2 : (X : Int) < (dig + 1) * (v * A)) :
    (0 ≤ O + T * P - dig * v → O + T * P - dig * v < v) ∧ (O + T * P - dig * v < 0 → 0 ≤ O + T * P - (dig - 1) * v) := by
  constructor
  · intro _
    apply Int.not_le.mp
    intro q
    have h1 : A * v ≤ A * (O + T * P - dig * v) := Int.mul_le_mul_of_nonneg_left q (by omega)
    have h2 : A * (O + T * P - dig * v) = A * (O + T * P) - dig * (v * A) := by grind
    have h3 : (dig + 1) * (v * A) = dig * (v * A) + A * v := by grind
    omega
  · intro _
    apply Int.not_lt.mp
    intro q
    have h1 : A * (O + T * P - (dig - 1) * v) ≤ A * (-1) := Int.mul_le_mul_of_nonneg_left (by omega) (by omega)
    have h2 : A * (O + T * P - (dig - 1) * v) = A * (O + T * P) - (dig - 1) * (v * A) := by grind
    omega
/-- what is known of the trial digit, in one place -/
theorem lr_dig {X dig V : Nat} (hV : 0 < V) (h1 : X / V ≤ dig) (h2 : dig ≤ X / V + 1) : 0 ≤ (X : Int) - ((dig : Int) - 1) * (V : Int) ∧ (X : Int) < ((dig : Int) + 1) * (V : Int) := by
  have a := Nat.lt_mul_div_succ X hV
  have b := Nat.div_mul_le_self X V
  have c1 : V * (X / V + 1) ≤ V * (dig + 1) := Nat.mul_le_mul_left _ (by omega)
  have e1 : (((V * (dig + 1) : Nat)) : Int) = ((dig : Int) + 1) * (V : Int) := by simp [Int.mul_comm]
  refine ⟨?_, by omega⟩
  rcases Nat.eq_zero_or_pos dig with q | q
  · subst q
    have : (((0 : Nat) : Int) - 1) * (V : Int) = -(V : Int) := by grind
    omega
  · have c2 : (dig - 1) * V ≤ X / V * V := Nat.mul_le_mul_right _ (by omega)
    have e2 : (((dig - 1) * V : Nat) : Int) = ((dig : Int) - 1) * (V : Int) := by
      rw [Int.natCast_mul, show ((dig - 1 : Nat) : Int) = (dig : Int) - 1 by omega]
    omega
theorem lr_end {d d' : Nat → Nat} {al n v qd : Nat} {X : Nat} (hX : X = bv 2147483648 d al + 2147483648 ^ al * (bv 2147483648 (fun k => d (al + k)) n + d (al + n) * 2147483648 ^ n)) (hd : ∀ i, i < al → d i < 2147483648) (hs : ∀ k, k < al → d' k = d k)
    (hP : (bv 2147483648 (fun k => d' (al + k)) n : Int) = (bv 2147483648 (fun k => d (al + k)) n : Int) + (d (al + n) : Int) * 2147483648 ^ n - qd * v) (hlt : bv 2147483648 (fun k => d' (al + k)) n < v) :
    bv 2147483648 d' (al + n) + qd * (v * 2147483648 ^ al) = X ∧ bv 2147483648 d' (al + n) < v * 2147483648 ^ al := by
  have hL : bv 2147483648 d al < 2147483648 ^ al := bv_lt hd
  rw [bv_split 2147483648 d' al n, bv_congr hs]
  have e0 : ((2147483648 ^ n : Nat) : Int) = (2147483648 : Int) ^ n := by simp
  generalize bv 2147483648 (fun k => d' (al + k)) n = P' at *
  generalize bv 2147483648 (fun k => d (al + k)) n = O at *
  generalize bv 2147483648 d al = L at *
  rw [← e0, ← Int.natCast_mul, ← Int.natCast_mul] at hP
  generalize d (al + n) * 2147483648 ^ n = W' at *
  generalize 2147483648 ^ al = A at *
  have h1 : P' + qd * v = O + W' := by omega
  constructor
  · rw [hX, ← h1, Nat.mul_add]
    have : A * (qd * v) = qd * (v * A) := by ac_rfl
    omega
  · have : A * (P' + 1) ≤ A * v := Nat.mul_le_mul_left _ hlt
    rw [Nat.mul_add, Nat.mul_comm A v] at this
    omega
section LR
variable {gx gy gz : Nat → Int32} {gd : Nat → Int32} {al n v dg X : Nat} {cy cy2 : Int}
theorem lr_A (hX : X = bv 2147483648 (dl gx) (al + n + 1)) (hd : ∀ i, i < al + n + 1 → dl gx i < 2147483648) (hv : bv 2147483648 (dl gd) n = v) (hv0 : 0 < v) (hv1 : v < 2147483648 ^ n) (h1 : X / (v * 2147483648 ^ al) ≤ dg) (h2 : dg ≤ X / (v * 2147483648 ^ al) + 1)
    (hs : ∀ k, k < al ∨ al + n ≤ k → gy k = gx k) (hdy : ∀ k, k < n → dl gy (al + k) < 2147483648)
    (hP : (bv 2147483648 (fun k => dl gy (al + k)) n : Int) + cy * 2147483648 ^ n = (bv 2147483648 (fun k => dl gx (al + k)) n : Int) - (dg : Int) * (bv 2147483648 (dl gd) n : Int)) (hc : 0 ≤ (dl gx (al + n) : Int) + cy) :
    bv 2147483648 (dl gy) (al + n) + dg * (v * 2147483648 ^ al) = X ∧ bv 2147483648 (dl gy) (al + n) < v * 2147483648 ^ al := by
  rw [hv] at hP
  rw [lr_split] at hX
  have hdl : ∀ k, k < al → dl gy k = dl gx k := fun k hk => by show (gy k).toBitVec.toNat = _; rw [hs k (Or.inl hk)]; rfl
  have hA : 0 < 2147483648 ^ al := Nat.pow_pos (by decide)
  have hL : bv 2147483648 (dl gx) al < 2147483648 ^ al := bv_lt (fun i hi => hd i (by omega))
  have hPb : bv 2147483648 (fun k => dl gy (al + k)) n < 2147483648 ^ n := bv_lt hdy
  obtain ⟨k1, k2⟩ := lr_dig (Nat.mul_pos hv0 hA) h1 h2
  have e0 : ((2147483648 ^ n : Nat) : Int) = (2147483648 : Int) ^ n := by simp
  have hp : (0 : Int) < 2147483648 ^ n := Int.pow_pos (by decide)
  have hXi : (X : Int) = (bv 2147483648 (dl gx) al : Int) + ((2147483648 ^ al : Nat) : Int) * ((bv 2147483648 (fun k => dl gx (al + k)) n : Int) + (dl gx (al + n) : Int) * 2147483648 ^ n) := by
    rw [hX, ← e0]; simp only [Int.natCast_add, Int.natCast_mul]
  rw [Int.natCast_mul] at k1 k2
  obtain ⟨m1, m2⟩ := lr_pure (A := ((2147483648 ^ al : Nat) : Int)) (P := 2147483648 ^ n) (dig := dg) (v := v) (by omega) hp (by omega) (by omega) hXi (by omega) (by rw [← e0]; exact Int.ofNat_lt.mpr hv1) k1 k2
  have hY : (bv 2147483648 (fun k => dl gx (al + k)) n : Int) + (dl gx (al + n) : Int) * 2147483648 ^ n - dg * v = (bv 2147483648 (fun k => dl gy (al + k)) n : Int) + ((dl gx (al + n) : Int) + cy) * 2147483648 ^ n := by grind
  have hm : 0 ≤ ((dl gx (al + n) : Int) + cy) * 2147483648 ^ n := Int.mul_nonneg hc (by omega)
  have hlt := m1 (by rw [hY]; omega)
  have hz : (dl gx (al + n) : Int) + cy = 0 := by
    apply Int.le_antisymm _ hc
    apply Int.not_lt.mp
    intro q
    have : 1 * (2147483648 : Int) ^ n ≤ ((dl gx (al + n) : Int) + cy) * 2147483648 ^ n := Int.mul_le_mul_of_nonneg_right q (by omega)
    have hv1' : (v : Int) < 2147483648 ^ n := by rw [← e0]; exact Int.ofNat_lt.mpr hv1
    omega
  rw [hz] at hY
  exact lr_end hX (fun i hi => hd i (by omega)) hdl (by omega) (by omega)
theorem lr_B (hX : X = bv 2147483648 (dl gx) (al + n + 1)) (hd : ∀ i, i < al + n + 1 → dl gx i < 2147483648) (hv : bv 2147483648 (dl gd) n = v) (hv0 : 0 < v) (hv1 : v < 2147483648 ^ n) (h1 : X / (v * 2147483648 ^ al) ≤ dg) (h2 : dg ≤ X / (v * 2147483648 ^ al) + 1)
    (hs : ∀ k, k < al ∨ al + n ≤ k → gy k = gx k) (hdy : ∀ k, k < n → dl gy (al + k) < 2147483648)
    (hP : (bv 2147483648 (fun k => dl gy (al + k)) n : Int) + cy * 2147483648 ^ n = (bv 2147483648 (fun k => dl gx (al + k)) n : Int) - (dg : Int) * (bv 2147483648 (dl gd) n : Int)) (hc : (dl gx (al + n) : Int) + cy < 0) :
    1 ≤ dg ∧ ((∀ k, k < al ∨ al + n ≤ k → gz k = gy k) → (∀ k, k < n → dl gz (al + k) < 2147483648) → (bv 2147483648 (fun k => dl gz (al + k)) n : Int) + cy2 * 2147483648 ^ n = (bv 2147483648 (fun k => dl gy (al + k)) n : Int) - (-1) * (bv 2147483648 (dl gd) n : Int) →
      bv 2147483648 (dl gz) (al + n) + (dg - 1) * (v * 2147483648 ^ al) = X ∧ bv 2147483648 (dl gz) (al + n) < v * 2147483648 ^ al) := by
  rw [hv] at hP ⊢
  rw [lr_split] at hX
  have hA : 0 < 2147483648 ^ al := Nat.pow_pos (by decide)
  have hL : bv 2147483648 (dl gx) al < 2147483648 ^ al := bv_lt (fun i hi => hd i (by omega))
  have hPb : bv 2147483648 (fun k => dl gy (al + k)) n < 2147483648 ^ n := bv_lt hdy
  obtain ⟨k1, k2⟩ := lr_dig (Nat.mul_pos hv0 hA) h1 h2
  have e0 : ((2147483648 ^ n : Nat) : Int) = (2147483648 : Int) ^ n := by simp
  have hp : (0 : Int) < 2147483648 ^ n := Int.pow_pos (by decide)
  have hPb' : (bv 2147483648 (fun k => dl gy (al + k)) n : Int) < 2147483648 ^ n := by rw [← e0]; exact Int.ofNat_lt.mpr hPb
  have hv1' : (v : Int) < 2147483648 ^ n := by rw [← e0]; exact Int.ofNat_lt.mpr hv1
  have hXi : (X : Int) = (bv 2147483648 (dl gx) al : Int) + ((2147483648 ^ al : Nat) : Int) * ((bv 2147483648 (fun k => dl gx (al + k)) n : Int) + (dl gx (al + n) : Int) * 2147483648 ^ n) := by
    rw [hX, ← e0]; simp only [Int.natCast_add, Int.natCast_mul]
  rw [Int.natCast_mul] at k1 k2
  obtain ⟨m1, m2⟩ := lr_pure (A := ((2147483648 ^ al : Nat) : Int)) (P := 2147483648 ^ n) (dig := dg) (v := v) (by omega) hp (by omega) (by omega) hXi (by omega) hv1' k1 k2
  have hY : (bv 2147483648 (fun k => dl gx (al + k)) n : Int) + (dl gx (al + n) : Int) * 2147483648 ^ n - dg * v = (bv 2147483648 (fun k => dl gy (al + k)) n : Int) + ((dl gx (al + n) : Int) + cy) * 2147483648 ^ n := by grind
  have hm : ((dl gx (al + n) : Int) + cy) * 2147483648 ^ n ≤ -1 * 2147483648 ^ n := Int.mul_le_mul_of_nonneg_right (by omega) (by omega)
  have hneg : (bv 2147483648 (fun k => dl gx (al + k)) n : Int) + (dl gx (al + n) : Int) * 2147483648 ^ n - dg * v < 0 := by rw [hY]; omega
  have hY0 := m2 hneg
  have hdg : 1 ≤ dg := by
    apply Nat.le_of_not_lt
    intro q
    have q0 : dg = 0 := by omega
    rw [q0] at hneg
    have : 0 ≤ (dl gx (al + n) : Int) * 2147483648 ^ n := Int.mul_nonneg (by omega) (by omega)
    omega
  refine ⟨hdg, fun hs2 hdz hP2 => ?_⟩
  have hdl : ∀ k, k < al → dl gz k = dl gx k := fun k hk => by show (gz k).toBitVec.toNat = _; rw [hs2 k (Or.inl hk), hs k (Or.inl hk)]; rfl
  have hPz : bv 2147483648 (fun k => dl gz (al + k)) n < 2147483648 ^ n := bv_lt hdz
  have hPz' : (bv 2147483648 (fun k => dl gz (al + k)) n : Int) < 2147483648 ^ n := by rw [← e0]; exact Int.ofNat_lt.mpr hPz
  have hY2 : (bv 2147483648 (fun k => dl gx (al + k)) n : Int) + (dl gx (al + n) : Int) * 2147483648 ^ n - ((dg : Int) - 1) * v = (bv 2147483648 (fun k => dl gz (al + k)) n : Int) + ((dl gx (al + n) : Int) + cy + cy2) * 2147483648 ^ n := by grind
  have hlt : (bv 2147483648 (fun k => dl gx (al + k)) n : Int) + (dl gx (al + n) : Int) * 2147483648 ^ n - ((dg : Int) - 1) * v < v := by
    have : ((dg : Int) - 1) * v = dg * v - v := by grind
    omega
  have hz : (dl gx (al + n) : Int) + cy + cy2 = 0 := by
    rw [hY2] at hlt hY0
    rcases Int.lt_trichotomy ((dl gx (al + n) : Int) + cy + cy2) 0 with q | q | q
    · have : ((dl gx (al + n) : Int) + cy + cy2) * 2147483648 ^ n ≤ -1 * 2147483648 ^ n := Int.mul_le_mul_of_nonneg_right (by omega) (by omega)
      omega
    · exact q
    · have : 1 * (2147483648 : Int) ^ n ≤ ((dl gx (al + n) : Int) + cy + cy2) * 2147483648 ^ n := Int.mul_le_mul_of_nonneg_right q (by omega)
      omega
  rw [hz] at hY2
  have e3 : ((dg - 1 : Nat) : Int) = (dg : Int) - 1 := by omega
  exact lr_end hX (fun i hi => hd i (by omega)) hdl (by rw [e3]; omega) (by omega)
end LR
theorem lr_Q {gq gw : Nat → Int32} {k S v qd x x' u : Nat} (hk : 0 < k) (hS : k ≤ S) (hz : x' + qd * (v * 2147483648 ^ (k - 1)) = x) (hu : x + v * 2147483648 ^ k * bv 2147483648 (fun j => dl gq (k + j)) (S - k) = u) (hw : dl gw (k - 1) = qd) (hs : ∀ j, k ≤ j → dl gw j = dl gq j) :
    x' + v * 2147483648 ^ (k - 1) * bv 2147483648 (fun j => dl gw (k - 1 + j)) (S - (k - 1)) = u := by
  obtain ⟨i, rfl⟩ : ∃ i, k = i + 1 := ⟨k - 1, by omega⟩
  rw [Nat.add_sub_cancel] at *
  rw [show S - i = (S - (i + 1)) + 1 by omega, bv_cons]
  have e2 : bv 2147483648 (fun t => (fun j => dl gw (i + j)) (t + 1)) (S - (i + 1)) = bv 2147483648 (fun j => dl gq (i + 1 + j)) (S - (i + 1)) := bv_congr (fun t _ => by show dl gw (i + (t + 1)) = dl gq (i + 1 + t); rw [← hs _ (by omega)]; congr 1; omega)
  rw [e2]
  show x' + v * 2147483648 ^ i * (dl gw (i + 0) + _) = u
  rw [Nat.add_zero, hw, ← hu, ← hz, Nat.pow_succ, Nat.mul_add]
  generalize bv 2147483648 (fun j => dl gq (i + 1 + j)) (S - (i + 1)) = Q
  generalize 2147483648 ^ i = P
  have a1 : v * P * qd = qd * (v * P) := by ac_rfl
  have a2 : v * P * (2147483648 * Q) = v * (P * 2147483648) * Q := by ac_rfl
  omega
theorem lr_0 {N n k u v : Nat} {g : Nat → Int32} {Nd nd : Nat} {gd : Nat → Int32} (hu : Wok N n g u) (hv : Wok Nd nd gd v) (hnd : 0 < nd) (hk : k + nd = n + 1) : u < v * 2147483648 ^ k := by
  have h1 := hu.lt
  have h2 := hv.ge hnd
  have h3 : 2147483648 ^ (nd - 1) * 2147483648 ^ k ≤ v * 2147483648 ^ k := Nat.mul_le_mul_right _ h2
  rw [← Nat.pow_add, show nd - 1 + k = n by omega] at h3
  omega
