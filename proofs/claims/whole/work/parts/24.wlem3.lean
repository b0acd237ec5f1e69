theorem ds_step {n j r dv : Nat} {g gx gy : Nat → Int32} (hj : j ≤ n) (h0 : 0 < j) (h : bv 2147483648 (fun t => dl g (j + t)) (n - j) = bv 2147483648 (fun t => dl gx (j + t)) (n - j) * dv + r)
    (hy : dl gy (j - 1) = (r * 2 ^ 31 + dl g (j - 1)) / dv) (hs : ∀ t, j ≤ t → dl gy t = dl gx t) :
    bv 2147483648 (fun t => dl g (j - 1 + t)) (n - (j - 1)) = bv 2147483648 (fun t => dl gy (j - 1 + t)) (n - (j - 1)) * dv + (r * 2 ^ 31 + dl g (j - 1)) % dv := by
  obtain ⟨i, rfl⟩ : ∃ i, j = i + 1 := ⟨j - 1, by omega⟩
  rw [Nat.add_sub_cancel] at hy ⊢
  rw [show n - i = (n - (i + 1)) + 1 by omega, bv_cons, bv_cons]
  have e1 : bv 2147483648 (fun t => (fun t => dl g (i + t)) (t + 1)) (n - (i + 1)) = bv 2147483648 (fun t => dl g (i + 1 + t)) (n - (i + 1)) := bv_congr (fun t _ => by show dl g (i + (t + 1)) = dl g (i + 1 + t); congr 1; omega)
  have e2 : bv 2147483648 (fun t => (fun t => dl gy (i + t)) (t + 1)) (n - (i + 1)) = bv 2147483648 (fun t => dl gx (i + 1 + t)) (n - (i + 1)) := bv_congr (fun t _ => by show dl gy (i + (t + 1)) = dl gx (i + 1 + t); rw [← hs _ (by omega)]; congr 1; omega)
  rw [e1, e2, h]
  show dl g (i + 0) + _ = (dl gy (i + 0) + _) * dv + _
  rw [Nat.add_zero, hy]
  generalize bv 2147483648 (fun t => dl gx (i + 1 + t)) (n - (i + 1)) = Q
  have k := Nat.div_add_mod (r * 2 ^ 31 + dl g i) dv
  rw [Nat.mul_add, Nat.add_mul]
  have e3 : 2147483648 * Q * dv = 2147483648 * (Q * dv) := by ac_rfl
  have e4 : dv * ((r * 2 ^ 31 + dl g i) / dv) = (r * 2 ^ 31 + dl g i) / dv * dv := Nat.mul_comm _ _
  omega
