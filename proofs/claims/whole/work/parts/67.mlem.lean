/-! the reference: lemmas of its numbers -/
def pd (P : Nat → Int32) (a n i : Nat) : Nat := if i < n then dl P (300 * a + i) else 0
theorem pd_in {P : Nat → Int32} {a n i : Nat} (h : i < n) : pd P a n i = dl P (300 * a + i) := if_pos h
theorem pd_out {P : Nat → Int32} {a n i : Nat} (h : n ≤ i) : pd P a n i = 0 := if_neg (by omega)
theorem pd_lt {P : Nat → Int32} {a n : Nat} (h : Dg P a n) (i : Nat) : pd P a n i < 65536 := by
  unfold pd
  split
  · exact h i ‹_›
  · decide
theorem pd_bv {P : Nat → Int32} {a n k : Nat} (h : n ≤ k) : bv 65536 (pd P a n) k = bvP P a n := by
  rw [bv_trim h (fun i h1 _ => pd_out h1)]
  exact bv_congr (fun i hi => pd_in hi)
theorem bvP_lt {P : Nat → Int32} {a n : Nat} (h : Dg P a n) : bvP P a n < 65536 ^ n := bv_lt h
theorem add_step {x cy u v A B w p : Nat} (h : x + cy * p = A + B) (hw : w = cy + u + v) : x + w % 65536 * p + w / 65536 * (p * 65536) = (A + u * p) + (B + v * p) := by
  have h1 := carry_step 65536 w p
  have h2 : w * p = cy * p + u * p + v * p := by rw [hw, Nat.add_mul, Nat.add_mul]
  omega
theorem sub_step {x bw u v A B d nb p : Nat} (h : x + B = A + bw * p) (hd : u + nb * 65536 = d + bw + v) : x + d * p + (B + v * p) = (A + u * p) + nb * (p * 65536) := by
  have h1 : (u + nb * 65536) * p = (d + bw + v) * p := by rw [hd]
  rw [Nat.add_mul, Nat.add_mul, Nat.add_mul, Nat.mul_assoc, Nat.mul_comm 65536 p] at h1
  omega
theorem mul_step {x cy u by' A w p : Nat} (h : x + cy * p = A * by') (hw : w = u * by' + cy) : x + w % 65536 * p + w / 65536 * (p * 65536) = (A + u * p) * by' := by
  have h1 := carry_step 65536 w p
  have h2 : w * p = u * p * by' + cy * p := by rw [hw, Nat.add_mul, Nat.mul_right_comm]
  rw [Nat.add_mul]
  omega
theorem bvP_one {P : Nat → Int32} {a n : Nat} (h : n = 0 ∨ dl P (300 * a + (n - 1)) ≠ 0) : bvP P a n = 1 ↔ n = 1 ∧ dl P (300 * a) = 1 := by
  by_cases c0 : n = 0
  · subst c0; simp [bvP_0]
  · by_cases c1 : n = 1
    · subst c1; simp [bvP_s, bvP_0]
    · obtain ⟨j, rfl⟩ : ∃ j, n = (j + 1) + 1 := ⟨n - 2, by omega⟩
      have h1 : 65536 ^ (j + 1) ≤ bvP P a ((j + 1) + 1) := bv_top (d := fun i => dl P (300 * a + i)) (h.resolve_left c0)
      have h2 : 0 < 65536 ^ j := Nat.pow_pos (by decide)
      rw [Nat.pow_succ] at h1
      constructor
      · intro h3; omega
      · intro h3; omega
def i1 (z : Int) : Int := if z = 1 then 1 else 0
theorem i1_y {z : Int} (h : z = 1) : iI 1 = iI (i1 z) := by unfold i1; rw [if_pos h]
theorem i1_n {z : Int} (h : z ≠ 1) : iI 0 = iI (i1 z) := by unfold i1; rw [if_neg h]
theorem sB_c (z : Int) : (z < 0 ∧ sB z = 1) ∨ (0 ≤ z ∧ sB z = 0) := by
  unfold sB
  split
  · exact Or.inl ⟨‹_›, rfl⟩
  · exact Or.inr ⟨by omega, rfl⟩
theorem cmpI_l {a b : Nat} (h : a < b) : iI (-1) = iI (cmpI a b) := by unfold cmpI; rw [if_pos h]
theorem cmpI_g {a b : Nat} (h : b < a) : iI 1 = iI (cmpI a b) := by unfold cmpI; rw [if_neg (by omega), if_neg (by omega)]
theorem cmpI_e {a b : Nat} (h : a = b) : iI 0 = iI (cmpI a b) := by unfold cmpI; rw [if_neg (by omega), if_pos h]
theorem mg_S {P : Nat → Int32} {a b n k : Nat} (hD : Dg P a n) (ht : k = 0 ∨ dl P (300 * b + (k - 1)) ≠ 0) (c : n < k) : bvP P a n < bvP P b k := bv_size (d := fun i => dl P (300 * a + i)) (e := fun i => dl P (300 * b + i)) (by decide) c hD (ht.resolve_left (by omega))
theorem mg_L {P : Nat → Int32} {a b n i : Nat} (hD : Dg P a n) (hi : i < n) (he : ∀ j, i < j → j < n → dl P (300 * a + j) = dl P (300 * b + j)) (c : dl P (300 * a + i) < dl P (300 * b + i)) : bvP P a n < bvP P b n := bv_cmp (d := fun i => dl P (300 * a + i)) (e := fun i => dl P (300 * b + i)) hi hD he c
/-- a ± b: lz says which -/
def jz (lz : Nat) (za zb : Int) : Int := if lz = 0 then za + zb else za - zb
def tbz (lz : Nat) (zb : Int) : Nat := if sB zb = lz then 0 else 1
theorem jz0 (za zb : Int) : jz 0 za zb = za + zb := rfl
theorem jz1 (za zb : Int) : jz 1 za zb = za - zb := rfl
theorem sB_eq {x y : Int} (h : x < 0 ↔ y < 0) : sB x = sB y := by
  unfold sB
  by_cases c : x < 0
  · rw [if_pos c, if_pos (h.mp c)]
  · rw [if_neg c, if_neg (fun h9 => c (h.mpr h9))]
theorem zB_0 {x : Int} (h : 0 ≤ x) : sB x = 0 := if_neg (by omega)
theorem zB_1 {x : Int} (h : x < 0) : sB x = 1 := if_pos h
theorem tbz_c {lz : Nat} (zb : Int) (hl : lz ≤ 1) : (lz = 0 ∧ tbz lz zb = sB zb) ∨ (lz = 1 ∧ tbz lz zb = 1 - sB zb) := by
  unfold tbz
  rcases sB_c zb with ⟨h1, e1⟩ | ⟨h1, e1⟩ <;> rw [e1] <;> (obtain rfl | rfl : lz = 0 ∨ lz = 1 := by omega) <;> simp
theorem jn_add {lz : Nat} {za zb : Int} (hl : lz ≤ 1) (h : sB za = tbz lz zb) : (jz lz za zb).natAbs = za.natAbs + zb.natAbs ∧ (za.natAbs + zb.natAbs ≠ 0 → sB za = sB (jz lz za zb)) := by
  rcases tbz_c zb hl with ⟨rfl, e0⟩ | ⟨rfl, e0⟩ <;> rw [e0] at h <;> (first | rw [jz0] | rw [jz1]) <;> rcases sB_c za with ⟨h1, e1⟩ | ⟨h1, e1⟩ <;> rcases sB_c zb with ⟨h2, e2⟩ | ⟨h2, e2⟩ <;> rw [e1, e2] at h <;> first | (exact absurd h (by decide)) | exact ⟨by omega, fun h3 => sB_eq (by omega)⟩
theorem jn_sub {lz : Nat} {za zb : Int} (hl : lz ≤ 1) (h : sB za ≠ tbz lz zb) (hc : zb.natAbs ≤ za.natAbs) : (jz lz za zb).natAbs = za.natAbs - zb.natAbs ∧ (za.natAbs - zb.natAbs ≠ 0 → sB za = sB (jz lz za zb)) := by
  rcases tbz_c zb hl with ⟨rfl, e0⟩ | ⟨rfl, e0⟩ <;> rw [e0] at h <;> (first | rw [jz0] | rw [jz1]) <;> rcases sB_c za with ⟨h1, e1⟩ | ⟨h1, e1⟩ <;> rcases sB_c zb with ⟨h2, e2⟩ | ⟨h2, e2⟩ <;> rw [e1, e2] at h <;> first | (exact absurd rfl h) | exact ⟨by omega, fun h3 => sB_eq (by omega)⟩
theorem jn_bus {lz : Nat} {za zb : Int} (hl : lz ≤ 1) (h : sB za ≠ tbz lz zb) (hc : za.natAbs < zb.natAbs) : (jz lz za zb).natAbs = zb.natAbs - za.natAbs ∧ (zb.natAbs - za.natAbs ≠ 0 → tbz lz zb = sB (jz lz za zb)) := by
  rcases tbz_c zb hl with ⟨rfl, e0⟩ | ⟨rfl, e0⟩ <;> rw [e0] at h ⊢ <;> (first | rw [jz0] | rw [jz1]) <;> rcases sB_c za with ⟨h1, e1⟩ | ⟨h1, e1⟩ <;> rcases sB_c zb with ⟨h2, e2⟩ | ⟨h2, e2⟩ <;> rw [e1, e2] at h <;> rw [e2] <;> first | (exact absurd rfl h) | exact ⟨by omega, fun h3 => by first | exact (zB_0 (by omega)).symm | exact (zB_1 (by omega)).symm⟩
theorem tm_neg {v : Int} (c : v < 0) : v.tmod 65536 = -((-v) % 65536) := by
  have h1 : v.tmod 65536 = -((-v).tmod 65536) := by rw [Int.neg_tmod, Int.neg_neg]
  rw [h1, Int.tmod_eq_emod_of_nonneg (a := -v) (by omega)]
theorem tmod_p {v : Int} (h : 0 ≤ v.tmod 65536) : v.tmod 65536 = v % 65536 := by
  by_cases c : 0 ≤ v
  · rw [Int.tmod_eq_emod_of_nonneg c]
  · rw [tm_neg (by omega)] at h ⊢; omega
theorem tmod_n {v : Int} (h : v.tmod 65536 < 0) : v.tmod 65536 + 65536 = v % 65536 := by
  by_cases c : 0 ≤ v
  · rw [Int.tmod_eq_emod_of_nonneg c] at h; omega
  · rw [tm_neg (by omega)] at h ⊢; omega
theorem zg_mul {za zb : Int} (hz : za.natAbs * zb.natAbs ≠ 0) : (if sB za = sB zb then 0 else 1) = sB (za * zb) := by
  have ha : za ≠ 0 := fun h => hz (by rw [h]; simp)
  have hb : zb ≠ 0 := fun h => hz (by rw [h]; simp)
  clear hz
  rcases sB_c za with ⟨h1, e1⟩ | ⟨h1, e1⟩ <;> rcases sB_c zb with ⟨h2, e2⟩ | ⟨h2, e2⟩ <;> rw [e1, e2]
  · have h3 := Int.mul_pos_of_neg_of_neg h1 h2; rw [zB_0 (by omega)]; rfl
  · have h3 := Int.mul_neg_of_neg_of_pos h1 (by omega : 0 < zb); rw [zB_1 h3]; rfl
  · have h3 := Int.mul_neg_of_pos_of_neg (by omega : 0 < za) h2; rw [zB_1 h3]; rfl
  · have h3 := Int.mul_nonneg h1 h2; rw [zB_0 h3]; rfl
theorem Dg_set {P : Nat → Int32} {to n k x : Nat} (h : Dg P to n) (hx : x < 65536) : Dg (upd P (300 * to + k) (iI x)) to n := by
  intro i hi
  by_cases c : i = k
  · rw [c, dig_up (by omega)]; exact hx
  · rw [dl_un (by omega)]; exact h i hi
theorem tm_step {X9 cy p X8 ai pi Y w bj dj pj : Nat} (hp : p = pi * pj) (h : X9 + cy * p = X8 + ai * pi * Y) (hw : w = ai * bj + dj + cy) : X9 + w % 65536 * p + w / 65536 * (p * 65536) = (X8 + dj * p) + ai * pi * (Y + bj * pj) := by
  have h1 := carry_step 65536 w p
  have h2 : w * p = ai * bj * p + dj * p + cy * p := by rw [hw, Nat.add_mul, Nat.add_mul]
  have h3 : ai * pi * (Y + bj * pj) = ai * pi * Y + ai * bj * p := by
    rw [Nat.mul_add, hp, Nat.mul_assoc ai pi (bj * pj), Nat.mul_left_comm pi bj pj, Nat.mul_assoc ai bj]
  omega
theorem mul_n {P : Nat → Int32} {a b na nb : Nat} (ha3 : na ≤ 300) (hb3 : nb ≤ 300) (hta : na = 0 ∨ dl P (300 * a + (na - 1)) ≠ 0) (htb : nb = 0 ∨ dl P (300 * b + (nb - 1)) ≠ 0) (hm : md (bvP P a na * bvP P b nb)) : na + nb ≤ 300 := by
  by_cases c : na = 0
  · omega
  by_cases d : nb = 0
  · omega
  obtain ⟨i, rfl⟩ : ∃ i, na = i + 1 := ⟨na - 1, by omega⟩
  obtain ⟨j, rfl⟩ : ∃ j, nb = j + 1 := ⟨nb - 1, by omega⟩
  have h1 : 65536 ^ i ≤ bvP P a (i + 1) := bv_top (d := fun i => dl P (300 * a + i)) (hta.resolve_left c)
  have h2 : 65536 ^ j ≤ bvP P b (j + 1) := bv_top (d := fun i => dl P (300 * b + i)) (htb.resolve_left d)
  have h3 : 65536 ^ (i + j) ≤ bvP P a (i + 1) * bvP P b (j + 1) := by rw [Nat.pow_add]; exact Nat.mul_le_mul h1 h2
  apply Nat.le_of_not_lt
  intro c
  have h7 : (65536 : Nat) ^ 257 ≤ 65536 ^ (i + j) := Nat.pow_le_pow_right (by decide) (by omega)
  have h8 : (2 : Nat) ^ 4100 ≤ 65536 ^ 257 := Nat.le_of_ble_eq_true (by decide +kernel)
  exact absurd hm (Nat.not_lt.mpr (Nat.le_trans h8 (Nat.le_trans h7 h3)))
theorem bvP_zero {P : Nat → Int32} {a n : Nat} (h : ∀ i, i < n → P (300 * a + i) = iI 0) : bvP P a n = 0 := bv_zero (fun i hi => dl_of (n := 0) (by decide) (h i hi))
/-- the window of the rest, from k on: n + 1 parts -/
def ww (P : Nat → Int32) (k n : Nat) : Nat := bv 65536 (fun i => dl P (10800 + k + i)) n
theorem ww_s (P : Nat → Int32) (k n : Nat) : ww P k (n + 1) = ww P k n + dl P (10800 + k + n) * 65536 ^ n := rfl
theorem ww_sp (P : Nat → Int32) (k n : Nat) : bvP P 36 (k + n) = bvP P 36 k + 65536 ^ k * ww P k n := by
  unfold bvP ww
  rw [bv_split]
  congr 2
  exact bv_congr (fun i _ => by rw [Nat.add_assoc])
theorem tk_step {x oft bw u v A B d p nb : Nat} (h : x + oft * B = A + bw * p) (hd : u + nb * 65536 = d + v * oft + bw) : x + d * p + oft * (B + v * p) = (A + u * p) + nb * (p * 65536) := by
  have h1 : (u + nb * 65536) * p = (d + v * oft + bw) * p := by rw [hd]
  rw [Nat.add_mul, Nat.add_mul, Nat.add_mul, Nat.mul_assoc, Nat.mul_comm 65536 p] at h1
  have h2 : oft * (B + v * p) = oft * B + v * oft * p := by rw [Nat.mul_add, Nat.mul_comm v oft, Nat.mul_assoc]
  omega
theorem gb_step {x cy u v A B w p : Nat} (h : x + cy * p = A + B) (hw : w = u + v + cy) : x + w % 65536 * p + w / 65536 * (p * 65536) = (A + u * p) + (B + v * p) := add_step h (by omega)
/-- a borrow is one at most -/
theorem tk_bw {x oft bw A B n : Nat} (h : x + oft * B = A + bw * 65536 ^ (n + 1)) (hx : x < 65536 ^ (n + 1)) (ho : oft < 65536) (hB : B < 65536 ^ n) : bw ≤ 1 := by
  have h1 : oft * B ≤ 65536 * 65536 ^ n := Nat.mul_le_mul (Nat.le_of_lt ho) (Nat.le_of_lt hB)
  rw [Nat.mul_comm 65536, ← Nat.pow_succ] at h1
  rcases Nat.lt_or_ge bw 2 with c | c
  · omega
  · have : 2 * 65536 ^ (n + 1) ≤ bw * 65536 ^ (n + 1) := Nat.mul_le_mul_right _ c
    omega
/-- the guess is not below the digit -/
theorem dv_est {w v n lead vl hi : Nat} (hv : v = lead * 65536 ^ n + vl) (hw : hi = w / 65536 ^ n) (hl : 0 < lead) : w / v ≤ hi / lead := by
  rw [hw, Nat.div_div_eq_div_mul]
  exact Nat.div_le_div_left (by rw [hv, Nat.mul_comm lead]; omega) (Nat.mul_pos (Nat.pow_pos (by decide)) hl)
/-- a step of the long division -/
theorem dv_step {R low w w' q v p Q Q' u k : Nat} (hp : p = 65536 ^ k) (hR : R = low + p * w) (hlow : low < p) (hu : R + v * (p * 65536) * Q = u) (hw : w' + q * v = w) (hw' : w' < v) (hQ : Q' = q + 65536 * Q) : low + p * w' + v * p * Q' = u ∧ low + p * w' < v * p := by
  constructor
  · rw [← hu, hR, ← hw, hQ, Nat.mul_add, Nat.mul_add]
    have h1 : v * p * q = p * (q * v) := by rw [Nat.mul_comm v p, Nat.mul_assoc, Nat.mul_comm v q]
    have h2 : v * p * (65536 * Q) = v * (p * 65536) * Q := by rw [← Nat.mul_assoc, Nat.mul_assoc v p 65536]
    omega
  · have h1 : p * (w' + 1) ≤ p * v := Nat.mul_le_mul_left _ hw'
    rw [Nat.mul_add, Nat.mul_one] at h1
    rw [Nat.mul_comm v p]
    omega
/-- the digit above stands at 0 -/
theorem dv_top {P : Nat → Int32} {m v p n : Nat} (h : bvP P 36 (m + 1) < 65536 ^ m) : bvP P 36 (m + 1) = bvP P 36 m := by
  rw [bvP_s] at h ⊢
  rcases Nat.eq_zero_or_pos (dl P (300 * 36 + m)) with c | c
  · rw [c]; omega
  · have : 1 * 65536 ^ m ≤ dl P (300 * 36 + m) * 65536 ^ m := Nat.mul_le_mul_right _ c
    omega
theorem dv_end {u v va vb d R Q : Nat} (hd : 0 < d) (hb : 0 < vb) (hu : u = va * d) (hv : v = vb * d) (h : R + v * Q = u) (hl : R < v) : Q = va / vb ∧ R = va % vb * d := by
  have h1 : u / v = Q := by rw [← h, Nat.add_mul_div_left _ _ (by omega), Nat.div_eq_of_lt hl, Nat.zero_add]
  have h2 : u % v = R := by rw [← h, Nat.add_mul_mod_self_left, Nat.mod_eq_of_lt hl]
  rw [hu, hv, Nat.mul_div_mul_right _ _ hd] at h1
  rw [hu, hv, Nat.mul_mod_mul_right] at h2
  exact ⟨h1.symm, h2.symm⟩
theorem td_q {za zb : Int} (hz : za.natAbs / zb.natAbs ≠ 0) : (if sB za = sB zb then 0 else 1) = sB (za.tdiv zb) := by
  have hb : zb ≠ 0 := fun h => hz (by rw [h]; simp)
  have hq : (za.tdiv zb).natAbs ≠ 0 := by rw [Int.natAbs_tdiv]; exact hz
  clear hz
  rcases sB_c za with ⟨h1, e1⟩ | ⟨h1, e1⟩ <;> rcases sB_c zb with ⟨h2, e2⟩ | ⟨h2, e2⟩ <;> rw [e1, e2]
  · have h3 := Int.tdiv_nonneg (a := -za) (b := -zb) (by omega) (by omega)
    rw [Int.neg_tdiv_neg] at h3
    rw [zB_0 h3]; rfl
  · have h3 := Int.tdiv_nonneg (a := -za) (b := zb) (by omega) (by omega)
    rw [Int.neg_tdiv] at h3
    rw [zB_1 (by omega)]; rfl
  · have h3 := Int.tdiv_nonneg (a := za) (b := -zb) (by omega) (by omega)
    rw [Int.tdiv_neg] at h3
    rw [zB_1 (by omega)]; rfl
  · have h3 := Int.tdiv_nonneg (a := za) (b := zb) (by omega) (by omega)
    rw [zB_0 h3]; rfl
theorem td_r {za zb : Int} (hz : za.natAbs % zb.natAbs ≠ 0) : sB za = sB (za.tmod zb) := by
  have hq : (za.tmod zb).natAbs ≠ 0 := by rw [Int.natAbs_tmod]; exact hz
  clear hz
  rcases sB_c za with ⟨h1, e1⟩ | ⟨h1, e1⟩ <;> rw [e1]
  · have h3 := Int.tmod_nonneg (a := -za) zb (by omega)
    rw [Int.neg_tmod] at h3
    rw [zB_1 (by omega)]
  · have h3 := Int.tmod_nonneg (a := za) zb (by omega)
    rw [zB_0 h3]
theorem td_small {za zb : Int} (h : za.natAbs < zb.natAbs) : za.tdiv zb = 0 ∧ za.tmod zb = za := by
  have h1 : (za.tdiv zb).natAbs = 0 := by rw [Int.natAbs_tdiv]; exact Nat.div_eq_of_lt h
  have h2 : za.tdiv zb = 0 := by omega
  refine ⟨h2, ?_⟩
  rw [Int.tmod_def, h2, Int.mul_zero, Int.sub_zero]
/-- undoing the scale, from above -/
theorem us_step {by' X Y c d x p : Nat} (h : X = Y * by' + c) (hx : x = c * 65536 + d) : d + 65536 * X = (x / by' + 65536 * Y) * by' + x % by' := by
  have h1 := Nat.div_add_mod x by'
  rw [h, Nat.add_mul, Nat.mul_comm (x / by') by']
  have h2 : 65536 * (Y * by' + c) = 65536 * Y * by' + c * 65536 := by rw [Nat.mul_add, Nat.mul_assoc, Nat.mul_comm c]
  omega
theorem ww_up {P : Nat → Int32} {k n i : Nat} {x : Int32} (h : n ≤ i) : ww (upd P (10800 + k + i) x) k n = ww P k n := bv_congr (fun j hj => dl_un (by omega))
theorem dl_set9 {P : Nat → Int32} {i j x : Nat} (h : dl P i < 65536) (hx : x < 65536) : dl (upd P j (iI x)) i < 65536 := by
  by_cases c : i = j
  · rw [c, dl_us (by omega)]; exact hx
  · rw [dl_un c]; exact h
theorem tm_b (v : Int) : -65536 < v.tmod 65536 ∧ v.tmod 65536 < 65536 := by
  by_cases c : 0 ≤ v
  · rw [Int.tmod_eq_emod_of_nonneg c]; omega
  · rw [tm_neg (by omega)]; omega
theorem tm_lo (v : Int) : -9223372036854775808 ≤ v.tmod 65536 := by have := tm_b v; omega
theorem tm_hi (v : Int) : v.tmod 65536 < 9223372036854775808 := by have := tm_b v; omega
theorem d_bd {t : Nat} (h1 : 1 ≤ t) (h2 : t < 65536) : 1 ≤ 65536 / (t + 1) ∧ 65536 / (t + 1) < 65536 := ⟨Nat.div_pos (by omega) (by omega), Nat.div_lt_self (by decide) (by omega)⟩
theorem n_le {P : Nat → Int32} {a n m : Nat} (h4 : n = 0 ∨ dl P (300 * a + (n - 1)) ≠ 0) (hlt : bvP P a n < 65536 ^ m) : n ≤ m := by
  rcases h4 with h4 | h4
  · omega
  · by_cases c0 : n = 0
    · omega
    · obtain ⟨k, rfl⟩ : ∃ k, n = k + 1 := ⟨n - 1, by omega⟩
      have h6 : 65536 ^ k ≤ bvP P a (k + 1) := bv_top (d := fun i => dl P (300 * a + i)) h4
      apply Nat.le_of_not_lt
      intro c
      have : 65536 ^ m ≤ 65536 ^ k := Nat.pow_le_pow_right (by decide) (by omega)
      omega
def qq (P : Nat → Int32) (k n : Nat) : Nat := bv 65536 (fun t => dl P (11100 + k + t)) n
theorem qq_c (P : Nat → Int32) (k n : Nat) : qq P k (n + 1) = dl P (11100 + k) + 65536 * qq P (k + 1) n := by
  unfold qq
  rw [bv_cons]
  congr 2
  exact bv_congr (fun i _ => by rw [show 11100 + k + (i + 1) = 11100 + (k + 1) + i by omega])
theorem qq_0 (P : Nat → Int32) (n : Nat) : qq P 0 n = bvP P 37 n := rfl
theorem ww_c (P : Nat → Int32) (k n : Nat) : ww P k (n + 1) = dl P (10800 + k) + 65536 * ww P (k + 1) n := by
  unfold ww
  rw [bv_cons]
  congr 2
  exact bv_congr (fun i _ => by rw [show 10800 + k + (i + 1) = 10800 + (k + 1) + i by omega])
theorem ww_0 (P : Nat → Int32) (n : Nat) : ww P 0 n = bvP P 36 n := rfl
theorem Dg.w {P : Nat → Int32} {k i n : Nat} (h : Dg P 36 n) (hi : k + i < n) : dl P (10800 + k + i) < 65536 := by
  have := h (k + i) hi
  rwa [show 300 * 36 + (k + i) = 10800 + k + i by omega] at this
theorem dv_loop {P8 P5 : Nat → Int32} {k n tp u v q0 : Nat} (hk : k ≤ tp) (hkn : k + n < 300) (hR : bvP P8 36 (k + 1 + n) + v * 65536 ^ (k + 1) * qq P8 (k + 1) (tp + 1 - (k + 1)) = u)
    (hw : ww P5 k (n + 1) + q0 * v = ww P8 k (n + 1)) (hw' : ww P5 k (n + 1) < v) (hv : v < 65536 ^ n) (hq0 : q0 < 65536) (hP : ∀ j, j < 10800 + k ∨ 10800 + k + n < j → P5 j = P8 j) (hD8 : Dg P8 36 (k + 1 + n)) :
    bvP (upd P5 (11100 + k) (iI q0)) 36 (k + n) + v * 65536 ^ k * qq (upd P5 (11100 + k) (iI q0)) k (tp + 1 - k) = u ∧ bvP (upd P5 (11100 + k) (iI q0)) 36 (k + n) < v * 65536 ^ k := by
  have e1 : bvP (upd P5 (11100 + k) (iI q0)) 36 (k + n) = bvP P5 36 (k + n) := bvP_congr (fun i hi => pk_un (by omega))
  have e2 : qq (upd P5 (11100 + k) (iI q0)) k (tp + 1 - k) = q0 + 65536 * qq P8 (k + 1) (tp + 1 - (k + 1)) := by
    rw [show tp + 1 - k = (tp + 1 - (k + 1)) + 1 by omega, qq_c, dl_us (by omega)]
    congr 2
    exact bv_congr (fun i _ => by show dl _ _ = dl _ _; rw [dl_un (by omega)]; exact dl_congr (hP _ (by omega)))
  have hlow : bvP P5 36 k = bvP P8 36 k := bvP_congr (fun i hi => hP _ (by omega))
  have hl8 : bvP P8 36 k < 65536 ^ k := bv_lt (fun i hi => hD8 i (by omega))
  have h8 : bvP P8 36 (k + 1 + n) = bvP P8 36 k + 65536 ^ k * ww P8 k (n + 1) := by rw [show k + 1 + n = k + (n + 1) by omega]; exact ww_sp P8 k (n + 1)
  obtain ⟨s1, s2⟩ := dv_step (p := 65536 ^ k) (k := k) rfl h8 hl8 hR hw hw' rfl
  have h5 : bvP P5 36 ((k + n) + 1) = bvP P5 36 k + 65536 ^ k * ww P5 k (n + 1) := ww_sp P5 k (n + 1)
  rw [hlow] at h5
  have hs : bvP P5 36 ((k + n) + 1) < 65536 ^ (k + n) := by
    rw [h5]
    refine Nat.lt_of_lt_of_le s2 ?_
    rw [Nat.mul_comm, Nat.pow_add]
    exact Nat.mul_le_mul_left _ (Nat.le_of_lt hv)
  have h6 := dv_top (P := P5) (v := 0) (p := 0) (n := 0) hs
  rw [e1, e2, ← h6, h5]
  exact ⟨s1, s2⟩
theorem us_loop {P8 P9 : Nat → Int32} {k n cy d0 x0 : Nat} (hkn : k + 1 ≤ n) (hU : ww P8 (k + 1) (n - (k + 1)) = ww P9 (k + 1) (n - (k + 1)) * d0 + cy) (hx : x0 = cy * 65536 + dl P8 (10800 + k)) (hq : x0 / d0 < 65536) :
    ww P8 k (n - k) = ww (upd P9 (10800 + k) (iI ((x0 / d0 : Nat) : Int))) k (n - k) * d0 + x0 % d0 := by
  rw [show n - k = (n - (k + 1)) + 1 by omega, ww_c, ww_c, dl_us (by omega)]
  have e : ww (upd P9 (10800 + k) (iI ((x0 / d0 : Nat) : Int))) (k + 1) (n - (k + 1)) = ww P9 (k + 1) (n - (k + 1)) := bv_congr (fun i _ => dl_un (by omega))
  rw [e]
  exact us_step (p := 0) hU hx
theorem us_end {x y c d : Nat} (h : x * d = y * d + c) (hc : c < d) : y = x := by
  have h1 : (y * d + c) / d = y := by rw [Nat.mul_comm, Nat.mul_add_div (by omega), Nat.div_eq_of_lt hc, Nat.add_zero]
  rw [← h1, ← h]
  exact Nat.mul_div_cancel _ (by omega)
theorem us_dig {cy d0 x0 dg : Nat} (hc : cy < d0) (hd : dg < 65536) (hx : x0 = cy * 65536 + dg) : x0 / d0 < 65536 := by
  apply Nat.div_lt_of_lt_mul
  have : (cy + 1) * 65536 ≤ d0 * 65536 := Nat.mul_le_mul_right _ hc
  rw [Nat.add_mul] at this
  omega
/-- the start of the long division -/
theorem dv_start {va vb d0 na n tp : Nat} (hva : va < 65536 ^ na) (hd : d0 < 65536) (hv : 65536 ^ n ≤ vb * d0 * 65536) (htp : tp + n = na + 1) : va * d0 < vb * d0 * 65536 ^ (tp + 1) := by
  have h1 : va * d0 < 65536 ^ na * 65536 := Nat.mul_lt_mul'' hva hd
  have h2 : 65536 ^ n * 65536 ^ tp ≤ vb * d0 * 65536 * 65536 ^ tp := Nat.mul_le_mul_right _ hv
  have e1 : vb * d0 * 65536 * 65536 ^ tp = vb * d0 * 65536 ^ (tp + 1) := by rw [Nat.mul_assoc (vb * d0), Nat.pow_succ, Nat.mul_comm 65536]
  have e2 : (65536 : Nat) ^ n * 65536 ^ tp = 65536 ^ na * 65536 := by rw [← Nat.pow_add, ← Nat.pow_succ, show n + tp = na + 1 by omega]
  rw [e1, e2] at h2
  exact Nat.lt_of_lt_of_le h1 h2
/-- after taking away: what the borrow says -/
theorem dv_t0 {w w' q v n : Nat} (h : w' + q * v = w + 0 * 65536 ^ (n + 1)) (hv : 0 < v) (hq : w / v ≤ q) : w' + q * v = w ∧ w' < v := by
  rw [Nat.zero_mul, Nat.add_zero] at h
  refine ⟨h, ?_⟩
  have h1 : w < (q + 1) * v := (Nat.div_lt_iff_lt_mul hv).mp (by omega)
  rw [Nat.add_mul, Nat.one_mul] at h1
  omega
theorem dv_t1 {w w' q v B : Nat} (h : w' + q * v = w + 1 * B) (hw' : w' < B) : 1 ≤ q := by
  rcases Nat.eq_zero_or_pos q with c | c
  · rw [c] at h; omega
  · exact c
theorem dv_g1 {w w' w6 o v B : Nat} (h : w6 + (o + 1) * v = w + B) (hg : w' + 1 * B = w6 + v) (h6 : w6 < B) : w' + o * v = w ∧ w' < v := by
  rw [Nat.add_mul] at h
  omega
theorem dv_g0 {w w' w6 o v B : Nat} (h : w6 + (o + 1) * v = w + B) (hg : w' + 0 * B = w6 + v) : w' + o * v = w + B := by
  rw [Nat.add_mul] at h
  omega
/-- the guess: from the two digits above -/
theorem dv_guess {P8 P2 : Nat → Int32} {k n v lead hi0 of0 : Nat} (hn : 1 ≤ n) (hv : v = bvP P2 38 n) (hl : lead = dl P2 (300 * 38 + (n - 1))) (hl0 : 0 < lead) (hh : hi0 = dl P8 (10800 + k + n) * 65536 + dl P8 (10800 + k + (n - 1))) (hD : ∀ i, i ≤ n → dl P8 (10800 + k + i) < 65536) (ho : of0 = min (hi0 / lead) 65535) (hw : ww P8 k (n + 1) < v * 65536) : ww P8 k (n + 1) / v ≤ of0 := by
  obtain ⟨j, rfl⟩ : ∃ j, n = j + 1 := ⟨n - 1, by omega⟩
  have h1 : ww P8 k (j + 1 + 1) / v ≤ hi0 / lead := by
    refine dv_est (n := j) (vl := bvP P2 38 j) (by rw [hv, hl, bvP_s]; simp [Nat.add_comm]) ?_ hl0
    have hlt : ww P8 k j < 65536 ^ j := bv_lt (fun i hi => hD i (by omega))
    have e : ww P8 k (j + 1 + 1) = ww P8 k j + (dl P8 (10800 + k + (j + 1)) * 65536 + dl P8 (10800 + k + j)) * 65536 ^ j := by
      rw [ww_s, ww_s, Nat.pow_succ, Nat.add_mul, Nat.mul_comm (65536 ^ j) 65536, ← Nat.mul_assoc]; omega
    rw [e, hh, Nat.add_sub_cancel, Nat.add_mul_div_right _ _ (Nat.pow_pos (by decide)), Nat.div_eq_of_lt hlt, Nat.zero_add]
  have h2 : ww P8 k (j + 1 + 1) / v < 65536 := Nat.div_lt_of_lt_mul hw
  omega
/-- the window, below what stands for the rest -/
theorem dv_win {P8 : Nat → Int32} {k n v : Nat} (h : bvP P8 36 (k + 1 + n) < v * 65536 ^ (k + 1)) : ww P8 k (n + 1) < v * 65536 := by
  rw [show k + 1 + n = k + (n + 1) by omega, ww_sp, Nat.pow_succ, ← Nat.mul_assoc, Nat.mul_right_comm] at h
  apply Nat.lt_of_not_le
  intro c
  have : 65536 ^ k * (v * 65536) ≤ 65536 ^ k * ww P8 k (n + 1) := Nat.mul_le_mul_left _ c
  rw [Nat.mul_comm] at this
  omega
theorem nar_01 {n : Nat} (h : n ≤ 1) : vp_nar .boolean (iI n) = iI n := by
  obtain rfl | rfl : n = 0 ∨ n = 1 := by omega
  · decide
  · decide
theorem Nm_zero {ty : Nat → ClassId} {F F1 : Nat → va_E} {P S G : Nat → Int32} {t : Nat} (h : MA ty F P S G) (h1 : MA ty F1 P (upd S t (iI 0)) (upd G t (iI 0))) : Nm ty F1 t 0 ∧ kp ty F F1 (fun c => c = t) :=
  ⟨⟨_, _, _, h1, ⟨0, by rw [pk_us]; rfl, by omega, fun i hi => absurd hi (by omega), Or.inl rfl, rfl⟩, by rw [pk_us]; rfl⟩, kp_of h h1 (fun c _ hT => ⟨pk_un hT, pk_un hT, fun _ _ => rfl⟩)⟩
theorem Dg.row {P P' : Nat → Int32} {a n : Nat} (h : Dg P a n) (e : ∀ i, i < n → P' (300 * a + i) = P (300 * a + i)) : Dg P' a n := fun i hi => by rw [dl_congr (e i hi)]; exact h i hi
theorem tg_01 {n : Nat} (h : n ≤ 1) : tg (iI n) = iI n := by
  obtain rfl | rfl : n = 0 ∨ n = 1 := by omega
  · decide
  · decide
theorem cmpI_bb (a b : Nat) : -1 ≤ cmpI a b ∧ cmpI a b ≤ 1 := cmpI_b a b
theorem cmpI_ge {a b : Nat} (h : 0 ≤ cmpI a b) : b ≤ a := Nat.le_of_not_lt (fun h9 => by unfold cmpI at h; rw [if_pos h9] at h; omega)
theorem cmpI_lt {a b : Nat} (h : cmpI a b < 0) : a < b := by
  unfold cmpI at h
  split at h
  · assumption
  · split at h <;> omega
theorem dvq_hi {a b : Nat} (h : a < 9223372036854775808) : ((a / b : Nat) : Int) < 9223372036854775808 := by
  have := Nat.div_le_self a b
  omega
