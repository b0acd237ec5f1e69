/-! the reference: its text -/
def dgI (tx : Nat → Nat) (n i : Nat) : Nat := if i < n ∧ isd (tx i) then 1 else 0
theorem dgI_1 {tx : Nat → Nat} {n i : Nat} (h : i < n ∧ isd (tx i)) : iI 1 = iI (dgI tx n i : Int) := by rw [dgI, if_pos h]; rfl
theorem dgI_0 {tx : Nat → Nat} {n i : Nat} (h : ¬ (i < n ∧ isd (tx i))) : iI 0 = iI (dgI tx n i : Int) := by rw [dgI, if_neg h]; rfl
theorem dgI_y {tx : Nat → Nat} {n i : Nat} (h : (dgI tx n i : Int) ≠ 0) : i < n ∧ isd (tx i) := Classical.byContradiction (fun h9 => by rw [dgI, if_neg h9] at h; exact absurd rfl h)
theorem dgI_n {tx : Nat → Nat} {n i : Nat} (h : (dgI tx n i : Int) = 0) : ¬ (i < n ∧ isd (tx i)) := fun h9 => by rw [dgI, if_pos h9] at h; exact absurd h (by decide)
theorem dgI_b (tx : Nat → Nat) (n i : Nat) : dgI tx n i ≤ 1 := by unfold dgI; split <;> decide
theorem dend_y {tx : Nat → Nat} {n i : Nat} (h : i < n ∧ isd (tx i)) : dend tx (n - (i + 1)) (i + 1) = dend tx (n - i) i := by
  rw [show n - i = (n - (i + 1)) + 1 by omega]
  show _ = if isd (tx i) then _ else _
  rw [if_pos h.2]
theorem dend_n {tx : Nat → Nat} {n i : Nat} (h : ¬ (i < n ∧ isd (tx i))) (hi : i ≤ n) : dend tx (n - i) i = i := by
  by_cases c : i < n
  · rw [show n - i = (n - (i + 1)) + 1 by omega]
    show (if isd (tx i) then _ else _) = i
    rw [if_neg (fun h9 => h ⟨c, h9⟩)]
  · rw [show n - i = 0 by omega]; rfl
theorem az_s (tx : Nat → Nat) : ∀ k i : Nat, az tx (k + 1) i = (az tx k i && decide (tx (i + k) = 48))
  | 0, i => by simp [az]
  | k + 1, i => by
    show (decide (tx i = 48) && az tx (k + 1) (i + 1)) = ((decide (tx i = 48) && az tx k (i + 1)) && _)
    rw [az_s tx k (i + 1), Bool.and_assoc, show i + 1 + k = i + (k + 1) by omega]
def azN (tx : Nat → Nat) (k i : Nat) : Nat := if az tx k i = true then 0 else 1
theorem azN_b (tx : Nat → Nat) (k i : Nat) : azN tx k i ≤ 1 := by unfold azN; split <;> decide
theorem azN_0 (tx : Nat → Nat) (i : Nat) : azN tx 0 i = 0 := rfl
theorem azN_1 {tx : Nat → Nat} {k i : Nat} (h : azN tx k i ≠ 0 ∨ tx (i + k) ≠ 48) : 1 = azN tx (k + 1) i := by
  unfold azN at *
  rw [az_s]
  by_cases c : az tx k i = true
  · rw [if_pos c] at h
    have h2 := h.resolve_left (by simp)
    simp [c, h2]
  · simp [c]
theorem azN_z {tx : Nat → Nat} {k i : Nat} (h : azN tx k i = 0) (h2 : tx (i + k) = 48) : 0 = azN tx (k + 1) i := by
  unfold azN at *
  rw [az_s]
  by_cases c : az tx k i = true
  · simp [c, h2]
  · rw [if_neg c] at h; exact absurd h (by decide)
def xx (P : Nat → Int32) (k n : Nat) : Nat := bv 65536 (fun i => dl P (12300 + k + i)) n
theorem xx_c (P : Nat → Int32) (k n : Nat) : xx P k (n + 1) = dl P (12300 + k) + 65536 * xx P (k + 1) n := by
  unfold xx
  rw [bv_cons]
  congr 2
  exact bv_congr (fun i _ => by rw [show 12300 + k + (i + 1) = 12300 + (k + 1) + i by omega])
theorem xx_0 (P : Nat → Int32) (n : Nat) : xx P 0 n = bvP P 41 n := rfl
theorem xs_loop {P8 P9 : Nat → Int32} {k n cy x0 : Nat} (hkn : k + 1 ≤ n) (hU : xx P8 (k + 1) (n - (k + 1)) = xx P9 (k + 1) (n - (k + 1)) * 10 + cy) (hx : x0 = cy * 65536 + dl P8 (12300 + k)) (hq : x0 / 10 < 65536) :
    xx P8 k (n - k) = xx (upd P9 (12300 + k) (iI ((x0 / 10 : Nat) : Int))) k (n - k) * 10 + x0 % 10 := by
  rw [show n - k = (n - (k + 1)) + 1 by omega, xx_c, xx_c, dl_us (by omega)]
  have e : xx (upd P9 (12300 + k) (iI ((x0 / 10 : Nat) : Int))) (k + 1) (n - (k + 1)) = xx P9 (k + 1) (n - (k + 1)) := bv_congr (fun i _ => dl_un (by omega))
  rw [e]
  exact us_step (p := 0) hU hx
theorem dec_620 {v m : Nat} (h : sm v) (hm : v / 10 ^ m ≠ 0) : m < 620 := by
  apply Nat.lt_of_not_le
  intro c
  have e1 : 10 ^ 620 ≤ 10 ^ m := Nat.pow_le_pow_right (by decide) c
  have e2 : (2 : Nat) ^ 2048 ≤ 10 ^ 620 := Nat.le_of_ble_eq_true (by decide +kernel)
  exact hm (Nat.div_eq_of_lt (Nat.lt_of_lt_of_le h (Nat.le_trans e2 e1)))
theorem len_0 : dlen 0 = 1 := (dlen_of (v := 0) (L := 1) ⟨by decide, by decide, Or.inl rfl⟩).symm
theorem len_m {v m : Nat} (h0 : v / 10 ^ m = 0) (h1 : v / 10 ^ (m - 1) ≠ 0) (hm : 0 < m) : dlen v = m := by
  refine (dlen_of ⟨hm, ?_, Or.inr ?_⟩).symm
  · exact (Nat.div_eq_zero_iff_lt (Nat.pow_pos (by decide))).mp h0
  · exact Nat.le_of_not_lt (fun h9 => h1 (Nat.div_eq_of_lt h9))
/-- the digits of v, from n on -/
def dgT (tt : Nat → Int32) (n v : Nat) : Prop := ∀ j, j < dlen v → tt (n + j) = iI ((48 + v / 10 ^ (dlen v - 1 - j) % 10 : Nat) : Int)
theorem dgT_up {tt : Nat → Int32} {n0 v ln kk : Nat} (hl : ln + (kk + 1) = n0 + dlen v) (hn : n0 ≤ ln) (h : ∀ j, j < ln - n0 → tt (n0 + j) = iI ((48 + v / 10 ^ (dlen v - 1 - j) % 10 : Nat) : Int)) : ∀ j, j < ln + 1 - n0 → upd tt ln (iI ((48 + v / 10 ^ kk % 10 : Nat) : Int)) (n0 + j) = iI ((48 + v / 10 ^ (dlen v - 1 - j) % 10 : Nat) : Int) := by
  intro j hj
  by_cases c : j = ln - n0
  · rw [show n0 + j = ln by omega, pk_us, show dlen v - 1 - j = kk by omega]
  · rw [pk_un (by omega)]; exact h j (by omega)
theorem tell_top {P : Nat → Int32} {to n v w : Nat} (hD : Dg P to n) (hv : bvP P to n = w) (h : 0 < n → 65536 ^ (n - 1) ≤ v) (hw : v ≤ w) : n = 0 ∨ dl P (300 * to + (n - 1)) ≠ 0 := top_ne (d := fun i => dl P (300 * to + i)) hD (fun h9 => Nat.le_trans (h h9) hw) hv
theorem mg_ge {P : Nat → Int32} {a n v : Nat} (ht : n = 0 ∨ dl P (300 * a + (n - 1)) ≠ 0) (hv : bvP P a n = v) (hn : 0 < n) : 65536 ^ (n - 1) ≤ v := by
  obtain ⟨j, rfl⟩ : ∃ j, n = j + 1 := ⟨n - 1, by omega⟩
  rw [← hv]
  exact bv_top (d := fun i => dl P (300 * a + i)) (ht.resolve_left (by omega))
theorem dval_s9 {tx : Nat → Nat} {i0 k : Nat} (h : i0 ≤ k) : dval tx i0 (k + 1 - i0) = 10 * dval tx i0 (k - i0) + (tx k - 48) := by
  rw [show k + 1 - i0 = (k - i0) + 1 by omega, dval_s, show i0 + (k - i0) = k by omega, Nat.mul_comm]
theorem byt_L {C k : Nat} (hC : C < 18446744073709551616) (hk : k < 8) : (iL C >>> ((iI ((8 * k : Nat) : Int)).toInt64 &&& 63)) &&& iL 255 = iL (byt C k : Int) := by
  obtain ⟨z, hz1, hz2, hz3, e⟩ : ∃ z : Int, -9223372036854775808 ≤ z ∧ z < 9223372036854775808 ∧ (z = C ∨ z = (C : Int) - 18446744073709551616) ∧ iL C = iL z := by
    by_cases c : C < 9223372036854775808
    · exact ⟨C, by omega, by omega, Or.inl rfl, rfl⟩
    · refine ⟨(C : Int) - 18446744073709551616, by omega, by omega, Or.inr rfl, ?_⟩
      apply Int64.toBitVec_inj.mp
      rw [iL_bv, iL_bv]
      apply BitVec.eq_of_toNat_eq
      simp only [BitVec.toNat_ofInt]
      omega
  rw [e, iL_shr (by omega) hz1 hz2, show (255 : Int) = 2 ^ 8 - 1 from rfl, iL_mask (by decide)]
  congr 1
  unfold byt
  have hk8 : k = 0 ∨ k = 1 ∨ k = 2 ∨ k = 3 ∨ k = 4 ∨ k = 5 ∨ k = 6 ∨ k = 7 := by omega
  rcases hk8 with rfl | rfl | rfl | rfl | rfl | rfl | rfl | rfl <;> simp <;> omega
theorem ex_len (v : Nat) : ∃ L, isLen v L := by
  induction v using Nat.strongRecOn with
  | ind v ih =>
    by_cases c : v < 10
    · exact ⟨1, by decide, by simpa using c, Or.inl rfl⟩
    · obtain ⟨L, h1, h2, h3⟩ := ih (v / 10) (by omega)
      refine ⟨L + 1, by omega, ?_, Or.inr ?_⟩
      · rw [Nat.pow_succ]; omega
      · rw [Nat.add_sub_cancel]
        obtain ⟨j, rfl⟩ : ∃ j, L = j + 1 := ⟨L - 1, by omega⟩
        rw [Nat.add_sub_cancel] at h3
        rcases h3 with h3 | h3
        · rw [show j = 0 by omega]; omega
        · rw [Nat.pow_succ]; omega
theorem isLen_dlen (v : Nat) : isLen v (dlen v) := by
  obtain ⟨L, h⟩ := ex_len v
  rw [← dlen_of h]; exact h
theorem wr_1 {tt : Nat → Int32} {z : Int} {s0 : Nat} (hs : sB z = s0) (h1 : ∀ i, i < s0 → tt i = iI ((45 : Nat) : Int)) (h2 : dgT tt s0 z.natAbs) : ∀ i, i < (wr1 z).1 → tt i = iI (((wr1 z).2 i : Nat) : Int) := by
  intro i hi
  unfold wr1 at *
  dsimp only at *
  rw [hs] at *
  unfold decS
  by_cases c : i < s0
  · rw [if_pos c]; exact h1 i c
  · rw [if_neg c]
    have h3 := h2 (i - s0) (by omega)
    rw [show s0 + (i - s0) = i by omega] at h3
    exact h3
theorem wr_2 {tt tt2 : Nat → Int32} {z : Int} {b n1 : Nat} (hw : ∀ i, i < (wr1 z).1 → tt i = iI (((wr1 z).2 i : Nat) : Int)) (hn : (wr1 z).1 = n1) (hpr : ∀ i, i < n1 + 1 → tt2 i = upd tt n1 (iI ((47 : Nat) : Int)) i) (hd : dgT tt2 (n1 + 1) (((b : Nat) : Int)).natAbs) : ∀ i, i < (wr1 z).1 + 1 + dlen b → tt2 i = iI ((decS (txp (wr1 z).2 (wr1 z).1 47) ((wr1 z).1 + 1) b i : Nat) : Int) := by
  intro i hi
  rw [hn] at hw hi ⊢
  rw [Int.natAbs_natCast] at hd
  unfold decS
  by_cases c : i < n1 + 1
  · rw [if_pos c, hpr i c]
    by_cases d : i = n1
    · rw [d, pk_us, txp_s]
    · rw [pk_un d, txp_n d]; exact hw i (by omega)
  · rw [if_neg c]
    have h3 := hd (i - (n1 + 1)) (by omega)
    rw [show n1 + 1 + (i - (n1 + 1)) = i by omega] at h3
    exact h3
theorem wr_bad1 {tx : Nat → Nat} {n fd e1 e2 la : Nat} (hfd : fd = fdig tx n) (he1 : e1 = dend tx (n - fd) fd) (_ : e2 = dend tx (n - (e1 + 1)) (e1 + 1)) (h : e1 = fd) (hla : la = e1) : wrongT tx n = (la : Int) := by
  unfold wrongT
  dsimp only
  rw [← hfd, ← he1, if_neg (by omega), if_pos (Or.inl h), hla]
theorem wr_bad2 {tx : Nat → Nat} {n fd e1 e2 la ov : Nat} (hfd : fd = fdig tx n) (he1 : e1 = dend tx (n - fd) fd) (he2 : e2 = dend tx (n - (e1 + 1)) (e1 + 1)) (hov : (ov = 1 ∧ fd < e1 ∧ e1 < n ∧ tx e1 = 47) ∨ (ov = 0 ∧ ¬ (fd < e1 ∧ e1 < n ∧ tx e1 = 47))) (hla : (ov = 1 ∧ la = e2) ∨ (ov = 0 ∧ la = e1)) (h : fd < e1 ∧ la ≠ n) : wrongT tx n = (la : Int) := by
  unfold wrongT
  dsimp only
  rw [← hfd, ← he1, ← he2]
  rcases hov with ⟨h1, h2⟩ | ⟨h1, h2⟩
  · rw [if_neg (by omega), if_neg (by omega), if_neg (by omega), show la = e2 by omega]
  · rw [if_neg (by omega), if_pos (by omega), show la = e1 by omega]
theorem wr_good1 {tx : Nat → Nat} {n fd e1 : Nat} (hfd : fd = fdig tx n) (he1 : e1 = dend tx (n - fd) fd) (h : fd < e1) (h2 : e1 = n) : wrongT tx n = -1 := by
  unfold wrongT
  dsimp only
  rw [← hfd, ← he1, if_pos ⟨h, h2⟩]
theorem azN_t {tx : Nat → Nat} {k i : Nat} (h : (azN tx k i : Int) = 0) : ¬ az tx k i = false := by
  unfold azN at h
  intro h2
  rw [h2] at h
  exact absurd h (by decide)
theorem azN_f {tx : Nat → Nat} {k i : Nat} (h : (azN tx k i : Int) ≠ 0) : az tx k i = false := by
  unfold azN at h
  by_cases c : az tx k i = true
  · rw [if_pos c] at h; exact absurd rfl h
  · simpa using c
theorem wr_bad3 {tx : Nat → Nat} {n fd e1 e2 la : Nat} (hfd : fd = fdig tx n) (he1 : e1 = dend tx (n - fd) fd) (he2 : e2 = dend tx (n - (e1 + 1)) (e1 + 1)) (h : fd < e1) (h2 : e1 < n) (h3 : tx e1 = 47) (hla : la = e2) (hz : (azN tx (la - (e1 + 1)) (e1 + 1) : Int) = 0) : wrongT tx n = (la : Int) := by
  unfold wrongT
  dsimp only
  rw [← hfd, ← he1, ← he2, if_neg (by omega), if_neg (by omega), if_neg (fun h9 => azN_t hz (by rw [hla]; exact h9.2)), hla]
theorem wr_good2 {tx : Nat → Nat} {n fd e1 e2 la : Nat} (hfd : fd = fdig tx n) (he1 : e1 = dend tx (n - fd) fd) (he2 : e2 = dend tx (n - (e1 + 1)) (e1 + 1)) (h : fd < e1) (h2 : e1 < n) (h3 : tx e1 = 47) (hla : la = e2 ∧ la = n) (hz : (azN tx (la - (e1 + 1)) (e1 + 1) : Int) ≠ 0) : wrongT tx n = -1 := by
  unfold wrongT
  dsimp only
  rw [← hfd, ← he1, ← he2, if_neg (by omega), if_neg (by omega), if_pos ⟨by omega, by rw [← hla.1]; exact azN_f hz⟩]
/-- what is not all '0' tells something -/
theorem dval_pos {tx : Nat → Nat} {i : Nat} : ∀ {k : Nat}, (∀ j, j < k → isd (tx (i + j))) → az tx k i = false → 0 < dval tx i k
  | 0, _, h => by simp [az] at h
  | k + 1, hd, h => by
    rw [dval_s]
    rw [az_s] at h
    by_cases c : az tx k i = false
    · have := dval_pos (fun j hj => hd j (by omega)) c; omega
    · rw [show az tx k i = true by simpa using c] at h
      have h1 : tx (i + k) ≠ 48 := by simpa using h
      have h2 := (hd k (by omega)).1
      omega
theorem wr_pos {tx : Nat → Nat} {n fd e1 : Nat} {wt : Int} (hwt : wt = wrongT tx n) (hg : wt = -1) (hfd : fd = fdig tx n) (he1 : e1 = dend tx (n - fd) fd) (h : e1 < n) : 0 < denT tx n := by
  rw [hg] at hwt
  unfold wrongT at hwt
  dsimp only at hwt
  unfold denT
  rw [← hfd, ← he1] at hwt ⊢
  rw [if_pos h]
  rw [if_neg (by omega)] at hwt
  by_cases c2 : e1 = fd ∨ ¬ (e1 < n ∧ tx e1 = 47)
  · rw [if_pos c2] at hwt; omega
  · rw [if_neg c2] at hwt
    by_cases c3 : dend tx (n - (e1 + 1)) (e1 + 1) = n ∧ az tx (dend tx (n - (e1 + 1)) (e1 + 1) - (e1 + 1)) (e1 + 1) = false
    · have h3 := c3.2
      rw [c3.1] at h3
      exact dval_pos (fun j hj => dend_d tx (n - (e1 + 1)) (e1 + 1) _ (by omega) (by rw [c3.1]; omega)) h3
    · rw [if_neg c3] at hwt; omega
theorem sg_nn {b t : Nat} (h : b ≠ 1 ∨ t = 0) : 0 ≤ sg b t := by unfold sg; split <;> omega
theorem sg_ng {b t : Nat} (h : b = 1) (h2 : 0 < t) : sg b t < 0 := by unfold sg; rw [if_pos h]; omega
theorem nar_v {n : Nat} (h : n ≤ 1) : narrow .boolean (.int (iI (n : Int))) = .int (iI (n : Int)) := by
  obtain rfl | rfl : n = 0 ∨ n = 1 := by omega
  · decide
  · decide
