/-! the reference: its registers -/
theorem Nm_sign {ty : Nat → ClassId} {F F1 : Nat → va_E} {P S G : Nat → Int32} {t : Nat} {x : Int32} {z z' : Int} (h : MA ty F P S G) (h1 : MA ty F1 P S (upd G t x)) (hN : Nm ty F t z) (hz : z'.natAbs = z.natAbs) (hx : x = iI (sB z')) : Nm ty F1 t z' ∧ kp ty F F1 (fun c => c = t) := by
  obtain ⟨hM, -⟩ := hN.nu h
  exact ⟨⟨_, _, _, h1, by rw [hz]; exact hM, by rw [pk_us]; exact hx⟩, kp_of h h1 (fun c _ hT => ⟨rfl, pk_un hT, fun _ _ => rfl⟩)⟩
def Rn (ty : Nat → ClassId) (F : Nat → va_E) (g : Sg) : Prop := ∀ i, i < 16 → Nm ty F i (zS g i) ∧ Nm ty F (16 + i) ((bS g i : Nat) : Int)
theorem Rn.kq {ty : Nat → ClassId} {F F1 : Nat → va_E} {g : Sg} {T : Nat → Prop} (h : Rn ty F g) (hk : kp ty F F1 T) (hT : ∀ c, c < 32 → ¬ T c) : Rn ty F1 g :=
  fun i hi => ⟨hk _ _ (by omega) (hT _ (by omega)) (h i hi).1, hk _ _ (by omega) (hT _ (by omega)) (h i hi).2⟩
theorem Rn.m3 {ty : Nat → ClassId} {F F1 : Nat → va_E} {g : Sg} (h : Rn ty F g) (h1 : F1 99 = F 99) (h2 : F1 100 = F 100) (h3 : F1 101 = F 101) : Rn ty F1 g :=
  fun i hi => ⟨(h i hi).1.m3 h1 h2 h3, (h i hi).2.m3 h1 h2 h3⟩
theorem Rn.put {ty : Nat → ClassId} {F F1 F2 : Nat → va_E} {g : Sg} {to : Nat} {p : Int} {q : Nat} (h : Rn ty F g) (hto : to < 16) (h1 : Nm ty F1 to p) (k1 : kp ty F F1 (fun c => c = to)) (h2 : Nm ty F2 (16 + to) (q : Int)) (k2 : kp ty F1 F2 (fun c => c = 16 + to)) : Rn ty F2 (putS g to p q) := by
  intro i hi
  by_cases c : i = to
  · subst c
    show Nm ty F2 i (va_up (zS g) i p i) ∧ Nm ty F2 (16 + i) ((va_up (bS g) i q i : Nat) : Int)
    rw [va_up_self, va_up_self]
    exact ⟨k2 _ _ (by omega) (by show ¬ i = 16 + i; omega) h1, h2⟩
  · show Nm ty F2 i (va_up (zS g) to p i) ∧ Nm ty F2 (16 + i) ((va_up (bS g) to q i : Nat) : Int)
    rw [va_up_ne _ _ c, va_up_ne _ _ c]
    exact ⟨k2 _ _ (by omega) (by show ¬ i = 16 + to; omega) (k1 _ _ (by omega) (by show ¬ i = to; omega) (h i hi).1), k2 _ _ (by omega) (by show ¬ 16 + i = 16 + to; omega) (k1 _ _ (by omega) (by show ¬ 16 + i = to; omega) (h i hi).2)⟩
noncomputable def rg (i : Int) : Nat := cif (isR i) 1 0
theorem rg_c (i : Int) : (isR i ∧ rg i = 1) ∨ (¬ isR i ∧ rg i = 0) := by
  unfold rg
  by_cases c : isR i
  · exact Or.inl ⟨c, cif_pos c⟩
  · exact Or.inr ⟨c, cif_neg c⟩
theorem rg_1 {i : Int} (h : isR i) : iI 1 = iI (rg i) := by rcases rg_c i with ⟨_, e⟩ | ⟨c, _⟩; rw [e]; rfl; exact absurd h c
theorem rg_0 {i : Int} (h : ¬ isR i) : iI 0 = iI (rg i) := by rcases rg_c i with ⟨c, _⟩ | ⟨_, e⟩; exact absurd c h; rw [e]; rfl
theorem pow16 : (65536 : Nat) ^ 128 = 2 ^ 2048 := by rw [show (65536 : Nat) = 2 ^ 16 from rfl, ← Nat.pow_mul]
/-- 128 parts at most: no larger than is kept -/
theorem sm_n {P : Nat → Int32} {a n v : Nat} (hD : Dg P a n) (ht : n = 0 ∨ dl P (300 * a + (n - 1)) ≠ 0) (hv : bvP P a n = v) : n ≤ 128 ↔ sm v := by
  unfold sm
  rw [← pow16, ← hv]
  constructor
  · intro h
    exact Nat.lt_of_lt_of_le (bvP_lt hD) (Nat.pow_le_pow_right (by decide) h)
  · exact n_le ht
theorem gcd_tmod (x y : Int) : Nat.gcd y.natAbs (x.tmod y).natAbs = Nat.gcd x.natAbs y.natAbs := by
  rw [Int.natAbs_tmod, Nat.gcd_comm x.natAbs, Nat.gcd_rec y.natAbs x.natAbs, Nat.gcd_comm]
theorem fl_of {a b : Int} (hb : 0 < b) : a / b = if a.tmod b < 0 then a.tdiv b - 1 else a.tdiv b := by
  have h1 := Int.mul_tdiv_add_tmod a b
  by_cases c : a.tmod b < 0
  · rw [if_pos c]
    have h2 : -b < a.tmod b := by
      have h3 := Nat.mod_lt a.natAbs (show 0 < b.natAbs by omega)
      rw [← Int.natAbs_tmod] at h3
      omega
    refine ((Int.ediv_emod_unique (r := a.tmod b + b) hb).mpr ⟨?_, by omega, by omega⟩).1
    rw [Int.mul_sub, Int.mul_one]; omega
  · rw [if_neg c]
    have h2 : a.tmod b < b := by
      have h3 := Nat.mod_lt a.natAbs (show 0 < b.natAbs by omega)
      rw [← Int.natAbs_tmod] at h3
      omega
    exact ((Int.ediv_emod_unique (r := a.tmod b) hb).mpr ⟨by omega, by omega, h2⟩).1
theorem tdiv_md {a b : Int} (h : md a.natAbs) : md (a.tdiv b).natAbs := by rw [Int.natAbs_tdiv]; exact h.div
theorem md_1 : md (Int.natAbs 1) := sm_1.toMd
theorem rg_z {i : Int} (h : (rg i : Int) = 0) : ¬ isR i := by
  rcases rg_c i with ⟨_, e⟩ | ⟨c, _⟩
  · rw [e] at h; exact absurd h (by decide)
  · exact c
theorem rg_nz {i : Int} (h : (rg i : Int) ≠ 0) : isR i := by
  rcases rg_c i with ⟨c, _⟩ | ⟨_, e⟩
  · exact c
  · rw [e] at h; exact absurd rfl h
theorem rg_le (i : Int) : rg i ≤ 1 := by rcases rg_c i with ⟨_, e⟩ | ⟨_, e⟩ <;> rw [e] <;> decide
theorem flz_n {y n : Int} (h : 0 ≤ y) : flZ y n = n := if_neg (by omega)
theorem flz_p {y n : Int} (h : y < 0) : flZ y n = -n := if_pos h
theorem s_lay_big {g : Sg} {to d q : Nat} {p : Int} (hd : d = Nat.gcd p.natAbs q) (h : ¬ (sm (p.tdiv d).natAbs ∧ sm (q / d))) : s_lay g to p q = (-1, g) := by
  unfold s_lay s_keep; rw [← hd, cif_neg h]
theorem s_lay_put {g : Sg} {to d q : Nat} {p : Int} (hd : d = Nat.gcd p.natAbs q) (h1 : sm (p.tdiv d).natAbs) (h2 : sm (q / d)) : s_lay g to p q = (0, putS g to (p.tdiv d) (q / d)) := by
  unfold s_lay s_keep; rw [← hd, cif_pos ⟨h1, h2⟩]
theorem okS.mm {g : Sg} (h : okS g) {a b : Nat} (ha : a < 16) (hb : b < 16) : pr ((zS g a).natAbs * (((bS g b : Nat) : Int)).natAbs) := (h.at ha).1.mul (h.at hb).2.1
theorem okS.bb {g : Sg} (h : okS g) {a b : Nat} (ha : a < 16) (hb : b < 16) : pr ((((bS g a : Nat) : Int)).natAbs * (((bS g b : Nat) : Int)).natAbs) := (h.at ha).2.1.mul (h.at hb).2.1
theorem okS.zz {g : Sg} (h : okS g) {a b : Nat} (ha : a < 16) (hb : b < 16) : pr ((zS g a).natAbs * (zS g b).natAbs) := (h.at ha).1.mul (h.at hb).1
theorem cmpZ_m {a b : Int} (h : a < b) : iI (-1) = iI (cmpZ a b) := by
  have := cmpZ_b a b
  have h2 : ¬ 0 ≤ cmpZ a b := fun h9 => by have := cmpZ_ge.mp h9; omega
  rw [show cmpZ a b = -1 by omega]
theorem cmpZ_p {a b : Int} (h : b < a) : iI 1 = iI (cmpZ a b) := by
  have := cmpZ_b a b
  have h2 : ¬ cmpZ a b ≤ 0 := fun h9 => by have := cmpZ_le.mp h9; omega
  rw [show cmpZ a b = 1 by omega]
theorem cmpZ_e {a b : Int} (h : a = b) : iI 0 = iI (cmpZ a b) := by
  have h1 := cmpZ_le.mpr (Int.le_of_eq h)
  have h2 := cmpZ_ge.mpr (Int.le_of_eq h.symm)
  rw [show cmpZ a b = 0 by omega]
/-- quotient times divisor -/
theorem fl_md {L : Int} {D : Nat} (hL : pr L.natAbs) (hD : pr D) (h0 : 0 < D) : md ((L / (D : Int)).natAbs * ((D : Nat) : Int).natAbs) := by
  have h1 := Int.mul_ediv_add_emod L D
  have h2 := Int.emod_nonneg L (show (D : Int) ≠ 0 by omega)
  have h3 := Int.emod_lt_of_pos L (show (0 : Int) < D by omega)
  have h4 : ((D : Int) * (L / (D : Int))).natAbs ≤ L.natAbs + D := by omega
  rw [Int.natAbs_mul, Nat.mul_comm] at h4
  exact (pr.add hL hD).le h4
theorem fl_md1 {L : Int} {D : Nat} (hL : md L.natAbs) : md (L / (D : Int)).natAbs := by
  refine hL.le ?_
  by_cases c : (D : Int) = 0
  · rw [c, Int.ediv_zero]; simp
  · exact Int.natAbs_ediv_le_natAbs L D
theorem zz_ne {g : Sg} (h : okS g) {a : Nat} (ha : a < 16) : ((bS g a : Nat) : Int) ≠ 0 := by have := (h.at ha).2.2.1; omega
theorem rest_p {y X Q : Int} {xb : Nat} (hy : 0 ≤ y) : jz 1 (flZ y X) (Q * ((y.natAbs * xb : Nat) : Int)) = X - Q * (y * (xb : Int)) := by
  rw [jz1, flz_n hy, Int.natCast_mul, show ((y.natAbs : Nat) : Int) = y by omega]
theorem rest_n {y X Q : Int} {xb : Nat} (hy : y < 0) : -(jz 1 (flZ y X) (Q * ((y.natAbs * xb : Nat) : Int))) = X - Q * (y * (xb : Int)) := by
  rw [jz1, flz_p hy, Int.natCast_mul, show ((y.natAbs : Nat) : Int) = -y by omega, Int.neg_mul, Int.mul_neg]
  omega
theorem rest_md {y X : Int} {xb : Nat} (hL : pr (flZ y X).natAbs) (hD : pr (y.natAbs * xb)) (h0 : 0 < y.natAbs * xb) : md (X - flZ y X / ((y.natAbs * xb : Nat) : Int) * (y * (xb : Int))).natAbs := by
  have h1 := Int.mul_ediv_add_emod (flZ y X) ((y.natAbs * xb : Nat) : Int)
  have h2 := Int.emod_nonneg (flZ y X) (show ((y.natAbs * xb : Nat) : Int) ≠ 0 by omega)
  have h3 := Int.emod_lt_of_pos (flZ y X) (show (0 : Int) < ((y.natAbs * xb : Nat) : Int) by omega)
  have h4 : (jz 1 (flZ y X) (flZ y X / ((y.natAbs * xb : Nat) : Int) * ((y.natAbs * xb : Nat) : Int))).natAbs ≤ y.natAbs * xb := by
    rw [jz1, Int.mul_comm (flZ y X / _)]; omega
  refine hD.toMd.le ?_
  by_cases c : y < 0
  · rw [← rest_n c, Int.natAbs_neg]; exact h4
  · rw [← rest_p (by omega)]; exact h4
/-- the reference's whole state -/
def Mo (ty : Nat → ClassId) (ad : Nat → Nat) (F : Nat → va_E) (co : Int) (g : Sg) : Prop := F 98 = oM ad co (nS g : Int) (pS g) ∧ Rn ty F g ∧ ∃ tt dd : Nat → Int32, F 102 = aN ty 0 1400 tt ∧ (∀ i, i < nS g → tt i = iI (tS g i : Int)) ∧ F 103 = aN ty 0 700 dd
def frP (F F1 : Nat → va_E) : Prop := ∀ y, y < 98 ∨ 103 < y → F1 y = F y
theorem s_keep_t (g : Sg) (to : Nat) (p : Int) (q : Nat) : nS (s_keep g to p q).2 = nS g ∧ tS (s_keep g to p q).2 = tS g ∧ pS (s_keep g to p q).2 = pS g := by
  unfold s_keep
  by_cases c : sm p.natAbs ∧ sm q
  · rw [cif_pos c]; exact ⟨rfl, rfl, rfl⟩
  · rw [cif_neg c]; exact ⟨rfl, rfl, rfl⟩
theorem s_lay_t (g : Sg) (to : Nat) (p : Int) (q : Nat) : nS (s_lay g to p q).2 = nS g ∧ tS (s_lay g to p q).2 = tS g ∧ pS (s_lay g to p q).2 = pS g := s_keep_t ..
theorem Mo.mk' {ty : Nat → ClassId} {ad : Nat → Nat} {F : Nat → va_E} {co : Int} {g g' : Sg} {tt dd : Nat → Int32} (ht : nS g' = nS g ∧ tS g' = tS g ∧ pS g' = pS g) (h98 : F 98 = oM ad co (nS g : Int) (pS g)) (hR : Rn ty F g') (h102 : F 102 = aN ty 0 1400 tt) (htt : ∀ i, i < nS g → tt i = iI (tS g i : Int)) (h103 : F 103 = aN ty 0 700 dd) : Mo ty ad F co g' := by
  obtain ⟨e1, e2, e3⟩ := ht
  refine ⟨by rw [e1, e3]; exact h98, hR, tt, dd, h102, by rw [e1, e2]; exact htt, h103⟩
theorem md_long {v : Int} (h : -9223372036854775808 ≤ v ∧ v < 9223372036854775808) : md v.natAbs := (sm_long (by omega)).toMd
theorem sign_m {z : Int} (h : z < 0) : iI (-1) = iI z.sign := by rw [Int.sign_eq_neg_one_of_neg h]
theorem sign_p {z : Int} (h : 0 < z) : iI 1 = iI z.sign := by rw [Int.sign_eq_one_of_pos h]
theorem sign_0 {z : Int} (h : z = 0) : iI 0 = iI z.sign := by rw [h]; rfl
theorem i1_nz {z : Int} (h : i1 z ≠ 0) : z = 1 := by unfold i1 at h; split at h; assumption; exact absurd rfl h
theorem i1_z {z : Int} (h : i1 z = 0) : z ≠ 1 := by unfold i1 at h; split at h; exact absurd h (by decide); assumption
theorem i1_b (z : Int) : 0 ≤ i1 z ∧ i1 z ≤ 1 := by unfold i1; split <;> decide
theorem flz_mul {x y n : Int} (hx : 0 < x) : flZ (x * y) n = flZ y n := by
  unfold flZ
  by_cases c : y < 0
  · rw [if_pos c, if_pos (Int.mul_neg_of_pos_of_neg hx c)]
  · rw [if_neg c, if_neg (by have := Int.mul_nonneg (Int.le_of_lt hx) (show 0 ≤ y by omega); omega)]
theorem sm_mono {z n k : Nat} (hk : k ≤ n) (h : ¬ sm (z ^ k)) : ¬ sm (z ^ n) := by
  intro h2
  apply h
  rcases Nat.eq_zero_or_pos z with c | c
  · subst c
    rcases Nat.eq_zero_or_pos k with d | d
    · subst d; exact sm_1
    · rw [Nat.zero_pow d]; exact sm_0
  · exact h2.le (Nat.pow_le_pow_right c hk)
noncomputable def lk (a w : Int) : Int := cif (isR a ∧ (w = 0 ∨ w = 1)) 0 1
theorem lk_y {a w : Int} (h : isR a ∧ (w = 0 ∨ w = 1)) : lk a w = 0 := cif_pos h
theorem lk_n {a w : Int} (h : ¬ (isR a ∧ (w = 0 ∨ w = 1))) : lk a w = 1 := cif_neg h
theorem lk_z {a w : Int} (h : lk a w ≤ 0) : isR a ∧ (w = 0 ∨ w = 1) := Classical.byContradiction (fun h2 => by rw [lk_n h2] at h; exact absurd h (by decide))
theorem lk_nz {a w : Int} (h : 0 < lk a w) : ¬ (isR a ∧ (w = 0 ∨ w = 1)) := fun h2 => by rw [lk_y h2] at h; exact absurd h (by decide)
theorem lk_b (a w : Int) : 0 ≤ lk a w ∧ lk a w ≤ 1 := by
  by_cases c : isR a ∧ (w = 0 ∨ w = 1)
  · rw [lk_y c]; decide
  · rw [lk_n c]; decide
theorem bl_0 : bl 0 = 0 := rfl
theorem bl_half {h : Nat} (hp : 0 < h) : bl h = 1 + bl (h / 2) := by
  by_cases c : h = 1
  · subst c; decide
  · have h0 : h / 2 ≠ 0 := by omega
    unfold bl
    rw [if_neg (by omega), if_neg h0, Nat.log2_def, if_pos (by omega)]
    omega
theorem bl_top {P : Nat → Int32} {a n : Nat} (hD : Dg P a n) (ht : n = 0 ∨ dl P (300 * a + (n - 1)) ≠ 0) (hn : 0 < n) : bl (bvP P a n) = 16 * (n - 1) + bl (dl P (300 * a + (n - 1))) := by
  obtain ⟨j, rfl⟩ : ∃ j, n = j + 1 := ⟨n - 1, by omega⟩
  have h0 := ht.resolve_left (by omega)
  rw [Nat.add_sub_cancel] at h0 ⊢
  have hlo : bvP P a j < 65536 ^ j := bv_lt (fun i hi => hD i (by omega))
  have e16 : (65536 : Nat) ^ j = 2 ^ (16 * j) := by rw [show (65536 : Nat) = 2 ^ 16 from rfl, ← Nat.pow_mul]
  have h1 := Nat.log2_self_le h0
  have h2 := @Nat.lt_log2_self (dl P (300 * a + j))
  have hb : bl (dl P (300 * a + j)) = (dl P (300 * a + j)).log2 + 1 := by unfold bl; rw [if_neg h0]
  rw [hb, ← Nat.add_assoc]
  apply bl_eq
  · rw [bvP_s, e16, Nat.pow_add, Nat.mul_comm]
    have := Nat.mul_le_mul_right (2 ^ (16 * j)) h1
    omega
  · rw [bvP_s, e16, Nat.add_assoc, Nat.pow_add]
    rw [e16] at hlo
    have : (dl P (300 * a + j) + 1) * 2 ^ (16 * j) ≤ 2 ^ ((dl P (300 * a + j)).log2 + 1) * 2 ^ (16 * j) := Nat.mul_le_mul_right _ h2
    rw [Nat.add_mul, Nat.one_mul, Nat.mul_comm (2 ^ _) (2 ^ (16 * j))] at this
    omega
theorem pd_limb {P : Nat → Int32} {a n v : Nat} (hD : Dg P a n) (hv : bvP P a n = v) (i : Nat) : pd P a n i = v / 65536 ^ i % 65536 := by
  rw [← hv]
  exact (bv_limb (d := fun i => dl P (300 * a + i)) (by decide) hD).symm
theorem part_2 (v k : Nat) : v / 65536 ^ (2 * k) % 65536 + 65536 * (v / 65536 ^ (2 * k + 1) % 65536) = v / 2 ^ (32 * k) % 4294967296 := by
  have e : (65536 : Nat) ^ (2 * k) = 2 ^ (32 * k) := by rw [show (65536 : Nat) = 2 ^ 16 from rfl, ← Nat.pow_mul]; congr 1; omega
  rw [Nat.pow_succ, e, ← Nat.div_div_eq_div_mul]
  omega
theorem part_0 {v k : Nat} (h : sm v) (hk : 128 < k) : v / 2 ^ (32 * k) % 4294967296 = 0 := by
  rw [Nat.div_eq_of_lt (Nat.lt_of_lt_of_le h (Nat.pow_le_pow_right (by decide) (by omega)))]
