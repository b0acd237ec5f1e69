/-! what a Whole's limbs tell -/
theorem iL_m31 (a : Int) : iL a &&& iL 2147483647 = iL (a % 2147483648) := iL_mask (k := 31) (by decide) a
theorem iL_m32 (a : Int) : iL a &&& iL 4294967295 = iL (a % 4294967296) := iL_mask (k := 32) (by decide) a
theorem iI_m31 {a : Nat} (h : a < 4294967296) : iI a &&& iI 2147483647 = iI ((a % 2147483648 : Nat) : Int) := iI_mask (k := 31) (by decide) h
theorem Wok.zero {N n v : Nat} {g : Nat → Int32} (h : Wok N n g v) : v = 0 ↔ n = 0 := by
  rw [← h.2.2.2]; exact bv_eq0 (by decide) h.2.2.1
theorem Wok.one {N n v : Nat} {g : Nat → Int32} (h : Wok N n g v) : v = 1 ↔ n = 1 ∧ dl g 0 = 1 := by
  obtain ⟨-, h2, h3, h4⟩ := h
  rw [← h4]
  rcases n with _ | n
  · simp [bv_0]
  · rcases n with _ | n
    · show 0 + dl g 0 * 2147483648 ^ 0 = 1 ↔ _
      simp
    · have h5 : 2147483648 ^ (n + 1) ≤ bv 2147483648 (dl g) (n + 1 + 1) := bv_top (by rcases h3 with h | h; omega; exact h)
      have h6 : 2147483648 ^ 1 ≤ 2147483648 ^ (n + 1) := Nat.pow_le_pow_right (by decide) (by omega)
      constructor
      · intro q; omega
      · intro q; omega
/-- what trim leaves -/
theorem Wok.trim {N len k : Nat} {g : Nat → Int32} (hlen : len ≤ N) (hk : k ≤ len) (hd : ∀ i, i < len → dl g i < 2147483648) (hz : ∀ i, k ≤ i → i < len → g i = 0) (ht : k = 0 ∨ g (k - 1) ≠ 0) : Wok N k g (bv 2147483648 (dl g) len) := by
  refine ⟨by omega, fun i hi => hd i (by omega), ?_, (bv_trim hk (fun i h1 h2 => ?_)).symm⟩
  · rcases ht with h | h
    · exact Or.inl h
    · rcases Nat.eq_zero_or_pos k with c | c
      · exact Or.inl c
      · refine Or.inr (fun q => h ?_)
        rw [dl_get (hd (k - 1) (by omega)), q]; rfl
  · show (g i).toBitVec.toNat = 0
    rw [hz i h1 h2]; rfl
theorem Wok.fits {N n v R : Nat} {g : Nat → Int32} (h : Wok N n g v) (hv : v < 2147483648 ^ R) : n ≤ R := by
  obtain ⟨-, h2, h3, h4⟩ := h
  apply Nat.le_of_not_lt
  intro c
  obtain ⟨j, rfl⟩ : ∃ j, n = j + 1 := ⟨n - 1, by omega⟩
  have h5 : 2147483648 ^ j ≤ bv 2147483648 (dl g) (j + 1) := bv_top (by rcases h3 with h | h; omega; exact h)
  have h6 : 2147483648 ^ R ≤ 2147483648 ^ j := Nat.pow_le_pow_right (by decide) (by omega)
  omega
theorem Wok.lt {N n v : Nat} {g : Nat → Int32} (h : Wok N n g v) : v < 2147483648 ^ n := by
  rw [← h.2.2.2]; exact bv_lt h.2.1
theorem Wok.ltN {N n v : Nat} {g : Nat → Int32} (h : Wok N n g v) : v < 2147483648 ^ N := Nat.lt_of_lt_of_le h.lt (Nat.pow_le_pow_right (by decide) h.1)
theorem Wok.ge {N n v : Nat} {g : Nat → Int32} (h : Wok N n g v) (hn : 0 < n) : 2147483648 ^ (n - 1) ≤ v := by
  obtain ⟨-, h2, h3, h4⟩ := h
  obtain ⟨j, rfl⟩ : ∃ j, n = j + 1 := ⟨n - 1, by omega⟩
  rw [← h4]
  exact bv_top (by rcases h3 with h | h; omega; exact h)
theorem Wok.congr {N N' n v : Nat} {g g' : Nat → Int32} (h : Wok N n g v) (hN : n ≤ N') (e : ∀ i, i < n → g' i = g i) : Wok N' n g' v := by
  obtain ⟨-, h2, h3, h4⟩ := h
  have e2 : ∀ i, i < n → dl g' i = dl g i := fun i hi => by show (g' i).toBitVec.toNat = _; rw [e i hi]; rfl
  refine ⟨hN, fun i hi => by rw [e2 i hi]; exact h2 i hi, ?_, by rw [bv_congr e2]; exact h4⟩
  rcases Nat.eq_zero_or_pos n with c | c
  · exact Or.inl c
  · rw [e2 (n - 1) (by omega)]; exact h3
/-- binary places -/
def bl (v : Nat) : Nat := if v = 0 then 0 else v.log2 + 1
theorem bl_le {v k : Nat} : bl v ≤ k ↔ v < 2 ^ k := by
  unfold bl
  split
  · rename_i h; subst h
    simp [Nat.two_pow_pos]
  · rename_i h
    rw [← Nat.log2_lt h]; omega
theorem bl_eq {v m : Nat} (h1 : 2 ^ m ≤ v) (h2 : v < 2 ^ (m + 1)) : bl v = m + 1 := by
  have a := bl_le.mpr h2
  have b : ¬ bl v ≤ m := fun q => by have := bl_le.mp q; omega
  omega
theorem pow31 (n : Nat) : 2147483648 ^ n = 2 ^ (31 * n) := by
  rw [Nat.pow_mul]
/-- the places of a number out of those of its highest limb -/
theorem Wok.bl {N n v t : Nat} {g : Nat → Int32} (h : Wok N n g v) (hn : 0 < n) (h1 : 2 ^ t ≤ dl g (n - 1)) (h2 : dl g (n - 1) < 2 ^ (t + 1)) : bl v = 31 * (n - 1) + t + 1 := by
  obtain ⟨-, hd, h3, h4⟩ := h
  obtain ⟨j, rfl⟩ : ∃ j, n = j + 1 := ⟨n - 1, by omega⟩
  rw [Nat.add_sub_cancel] at h1 h2 ⊢
  have hl : bv 2147483648 (dl g) j < 2147483648 ^ j := bv_lt (fun i hi => hd i (by omega))
  rw [bv_s] at h4
  have hP : 2147483648 ^ j = 2 ^ (31 * j) := pow31 j
  have m1 : 2 ^ t * 2147483648 ^ j ≤ dl g j * 2147483648 ^ j := Nat.mul_le_mul_right _ h1
  have m2 : (dl g j + 1) * 2147483648 ^ j ≤ 2 ^ (t + 1) * 2147483648 ^ j := Nat.mul_le_mul_right _ h2
  rw [Nat.add_mul, Nat.one_mul] at m2
  apply bl_eq
  · rw [Nat.add_comm, Nat.pow_add, ← hP]; omega
  · rw [show 31 * j + t + 1 = (t + 1) + 31 * j by omega, Nat.pow_add, ← hP]; omega
/-- three ways to compare -/
def cmpI (a b : Nat) : Int := if a < b then -1 else if a = b then 0 else 1
theorem Wok.cmpS {N N' n k a b : Nat} {g h : Nat → Int32} (ha : Wok N n g a) (hb : Wok N' k h b) (c : n < k) : a < b := by
  rw [← ha.2.2.2, ← hb.2.2.2]
  exact bv_size (by decide) c ha.2.1 (by rcases hb.2.2.1 with q | q; omega; exact q)
theorem Wok.cmpL {N N' n a b i : Nat} {g h : Nat → Int32} (ha : Wok N n g a) (hb : Wok N' n h b) (hi : i < n) (he : ∀ j, i < j → j < n → g j = h j) (c : dl g i < dl h i) : a < b := by
  rw [← ha.2.2.2, ← hb.2.2.2]
  exact bv_cmp hi ha.2.1 (fun j h1 h2 => by show (g j).toBitVec.toNat = _; rw [he j h1 h2]; rfl) c
theorem Wok.cmpE {N N' n a b : Nat} {g h : Nat → Int32} (ha : Wok N n g a) (hb : Wok N' n h b) (he : ∀ j, j < n → g j = h j) : a = b := by
  rw [← ha.2.2.2, ← hb.2.2.2]
  exact bv_congr (fun j hj => by show (g j).toBitVec.toNat = _; rw [he j hj]; rfl)
/-- limb i, 0 below and beyond -/
def lmz (g : Nat → Int32) (n : Nat) (i : Int) : Nat := if 0 ≤ i ∧ i < n then dl g i.toNat else 0
theorem lmz_lt {g : Nat → Int32} {n : Nat} (h : ∀ i, i < n → dl g i < 2147483648) (i : Int) : lmz g n i < 2147483648 := by
  unfold lmz; split
  · exact h _ (by omega)
  · decide
/-! a copy of System -/
section CP
variable {p : Program} {l : Launch} {e : Env} {R : Room} {s : State} {m : MethodId} {args : Array Value} {below : List Frame} {meth : Method} {c : Code} {H : Heap} {locs : List Loc} {cells slots : Nat} {Q : State → Prop}
variable {D : va_G} {cl : List vw_C} {tys : List (ClassId × FieldType)} {ad : Nat → Nat} {M : Nat} {F : Nat → va_E} {A : Nat → Prop} {pc : Nat} {ls : Array Slot} {rest : List Value} {cc : ByteArray}
theorem pw_copyi (hexec : p.tables.exec = Jvm.exec) (hb : c.code = cc) (hml : c.maxLocals = ls.size) {own : String} {index : Nat} (hown : s.vm.findClass own = some m.cls) (hlink : (Cond.methodLink own index arraycopyName).before args s = true) (hnat : (Cond.native arraycopyName).before args s = true) (hstat : (Cond.static arraycopyName).before args s = true) (hini : (Cond.initialized "java/lang/System").before args s = true)
    (hw : pw D cl tys ad M F A s H locs) (t0 : Nat) {i0 i1 : Nat} {cA : ClassId} {n0 n1 : Nat} {f g : Nat → Int32} (hi0 : i0 < M) (ha0 : F i0 = .inl (cA, n0, .inl f)) (hi1 : i1 < M) (ha1 : F i1 = .inl (cA, n1, .inl g)) (ht : tys[t0]? = some (cA, .int))
    {sp' dp' n' : Nat} {sp dp n : Int} (e1 : sp = sp') (e2 : dp = dp') (e3 : n = n') (h1 : sp' + n' ≤ n0) (h2 : dp' + n' ≤ n1) (b1 : n0 < 2147483648) (b2 : n1 < 2147483648)
    (hframes : 1 ≤ R.frames) (hlocals : (rest.map fun v => v.category).sum + (nativeFrameWords "java/lang/System" "arraycopy" 5 + 11) ≤ R.locals) (hdg : decode cc pc = .ok (.invokestatic index, 3))
    (kk : ∀ (F1 : Nat → va_E) (H1 : Heap) (locs1 : List Loc), F1 = va_up F i1 (.inl (cA, n1, .inl (va_cpy f g sp' dp' n'))) → pw D cl tys ad M F1 A s H1 locs1 → W p l e R s m args below meth c H1 locs1 cells slots Q (F0 m (pc + 3) ls rest)) : W p l e R s m args below meth c H locs cells slots Q (F0 m pc ls (.int (iI n) :: .int (iI dp) :: .ref (ad i1) :: .int (iI sp) :: .ref (ad i0) :: rest)) := by
  subst e1 e2 e3
  have c1 : (iI (sp' : Int)).toNatClampNeg = sp' := iI_cn (by omega)
  have c2 : (iI (dp' : Int)).toNatClampNeg = dp' := iI_cn (by omega)
  have c3 : (iI (n' : Int)).toNatClampNeg = n' := iI_cn (by omega)
  refine va_copyi (D := D) (ty := .int) hexec hb hml hown hlink hnat hstat hini hw.1 hw.2.1 hw.2.2.1 hw.2.2.2.1 i0 i1 t0 t0 (pool_ate hi0 ha0) (pool_ate hi1 ha1) ht ht rfl (iI_nn (by omega) (by omega)) (iI_nn (by omega) (by omega)) (iI_nn (by omega) (by omega)) (by rw [c1, c3]; exact h1) (by rw [c2, c3]; exact h2) (fun _ _ => rfl) hframes hlocals hdg (fun H1 locs1 hP hD hS => kk _ H1 locs1 rfl ⟨hw.1, ?_, ?_, hS, hw.2.2.2.2⟩)
  · rw [pool_set, c1, c2, c3] at hP; exact hP
  · rw [pool_set, c1, c2, c3] at hD; exact hD
end CP
theorem nlz_lo {x n y : Nat} (hn : n ≤ 31) (h1n : 1 ≤ n) (hyn : n = 1 → y = 1) (h0 : 0 < y) (h4 : y < 4) (h : x / 2 ^ (31 - n) = y) : 2 ^ (31 - (n - y / 2)) ≤ x := by
  have hp : 0 < 2 ^ (31 - n) := Nat.two_pow_pos _
  have h1 : y * 2 ^ (31 - n) ≤ x := by rw [← h]; exact Nat.div_mul_le_self _ _
  rcases (show y = 1 ∨ (y = 2 ∨ y = 3) by omega) with rfl | h5
  · simpa using h1
  · rw [show 31 - (n - y / 2) = (31 - n) + 1 by omega, Nat.pow_succ]
    have : 2 * 2 ^ (31 - n) ≤ y * 2 ^ (31 - n) := Nat.mul_le_mul_right _ (by omega)
    omega
theorem nlz_hi {x n y : Nat} (hn : n ≤ 31) (h1n : 1 ≤ n) (hyn : n = 1 → y = 1) (h0 : 0 < y) (h4 : y < 4) (h : x / 2 ^ (31 - n) = y) : x < 2 ^ (32 - (n - y / 2)) := by
  have hp : 0 < 2 ^ (31 - n) := Nat.two_pow_pos _
  have h1 : x < (y + 1) * 2 ^ (31 - n) := by rw [← h, Nat.mul_comm]; exact Nat.lt_mul_div_succ _ hp
  rcases (show y = 1 ∨ (y = 2 ∨ y = 3) by omega) with rfl | h5
  · rw [show 32 - (n - 1 / 2) = (31 - n) + 1 by omega, Nat.pow_succ]
    omega
  · have h2 : (y + 1) * 2 ^ (31 - n) ≤ 4 * 2 ^ (31 - n) := Nat.mul_le_mul_right _ (by omega)
    rw [show 32 - (n - y / 2) = (31 - n) + 2 by omega, Nat.pow_add]
    omega
