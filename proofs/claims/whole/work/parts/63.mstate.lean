/-! the reference: its world -/
section PZ
variable {p : Program} {l : Launch} {e : Env} {R : Room} {s : State} {m : MethodId} {args : Array Value} {below : List Frame} {meth : Method} {c : Code} {H : Heap} {locs : List Loc} {cells slots mc ms : Nat} {Q : State → Prop}
variable {D : va_G} {cl : List vw_C} {tys : List (ClassId × FieldType)} {ad : Nat → Nat} {M : Nat} {F : Nat → va_E} {A : Nat → Prop} {pc : Nat} {ls : Array Slot} {rest st0 : List Value} {cc : ByteArray} {a : Array Value}
theorem pw_zald (hexec : p.tables.exec = Jvm.exec) (hb : c.code = cc) (hw : pw D cl tys ad M F A s H locs) (t0 : Nat) {j : Nat} {cA : ClassId} {n : Nat} {f : Nat → Int32} (hj : j < M) (hF : F j = .inl (cA, n, .inl f)) (ht : tys[t0]? = some (cA, .boolean)) {i : Int32} {k : Nat} (hin : vp_in i n) (hk : i.toNatClampNeg = k) (hdg : decode cc pc = .ok (.baload, 1))
    (kk : W p l e R s m args below meth c H locs cells slots Q (F0 m (pc + 1) ls (.int (f k) :: rest))) : W p l e R s m args below meth c H locs cells slots Q (F0 m pc ls (.int i :: .ref (ad j) :: rest)) :=
  va_zald hexec hb hw.1 hw.2.1 j t0 (pool_ate hj hF) ht hin hdg (by rw [hk]; exact kk)
theorem pw_zast (hexec : p.tables.exec = Jvm.exec) (hb : c.code = cc) (hw : pw D cl tys ad M F A s H locs) (t0 : Nat) {j : Nat} {cA : ClassId} {n : Nat} {f : Nat → Int32} (hj : j < M) (hF : F j = .inl (cA, n, .inl f)) (ht : tys[t0]? = some (cA, .boolean)) {i x y : Int32} {k : Nat} (hin : vp_in i n) (hk : i.toNatClampNeg = k) (hy : vp_nar .boolean x = y) (hdg : decode cc pc = .ok (.bastore, 1))
    (kk : ∀ (F1 : Nat → va_E) (H1 : Heap) (locs1 : List Loc), F1 = va_up F j (.inl (cA, n, .inl (upd f k y))) → pw D cl tys ad M F1 A s H1 locs1 → W p l e R s m args below meth c H1 locs1 cells slots Q (F0 m (pc + 1) ls rest)) : W p l e R s m args below meth c H locs cells slots Q (F0 m pc ls (.int x :: .int i :: .ref (ad j) :: rest)) := by
  refine va_zast hexec hb hw.1 hw.2.1 hw.2.2.1 hw.2.2.2.1 j t0 (pool_ate hj hF) ht hin hdg (fun H1 locs1 hP hD hS => kk _ H1 locs1 rfl ⟨hw.1, ?_, ?_, hS, hw.2.2.2.2⟩)
  · rw [pool_set, hk, hy] at hP; exact hP
  · rw [pool_set, hk, hy] at hD; exact hD
end PZ
abbrev oM (ad : Nat → Nat) (co ln wr : Int) : va_E := .inr (6, [.int (iI (co)), .ref (ad (99)), .ref (ad (100)), .ref (ad (101)), .ref (ad (102)), .int (iI (ln)), .int (iI (wr)), .ref (ad (103))])
abbrev aN (ty : Nat → ClassId) (k n : Nat) (g : Nat → Int32) : va_E := .inl (ty k, n, .inl (g))
/-- the numbers' rows: parts, sizes, signs -/
def MA (ty : Nat → ClassId) (F : Nat → va_E) (P S B : Nat → Int32) : Prop := F 99 = aN ty 0 12900 P ∧ F 100 = aN ty 0 43 S ∧ F 101 = aN ty 4 43 B
def Dg (P : Nat → Int32) (a n : Nat) : Prop := ∀ i, i < n → dl P (300 * a + i) < 65536
def bvP (P : Nat → Int32) (a n : Nat) : Nat := bv 65536 (fun i => dl P (300 * a + i)) n
/-- number a's size is v -/
def Mg (P S : Nat → Int32) (a v : Nat) : Prop := ∃ n : Nat, S a = iI n ∧ n ≤ 300 ∧ Dg P a n ∧ (n = 0 ∨ dl P (300 * a + (n - 1)) ≠ 0) ∧ bvP P a n = v
def Nu (P S B : Nat → Int32) (a : Nat) (z : Int) : Prop := Mg P S a z.natAbs ∧ B a = iI (sB z)
def Nm (ty : Nat → ClassId) (F : Nat → va_E) (a : Nat) (z : Int) : Prop := ∃ P S B, MA ty F P S B ∧ Nu P S B a z
/-- what isn't among T is the number that it was -/
def kp (ty : Nat → ClassId) (F F1 : Nat → va_E) (T : Nat → Prop) : Prop := ∀ (c : Nat) (z : Int), c < 43 → ¬ T c → Nm ty F c z → Nm ty F1 c z
def frM (F F1 : Nat → va_E) : Prop := ∀ y, y ≠ 99 → y ≠ 100 → y ≠ 101 → F1 y = F y
theorem MA.uniq {ty : Nat → ClassId} {F : Nat → va_E} {P S B P' S' B' : Nat → Int32} (h : MA ty F P S B) (h' : MA ty F P' S' B') : P' = P ∧ S' = S ∧ B' = B := by
  obtain ⟨h1, h2, h3⟩ := h
  obtain ⟨k1, k2, k3⟩ := h'
  have e1 := h1.symm.trans k1
  have e2 := h2.symm.trans k2
  have e3 := h3.symm.trans k3
  injection e1 with e1; injection e1 with _ e1; injection e1 with _ e1; injection e1 with e1
  injection e2 with e2; injection e2 with _ e2; injection e2 with _ e2; injection e2 with e2
  injection e3 with e3; injection e3 with _ e3; injection e3 with _ e3; injection e3 with e3
  exact ⟨e1.symm, e2.symm, e3.symm⟩
theorem Nm.nu {ty : Nat → ClassId} {F : Nat → va_E} {P S B : Nat → Int32} {a : Nat} {z : Int} (h : Nm ty F a z) (hA : MA ty F P S B) : Nu P S B a z := by
  obtain ⟨P', S', B', h1, h2⟩ := h
  obtain ⟨rfl, rfl, rfl⟩ := hA.uniq h1
  exact h2
theorem Nm.ma {ty : Nat → ClassId} {F : Nat → va_E} {a : Nat} {z : Int} (h : Nm ty F a z) : ∃ P S B, MA ty F P S B := let ⟨P, S, B, h1, _⟩ := h; ⟨P, S, B, h1⟩
theorem bvP_congr {P P' : Nat → Int32} {a a' n : Nat} (h : ∀ i, i < n → P' (300 * a' + i) = P (300 * a + i)) : bvP P' a' n = bvP P a n := bv_congr (fun i hi => by show dl P' _ = dl P _; unfold dl; rw [h i hi])
theorem dl_congr {P P' : Nat → Int32} {i j : Nat} (h : P' i = P j) : dl P' i = dl P j := by unfold dl; rw [h]
theorem Mg.cp {P S P' S' : Nat → Int32} {a a' v : Nat} (h : Mg P S a v) (hS : S' a' = S a) (hP : ∀ i, i < 300 → P' (300 * a' + i) = P (300 * a + i)) : Mg P' S' a' v := by
  obtain ⟨n, h1, h2, h3, h4, h5⟩ := h
  refine ⟨n, hS.trans h1, h2, fun i hi => by rw [dl_congr (hP i (by omega))]; exact h3 i hi, ?_, by rw [bvP_congr (fun i hi => hP i (by omega))]; exact h5⟩
  rcases h4 with h4 | h4
  · exact Or.inl h4
  · by_cases c : n = 0
    · exact Or.inl c
    · exact Or.inr (by rw [dl_congr (hP (n - 1) (by omega))]; exact h4)
def sgs (P S B P' S' B' : Nat → Int32) (c : Nat) : Prop := S' c = S c ∧ B' c = B c ∧ ∀ i, i < 300 → P' (300 * c + i) = P (300 * c + i)
theorem kp_of {ty : Nat → ClassId} {F F1 : Nat → va_E} {P S B P' S' B' : Nat → Int32} {T : Nat → Prop} (h : MA ty F P S B) (h' : MA ty F1 P' S' B') (hs : ∀ c, c < 43 → ¬ T c → sgs P S B P' S' B' c) : kp ty F F1 T := by
  intro c z hc hT hn
  obtain ⟨h1, h2⟩ := hn.nu h
  obtain ⟨e1, e2, e3⟩ := hs c hc hT
  exact ⟨P', S', B', h', h1.cp e1 e3, e2.trans h2⟩
theorem kp.trans {ty : Nat → ClassId} {F F1 F2 : Nat → va_E} {T T2 : Nat → Prop} (h : kp ty F F1 T) (h2 : kp ty F1 F2 T2) : kp ty F F2 (fun c => T c ∨ T2 c) := fun c z hc hT hn => h2 c z hc (fun x => hT (Or.inr x)) (h c z hc (fun x => hT (Or.inl x)) hn)
theorem kp.weak {ty : Nat → ClassId} {F F1 : Nat → va_E} {T T2 : Nat → Prop} (h : kp ty F F1 T) (hT : ∀ c, c < 43 → T c → T2 c) : kp ty F F1 T2 := fun c z hc hc2 hn => h c z hc (fun x => hc2 (hT c hc x)) hn
theorem kp_mem {ty : Nat → ClassId} {F F1 : Nat → va_E} {T : Nat → Prop} (h1 : F1 99 = F 99) (h2 : F1 100 = F 100) (h3 : F1 101 = F 101) : kp ty F F1 T := by
  intro c z _ _ hn
  obtain ⟨P, S, B, ⟨a1, a2, a3⟩, hn⟩ := hn
  exact ⟨P, S, B, ⟨h1.trans a1, h2.trans a2, h3.trans a3⟩, hn⟩
theorem Nm.m3 {ty : Nat → ClassId} {F F1 : Nat → va_E} {a : Nat} {z : Int} (hn : Nm ty F a z) (h1 : F1 99 = F 99) (h2 : F1 100 = F 100) (h3 : F1 101 = F 101) : Nm ty F1 a z := by
  obtain ⟨P, S, B, ⟨a1, a2, a3⟩, hn⟩ := hn
  exact ⟨P, S, B, ⟨h1.trans a1, h2.trans a2, h3.trans a3⟩, hn⟩
theorem nar_z0 : vp_nar .boolean (iI 0) = iI 0 := by decide
theorem nar_z1 : vp_nar .boolean (iI 1) = iI 1 := by decide
theorem nar_sB (z : Int) : vp_nar .boolean (iI (sB z)) = iI (sB z) := by unfold sB; split <;> decide
/-- a size that is no larger than 2^4100 has at most 257 parts -/
theorem Mg.n257 {P S : Nat → Int32} {a v n : Nat} (hm : md v) (h3 : Dg P a n) (h4 : n = 0 ∨ dl P (300 * a + (n - 1)) ≠ 0) (h5 : bvP P a n = v) : n ≤ 257 := by
  apply Nat.le_of_not_lt
  intro c
  rcases h4 with h4 | h4
  · omega
  · obtain ⟨k, rfl⟩ : ∃ k, n = k + 1 := ⟨n - 1, by omega⟩
    have h6 : 65536 ^ k ≤ bvP P a (k + 1) := bv_top (d := fun i => dl P (300 * a + i)) h4
    have h7 : (65536 : Nat) ^ 257 ≤ 65536 ^ k := Nat.pow_le_pow_right (by decide) (by omega)
    have h8 : (2 : Nat) ^ 4100 ≤ 65536 ^ 257 := Nat.le_of_ble_eq_true (by decide +kernel)
    rw [h5] at h6
    exact absurd hm (Nat.not_lt.mpr (Nat.le_trans h8 (Nat.le_trans h7 h6)))
theorem bvP_s (P : Nat → Int32) (a n : Nat) : bvP P a (n + 1) = bvP P a n + dl P (300 * a + n) * 65536 ^ n := rfl
theorem bvP_0 (P : Nat → Int32) (a : Nat) : bvP P a 0 = 0 := rfl
theorem Dg.get {P : Nat → Int32} {a n i : Nat} (h : Dg P a n) (hi : i < n) : P (300 * a + i) = iI (dl P (300 * a + i)) := dl_get (by have := h i hi; omega)
theorem bvP_z {P : Nat → Int32} {a n : Nat} (h : n = 0 ∨ dl P (300 * a + (n - 1)) ≠ 0) : bvP P a n = 0 ↔ n = 0 := bv_eq0 (d := fun i => dl P (300 * a + i)) (by decide) h
def tg (g : Int32) : Int32 := if g = iI 0 then iI 0 else iI 1
theorem tg_sB (z : Int) : tg (iI (sB z)) = iI (sB z) := by unfold sB; split <;> decide
theorem tg_0 : tg (iI 0) = iI 0 := by decide
theorem tg_1 : tg (iI 1) = iI 1 := by decide
