/-! divisions that cut off, and how a number is closed -/
theorem iL_tdiv {a b : Int} (h1 : -9223372036854775808 ≤ a) (h2 : a < 9223372036854775808) (h3 : 0 < b) (h4 : b < 9223372036854775808) : iL a / iL b = iL (a.tdiv b) := by
  have hle : (a.tdiv b).natAbs ≤ a.natAbs := by rw [Int.natAbs_tdiv]; exact Nat.div_le_self _ _
  have hpos : 0 ≤ a → 0 ≤ a.tdiv b := fun h => Int.tdiv_nonneg h (by omega)
  have hneg : a ≤ 0 → a.tdiv b ≤ 0 := fun h => by
    have h9 := Int.tdiv_nonneg (a := -a) (b := b) (by omega) (by omega)
    rw [Int.neg_tdiv] at h9
    omega
  apply Int64.toInt_inj.mp
  rw [Int64.toInt_div, iL_T h1 h2, iL_T (by omega) h4, iL_T (by omega) (by omega)]
  exact Int.bmod_eq_of_le (by omega) (by omega)
section WT2
variable {p : Program} {l : Launch} {e : Env} {R : Room} {s : State} {m : MethodId} {args : Array Value} {below : List Frame} {meth : Method} {c : Code} {H : Heap} {locs : List Loc} {cells slots : Nat} {Q : State → Prop}
variable {pc : Nat} {ls : Array Slot} {rest : List Value} {cc : ByteArray}
theorem wz_ldivT (hexec : p.tables.exec = Jvm.exec) (hb : c.code = cc) {a b z : Int} (hdg : decode cc pc = .ok (.ldiv, 1)) (h1 : -9223372036854775808 ≤ a) (h2 : a < 9223372036854775808) (h3 : 0 < b) (h4 : b < 9223372036854775808) (hz : a.tdiv b = z) (k : W p l e R s m args below meth c H locs cells slots Q (F0 m (pc + 1) ls (.long (iL z) :: rest))) : W p l e R s m args below meth c H locs cells slots Q (F0 m pc ls (.long (iL b) :: .long (iL a) :: rest)) := by
  refine lv_ldiv hexec hb hdg ?_ ?_
  · rw [show (0 : Int64) = iL 0 from rfl, iL_eq (by omega) (by omega) (by omega) (by omega)]; omega
  · rw [iL_tdiv h1 h2 h3 h4, hz]; exact k
theorem wz_lremT (hexec : p.tables.exec = Jvm.exec) (hb : c.code = cc) {a b z : Int} (hdg : decode cc pc = .ok (.lrem, 1)) (h1 : -9223372036854775808 ≤ a) (h2 : a < 9223372036854775808) (h3 : 0 < b) (h4 : b < 9223372036854775808) (hz : a.tmod b = z) (k : W p l e R s m args below meth c H locs cells slots Q (F0 m (pc + 1) ls (.long (iL z) :: rest))) : W p l e R s m args below meth c H locs cells slots Q (F0 m pc ls (.long (iL b) :: .long (iL a) :: rest)) := by
  refine lv_lrem hexec hb hdg ?_ ?_
  · rw [show (0 : Int64) = iL 0 from rfl, iL_eq (by omega) (by omega) (by omega) (by omega)]; omega
  · rw [iL_tdiv h1 h2 h3 h4, iL_mul, iL_sub, show a - a.tdiv b * b = z by rw [← hz, Int.tmod_def, Int.mul_comm]]; exact k
end WT2
theorem fin_trim {ty : Nat → ClassId} {F F1 : Nat → va_E} {P S G P9 S9 G9 S8 B8 : Nat → Int32} {to v : Nat} {z : Int} (hMA : MA ty F P S G) (hMA8 : MA ty F1 P9 S8 B8) (hMg : Mg P9 S8 to v) (hB8 : B8 to = if v = 0 then iI 0 else tg (G9 to)) (ho : ∀ c, c ≠ to → S8 c = S9 c ∧ B8 c = G9 c) (hS9 : ∀ c, c ≠ to → S9 c = S c) (hG9 : ∀ c, c ≠ to → G9 c = G c)
    (hP9 : ∀ j, j < 300 * to ∨ 300 * to + 300 ≤ j → P9 j = P j) (hz : z.natAbs = v) (hsg : v ≠ 0 → G9 to = iI (sB z)) : Nm ty F1 to z ∧ kp ty F F1 (fun c => c = to) := by
  refine ⟨⟨P9, S8, B8, hMA8, by rw [hz]; exact hMg, ?_⟩, kp_of hMA hMA8 (fun c hc hT => ⟨(ho c hT).1.trans (hS9 c hT), (ho c hT).2.trans (hG9 c hT), fun i hi => hP9 _ (by omega)⟩)⟩
  rw [hB8]
  by_cases c : v = 0
  · rw [if_pos c, show z = 0 by omega]; rfl
  · rw [if_neg c, hsg c]; exact tg_sB z
theorem dig_up {P : Nat → Int32} {to k x : Nat} (hx : x < 4294967296) : dl (upd P (300 * to + k) (iI x)) (300 * to + k) = x := dl_us hx
theorem bvP_up {P : Nat → Int32} {to k n : Nat} {x : Int32} (h : n ≤ k) : bvP (upd P (300 * to + k) x) to n = bvP P to n := bvP_congr (fun i hi => pk_un (by omega))
theorem Dg_up {P : Nat → Int32} {to k x : Nat} (h : Dg P to k) (hx : x < 65536) : Dg (upd P (300 * to + k) (iI x)) to (k + 1) := by
  intro i hi
  by_cases c : i = k
  · rw [c, dig_up (by omega)]; exact hx
  · rw [dl_un (by omega)]; exact h i (by omega)
