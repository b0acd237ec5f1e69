/-! what the calls answer -/
def isR (i : Int) : Prop := 0 ≤ i ∧ i < 16
def putS (g : Sg) (to : Nat) (p : Int) (q : Nat) : Sg := (va_up (zS g) to p, va_up (bS g) to q, nS g, tS g, pS g)
noncomputable def s_keep (g : Sg) (to : Nat) (p : Int) (q : Nat) : Int × Sg := cif (sm p.natAbs ∧ sm q) (0, putS g to p q) (-1, g)
noncomputable def s_lay (g : Sg) (to : Nat) (p : Int) (q : Nat) : Int × Sg := s_keep g to (Int.tdiv p (Nat.gcd p.natAbs q : Nat)) (q / Nat.gcd p.natAbs q)
theorem sg_tdiv (b t d : Nat) : Int.tdiv (sg b t) (d : Nat) = sg b (t / d) := by
  unfold sg; split
  · rw [Int.neg_tdiv]; rfl
  · rfl
theorem s_lay_sg (g : Sg) (to b t q : Nat) : s_lay g to (sg b t) q = s_keep g to (sg b (t / Nat.gcd t q)) (q / Nat.gcd t q) := by
  unfold s_lay; rw [sg_abs, sg_tdiv]
theorem s_lay_1 (g : Sg) (to : Nat) (p : Int) (q : Nat) (h : Nat.gcd p.natAbs q = 1) : s_lay g to p q = s_keep g to p q := by
  unfold s_lay; rw [h]
  simp
theorem sg_neg {b t : Nat} (hb : b ≤ 1) : (if sg b t < 0 then 1 else 0 : Nat) = if b = 1 ∧ t ≠ 0 then 1 else 0 := by
  unfold sg
  by_cases c : b = 1
  · rw [if_pos c]
    by_cases c2 : t = 0
    · rw [if_neg (by omega), if_neg (fun h => h.2 c2)]
    · rw [if_pos (by omega), if_pos ⟨c, c2⟩]
  · rw [if_neg c, if_neg (by omega), if_neg (fun h => c h.1)]
/-- a signed number is its size with its sign -/
theorem sg_self (z : Int) : sg (if z < 0 then 1 else 0) z.natAbs = z := by
  unfold sg; by_cases c : z < 0
  · rw [if_pos c, if_pos rfl]; omega
  · rw [if_neg c, if_neg (by omega)]; omega
theorem frz_sg {ty : Nat → ClassId} {ad : Nat → Nat} {F : Nat → va_E} {x b t q : Nat} (hb : b ≤ 1) (h : Frc ty ad F x t q (if b = 1 ∧ t ≠ 0 then 1 else 0)) : frz ty ad F x (sg b t) q := by
  unfold frz; rw [sg_neg hb, sg_abs]; exact h
/-- a register is laid anew -/
theorem Dk.put {ty : Nat → ClassId} {ad : Nat → Nat} {F F1 : Nat → va_E} {g : Sg} (h : Dk ty ad F g) {to : Nat} (hto : to < 16) {p : Int} {q : Nat} (hf : frz ty ad F1 (2 + 5 * to) p q) (hB : Bn ty ad F1) (e : ∀ y, y < 2 + 5 * to ∨ 2 + 5 * to + 4 < y → y < 82 ∨ 95 < y → F1 y = F y) : Dk ty ad F1 (putS g to p q) := by
  obtain ⟨h1, ⟨⟨q0, h2, h3⟩, h4⟩, -, h6⟩ := h
  refine ⟨(e 0 (by omega) (by omega)).trans h1, ⟨⟨q0, (e 1 (by omega) (by omega)).trans h2, h3⟩, fun i hi => ?_⟩, hB, h6.mv (e _ (by omega) (by omega)) (e _ (by omega) (by omega))⟩
  by_cases c : i = to
  · subst c
    show frz ty ad F1 (2 + 5 * i) (va_up (zS g) i p i) (va_up (bS g) i q i)
    rw [va_up_self, va_up_self]; exact hf
  · show frz ty ad F1 (2 + 5 * i) (va_up (zS g) to p i) (va_up (bS g) to q i)
    rw [va_up_ne _ _ c, va_up_ne _ _ c]
    exact (h4 i hi).mv (fun y h7 h8 => e y (by omega) (by omega))
theorem Dk.bench {ty : Nat → ClassId} {ad : Nat → Nat} {F F1 : Nat → va_E} {g : Sg} (h : Dk ty ad F g) (hB : Bn ty ad F1) (e : frB F F1) : Dk ty ad F1 g :=
  ⟨(e 0 (by omega)).trans h.1, h.2.1.mv (fun y _ _ => e y (by omega)), hB, h.2.2.2.mv (e _ (by omega)) (e _ (by omega))⟩
theorem frB.D {F F1 : Nat → va_E} (e : frB F F1) : frD F F1 := fun y h => e y (by omega)
theorem Dk.kr {ty : Nat → ClassId} {ad : Nat → Nat} {F F0 F1 : Nat → va_E} {g : Sg} (h : Dk ty ad F g) (e0 : frB F F0) {to tq bq bb : Nat} (hto : to < 16) (hbb : bb ≤ 1) {r : Int32}
    (q1 : sm (tq / Nat.gcd tq bq) ∧ sm (bq / Nat.gcd tq bq) → r = iI 0 ∧ Frc ty ad F1 (2 + 5 * to) (tq / Nat.gcd tq bq) (bq / Nat.gcd tq bq) (if bb = 1 ∧ (tq / Nat.gcd tq bq) ≠ 0 then 1 else 0) ∧ ∀ y, y < 2 + 5 * to ∨ 2 + 5 * to + 4 < y → y < 82 ∨ 95 < y → F1 y = F0 y)
    (q2 : ¬ (sm (tq / Nat.gcd tq bq) ∧ sm (bq / Nat.gcd tq bq)) → r = iI (-1) ∧ frB F0 F1) (hB : Bn ty ad F1) :
    r = iI (s_lay g to (sg bb tq) bq).1 ∧ Dk ty ad F1 (s_lay g to (sg bb tq) bq).2 ∧ frD F F1 := by
  rw [s_lay_sg, s_keep]
  by_cases c : sm (tq / Nat.gcd tq bq) ∧ sm (bq / Nat.gcd tq bq)
  · obtain ⟨h1, h2, h3⟩ := q1 c
    rw [cif_pos (by rw [sg_abs]; exact c)]
    exact ⟨h1, h.put hto (frz_sg hbb h2) hB (fun y h4 h5 => (h3 y h4 h5).trans (e0 y h5)), fun y h4 => (h3 y (by omega) (by omega)).trans (e0 y (by omega))⟩
  · obtain ⟨h1, h2⟩ := q2 c
    rw [cif_neg (by rw [sg_abs]; exact c)]
    exact ⟨h1, h.bench hB (fun y h4 => (h2 y h4).trans (e0 y h4)), fun y h4 => (h2 y (by omega)).trans (e0 y (by omega))⟩
theorem Dk.k {ty : Nat → ClassId} {ad : Nat → Nat} {F F0 F1 : Nat → va_E} {g : Sg} (h : Dk ty ad F g) (e0 : frB F F0) {to tq bq bb : Nat} (hto : to < 16) (hbb : bb ≤ 1) {r : Int32} (hB0 : Bn ty ad F0)
    (q : (sm tq ∧ sm bq → r = iI 0 ∧ Frc ty ad F1 (2 + 5 * to) tq bq (if bb = 1 ∧ tq ≠ 0 then 1 else 0) ∧ ∀ y, y < 2 + 5 * to ∨ 2 + 5 * to + 4 < y → F1 y = F0 y) ∧ (¬ (sm tq ∧ sm bq) → r = iI (-1) ∧ F1 = F0)) :
    r = iI (s_keep g to (sg bb tq) bq).1 ∧ Dk ty ad F1 (s_keep g to (sg bb tq) bq).2 ∧ frD F F1 := by
  rw [s_keep]
  by_cases c : sm tq ∧ sm bq
  · obtain ⟨h1, h2, h3⟩ := q.1 c
    rw [cif_pos (by rw [sg_abs]; exact c)]
    exact ⟨h1, h.put hto (frz_sg hbb h2) (hB0.mv (fun y _ _ => h3 y (by omega))) (fun y h4 h5 => (h3 y h4).trans (e0 y h5)), fun y h4 => (h3 y (by omega)).trans (e0 y (by omega))⟩
  · obtain ⟨h1, h2⟩ := q.2 c
    rw [cif_neg (by rw [sg_abs]; exact c)]
    subst h2
    exact ⟨h1, h.bench hB0 e0, e0.D⟩
abbrev An : Type := Int × Int × Sg
def dPost (ty : Nat → ClassId) (ad : Nat → Nat) (F : Nat → va_E) (a : An) (r : Int32) (F1 : Nat → va_E) : Prop := a.1 = 0 ∧ r = iI a.2.1 ∧ Dk ty ad F1 a.2.2 ∧ frD F F1
def dPx (ty : Nat → ClassId) (ad : Nat → Nat) (F : Nat → va_E) (a : An) (u : String × (Nat → va_E)) : Prop := (a.1 = 1 ∧ u.1 = xE ∨ a.1 = 2 ∧ u.1 = xS) ∧ Dk ty ad u.2 a.2.2 ∧ frD F u.2
noncomputable def o_set (g : Sg) (to p q : Int) : An := cif (isR to ∧ q ≠ 0) (0, 0, (s_lay g to.toNat (if q < 0 then -p else p) q.natAbs).2) (1, 0, g)
noncomputable def o_order (g : Sg) (a b : Int) : An := cif (isR a ∧ isR b) (0, cmpZ (zS g a.toNat * bS g b.toNat) (zS g b.toNat * bS g a.toNat), g) (1, 0, g)
noncomputable def o_sign (g : Sg) (a : Int) : An := cif (isR a) (0, (zS g a.toNat).sign, g) (1, 0, g)
noncomputable def o_places (g : Sg) (a w : Int) : An := cif (isR a ∧ (w = 0 ∨ w = 1)) (0, bl (if w = 0 then (zS g a.toNat).natAbs else bS g a.toNat), g) (1, 0, g)
noncomputable def o_part (g : Sg) (a w k : Int) : An := cif (isR a ∧ (w = 0 ∨ w = 1)) (0, ((if 0 ≤ k then (if w = 0 then (zS g a.toNat).natAbs else bS g a.toNat) / 2 ^ (32 * k.toNat) % 4294967296 else 0 : Nat) : Int), g) (1, 0, g)
theorem okS.at {g : Sg} (h : okS g) {i : Nat} (hi : i < 16) : sm (zS g i).natAbs ∧ sm (bS g i) ∧ 0 < bS g i ∧ Nat.gcd (zS g i).natAbs (bS g i) = 1 := h.1 i hi
section WT
variable {p : Program} {l : Launch} {e : Env} {R : Room} {s : State} {m : MethodId} {args : Array Value} {below : List Frame} {meth : Method} {c : Code} {H : Heap} {locs : List Loc} {cells slots : Nat} {Q : State → Prop}
variable {pc : Nat} {ls : Array Slot} {rest : List Value} {cc : ByteArray}
theorem wz_tabIn (hexec : p.tables.exec = Jvm.exec) (hb : c.code = cc) {dflt lo hi z : Int} {offs : Array Int} {len k : Nat} {off : Int} {tgt : Nat} (hdg : decode cc pc = .ok (.tableswitch dflt lo hi offs, len)) (hz : z = lo + k) (h1 : -2147483648 ≤ z) (h2 : z < 2147483648) (hk : lo + k ≤ hi) (ho : offs[k]? = some off) (ht : (pc : Int) + off = (tgt : Int))
    (kk : W p l e R s m args below meth c H locs cells slots Q (F0 m tgt ls rest)) : W p l e R s m args below meth c H locs cells slots Q (F0 m pc ls (.int (iI z) :: rest)) :=
  lv_tableIn hexec hb hdg (by rw [iI_T h1 h2]; omega) (by rw [iI_T h1 h2]; omega) (by rw [iI_T h1 h2, hz, show (lo + (k : Int) - lo).toNat = k by omega]; exact ho) ht kk
theorem wz_tabOut (hexec : p.tables.exec = Jvm.exec) (hb : c.code = cc) {dflt lo hi z : Int} {offs : Array Int} {len : Nat} {tgt : Nat} (hdg : decode cc pc = .ok (.tableswitch dflt lo hi offs, len)) (hz : z < lo ∨ hi < z) (h1 : -2147483648 ≤ z) (h2 : z < 2147483648) (ht : (pc : Int) + dflt = (tgt : Int))
    (kk : W p l e R s m args below meth c H locs cells slots Q (F0 m tgt ls rest)) : W p l e R s m args below meth c H locs cells slots Q (F0 m pc ls (.int (iI z) :: rest)) :=
  lv_tableOut hexec hb hdg (by rw [iI_T h1 h2]; exact hz) ht kk
end WT
theorem Frc.m5 {ty : Nat → ClassId} {ad : Nat → Nat} {F F' : Nat → va_E} {x tv bv bb : Nat} (h : Frc ty ad F x tv bv bb) (e0 : F' x = F x) (e1 : F' (x + 1) = F (x + 1)) (e2 : F' (x + 2) = F (x + 2)) (e3 : F' (x + 3) = F (x + 3)) (e4 : F' (x + 4) = F (x + 4)) : Frc ty ad F' x tv bv bb := by
  refine h.mv (fun y h1 h2 => ?_)
  by_cases c0 : y = x
  · rw [c0]; exact e0
  by_cases c1 : y = x + 1
  · rw [c1]; exact e1
  by_cases c2 : y = x + 2
  · rw [c2]; exact e2
  by_cases c3 : y = x + 3
  · rw [c3]; exact e3
  · rw [show y = x + 4 by omega]; exact e4
theorem pw_preBn {s : State} {H : Heap} {locs : List Loc} {D : va_G} {ty : Nat → ClassId} {ad : Nat → Nat} {M : Nat} {F : Nat → va_E} {A : Nat → Prop} (hw : pw D classes (tysL ty) ad M F A s H locs) {As : List Value} (hi : 97 < M) (h : Bn ty ad F) : PreV s H R_B (ad 82) (va_Pc (.ref (ad 82) :: As) (pPre D classes (tysL ty) ad M F H.size)) As := by
  obtain ⟨⟨bb, -, h2⟩, -⟩ := h
  exact pw_preV hw (by omega) h2 rfl
theorem sg_set (t b : Int) : sg (if (t < 0 ↔ b < 0) then 0 else 1) t.natAbs = if b < 0 then -t else t := by
  unfold sg
  by_cases c1 : t < 0 <;> by_cases c2 : b < 0 <;> simp [c1, c2] <;> omega
theorem sg_cmp (xs xt yb : Nat) : sg xs (xt * yb) = sg xs xt * yb := by
  unfold sg; split
  · rw [Int.natCast_mul, Int.neg_mul]
  · rw [Int.natCast_mul]
theorem sgn_sg {b t : Nat} (hb : b ≤ 1) : sgn b t = (sg b t).sign := by
  unfold sgn sg
  by_cases c : t = 0
  · subst c; rw [if_pos rfl]; split <;> rfl
  · rw [if_neg c]; split
    · rw [Int.sign_eq_neg_one_of_neg (by omega)]
    · rw [Int.sign_eq_one_of_pos (by omega)]
theorem Bn.m14 {ty : Nat → ClassId} {ad : Nat → Nat} {F F' : Nat → va_E} (h : Bn ty ad F) (e0 : F' 82 = F 82) (e1 : F' 83 = F 83) (e2 : F' 84 = F 84) (e3 : F' 85 = F 85) (e4 : F' 86 = F 86) (e5 : F' 87 = F 87) (e6 : F' 88 = F 88) (e7 : F' 89 = F 89) (e8 : F' 90 = F 90) (e9 : F' 91 = F 91) (f0 : F' 92 = F 92) (f1 : F' 93 = F 93) (f2 : F' 94 = F 94) (f3 : F' 95 = F 95) : Bn ty ad F' := by
  obtain ⟨⟨bb, h1, h2⟩, h3, h4, h5, h6, h7, ⟨f, g, hh, k, h8⟩, h9⟩ := h
  exact ⟨⟨bb, h1, e0.trans h2⟩, h3.mv e1 e2, h4.mv e3 e4, h5.mv e5 e6, h6.mv e7 e8, h7.mv e9 f0, ⟨f, g, hh, k, f1.trans h8⟩, h9.mv f2 f3⟩
theorem BnT.m14 {ty : Nat → ClassId} {ad : Nat → Nat} {F F' : Nat → va_E} {t b s : Nat} (h : BnT ty ad F t b s) (e0 : F' 82 = F 82) (e1 : F' 83 = F 83) (e2 : F' 84 = F 84) (e3 : F' 85 = F 85) (e4 : F' 86 = F 86) (e5 : F' 87 = F 87) (e6 : F' 88 = F 88) (e7 : F' 89 = F 89) (e8 : F' 90 = F 90) (e9 : F' 91 = F 91) (f0 : F' 92 = F 92) (f1 : F' 93 = F 93) (f2 : F' 94 = F 94) (f3 : F' 95 = F 95) : BnT ty ad F' t b s := by
  obtain ⟨h1, h2, h3, h4, h5, h6, h7, ⟨f, g, hh, k, h8⟩, h9⟩ := h
  exact ⟨h1, e0.trans h2, h3.mv e1 e2, h4.mv e3 e4, h5.mv e5 e6, h6.mv e7 e8, h7.mv e9 f0, ⟨f, g, hh, k, f1.trans h8⟩, h9.mv f2 f3⟩
