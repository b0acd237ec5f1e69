/-! the array classes, the contracts' forms, the words of calls, Math's rows -/
abbrev tysL (ty : Nat → ClassId) : List (ClassId × FieldType) := [(ty 0, .int), (ty 1, .char), (ty 2, .object "FractionDesk$Fraction"), (ty 3, .long), (ty 4, .boolean)]
abbrev CI (l : Launch) (y : MethodName) (ws : List Cond) (rm : Room) (av : List Value) (D : va_G) (ty : Nat → ClassId) (ad : Nat → Nat) (M : Nat) (F : Nat → va_E) (sz : Nat) (post : Int32 → (Nat → va_E) → Prop) : Prop :=
  Met l y ws rm (va_Pc av (pPre D classes (tysL ty) ad M F sz)) (va_Qi post (pAt D classes (tysL ty) ad M (pA ad M sz)) (pA ad M sz)) 0 0 (pA ad M sz)
abbrev CJ (l : Launch) (y : MethodName) (ws : List Cond) (rm : Room) (av : List Value) (D : va_G) (ty : Nat → ClassId) (ad : Nat → Nat) (M : Nat) (F : Nat → va_E) (sz : Nat) (post : Int64 → (Nat → va_E) → Prop) : Prop :=
  Met l y ws rm (va_Pc av (pPre D classes (tysL ty) ad M F sz)) (va_Ql post (pAt D classes (tysL ty) ad M (pA ad M sz)) (pA ad M sz)) 0 0 (pA ad M sz)
abbrev CV (l : Launch) (y : MethodName) (ws : List Cond) (rm : Room) (av : List Value) (D : va_G) (ty : Nat → ClassId) (ad : Nat → Nat) (M : Nat) (F : Nat → va_E) (sz : Nat) (post : (Nat → va_E) → Prop) : Prop :=
  Met l y ws rm (va_Pc av (pPre D classes (tysL ty) ad M F sz)) (va_Qv post (pAt D classes (tysL ty) ad M (pA ad M sz)) (pA ad M sz)) 0 0 (pA ad M sz)
abbrev CR (l : Launch) (y : MethodName) (ws : List Cond) (rm : Room) (av : List Value) (D : va_G) (ty : Nat → ClassId) (ad : Nat → Nat) (M : Nat) (F : Nat → va_E) (sz : Nat) (post : Nat × (Nat → va_E) → Prop) : Prop :=
  Met l y ws rm (va_Pc av (pPre D classes (tysL ty) ad M F sz)) (va_Qr post (pAtR D classes (tysL ty) ad M (pA ad M sz)) (pA ad M sz)) 0 0 (pA ad M sz)
theorem gT {y : MethodName} {b : ByteArray} {n : Nat} {r : Option FieldType} (h : (.code y b n r : Cond) ∈ wT) : GoodIn wT (.code y b n r :: wT) := by
  intro w hw
  rcases List.mem_cons.mp hw with rfl | hw
  · exact ⟨h, wT_all _ h⟩
  · exact ⟨hw, wT_all _ hw⟩
theorem gV {own C : String} {idx : Nat} {y : MethodName} {b : ByteArray} {n : Nat} {r : Option FieldType} (h1 : (.methodLink own idx y : Cond) ∈ wT) (h2 : (.instanceMethod y : Cond) ∈ wT) (h3 : (.selects C y y : Cond) ∈ wT) (h4 : (.initialized C : Cond) ∈ wT) (h5 : (.code y b n r : Cond) ∈ wT) : GoodIn wT (wsV own idx C y (.code y b n r :: wT)) := by
  intro w hw
  rcases List.mem_append.mp hw with hw | hw
  · have : w ∈ wT := by
      rcases List.mem_cons.mp hw with rfl | hw
      · exact h1
      · rcases List.mem_cons.mp hw with rfl | hw
        · exact h2
        · rcases List.mem_cons.mp hw with rfl | hw
          · exact h3
          · rcases List.mem_cons.mp hw with rfl | hw
            · exact h4
            · cases hw
    exact ⟨this, wT_all _ this⟩
  · exact gT h5 w hw
theorem gS {own : String} {idx : Nat} {y : MethodName} {b : ByteArray} {n : Nat} {r : Option FieldType} (h1 : (.methodLink own idx y : Cond) ∈ wT) (h2 : (.static y : Cond) ∈ wT) (h4 : (.initialized y.cls : Cond) ∈ wT) (h5 : (.code y b n r : Cond) ∈ wT) : GoodIn wT (va_wsS own idx y (.code y b n r :: wT)) := by
  intro w hw
  rcases List.mem_append.mp hw with hw | hw
  · have : w ∈ wT := by
      rcases List.mem_cons.mp hw with rfl | hw
      · exact h1
      · rcases List.mem_cons.mp hw with rfl | hw
        · exact h2
        · rcases List.mem_cons.mp hw with rfl | hw
          · exact h4
          · cases hw
    exact ⟨this, wT_all _ this⟩
  · exact gT h5 w hw
section WM
variable {p : Program} {l : Launch} {e : Env} {R : Room} {s : State} {m : MethodId} {args : Array Value} {below : List Frame} {meth : Method} {c : Code} {H : Heap} {locs : List Loc} {cells slots : Nat} {Q : State → Prop}
variable {pc : Nat} {ls : Array Slot} {rest : List Value} {cc : ByteArray}
theorem wz_mmax (hexec : p.tables.exec = Jvm.exec) (hb : c.code = cc) (hml : c.maxLocals = ls.size) {own : String} {index : Nat} (hown : s.vm.findClass own = some m.cls) (hlink : (Cond.methodLink own index Lib.Math.max.name).before args s = true) (hstat : (Cond.static Lib.Math.max.name).before args s = true) (hini : (Cond.initialized "java/lang/Math").before args s = true) (hcode : (Cond.code Lib.Math.max.name Lib.Math.max.code 2 (some .int)).before args s = true)
    (hframes : 1 ≤ R.frames) (hlocals : (rest.map fun v => v.category).sum + 13 ≤ R.locals) (hc : cells ≤ R.cells) (hs : slots ≤ R.slots) {a b z : Int} (h1 : -2147483648 ≤ a) (h2 : a < 2147483648) (h3 : -2147483648 ≤ b) (h4 : b < 2147483648) (hz : max a b = z) (hdg : decode cc pc = .ok (.invokestatic index, 3))
    (kk : W p l e R s m args below meth c H locs cells slots Q (F0 m (pc + 3) ls (.int (iI z) :: rest))) : W p l e R s m args below meth c H locs cells slots Q (F0 m pc ls (.int (iI b) :: .int (iI a) :: rest)) := by
  refine va_mmax hexec hb hml hown hlink hstat hini hcode hframes hlocals hc hs hdg ?_
  have : (if iI a < iI b then iI b else iI a) = iI z := by
    by_cases q : a < b
    · rw [if_pos ((iI_lt h1 h2 h3 h4).mpr q)]; congr 1; omega
    · rw [if_neg (fun x => q ((iI_lt h1 h2 h3 h4).mp x))]; congr 1; omega
  rw [this]; exact kk
theorem wz_mmin (hexec : p.tables.exec = Jvm.exec) (hb : c.code = cc) (hml : c.maxLocals = ls.size) {own : String} {index : Nat} (hown : s.vm.findClass own = some m.cls) (hlink : (Cond.methodLink own index Lib.Math.min.name).before args s = true) (hstat : (Cond.static Lib.Math.min.name).before args s = true) (hini : (Cond.initialized "java/lang/Math").before args s = true) (hcode : (Cond.code Lib.Math.min.name Lib.Math.min.code 2 (some .int)).before args s = true)
    (hframes : 1 ≤ R.frames) (hlocals : (rest.map fun v => v.category).sum + 13 ≤ R.locals) (hc : cells ≤ R.cells) (hs : slots ≤ R.slots) {a b z : Int} (h1 : -2147483648 ≤ a) (h2 : a < 2147483648) (h3 : -2147483648 ≤ b) (h4 : b < 2147483648) (hz : min a b = z) (hdg : decode cc pc = .ok (.invokestatic index, 3))
    (kk : W p l e R s m args below meth c H locs cells slots Q (F0 m (pc + 3) ls (.int (iI z) :: rest))) : W p l e R s m args below meth c H locs cells slots Q (F0 m pc ls (.int (iI b) :: .int (iI a) :: rest)) := by
  refine va_mmin hexec hb hml hown hlink hstat hini hcode hframes hlocals hc hs hdg ?_
  have : (if iI b < iI a then iI b else iI a) = iI z := by
    by_cases q : b < a
    · rw [if_pos ((iI_lt h3 h4 h1 h2).mpr q)]; congr 1; omega
    · rw [if_neg (fun x => q ((iI_lt h3 h4 h1 h2).mp x))]; congr 1; omega
  rw [this]; exact kk
theorem wz_mabs (hexec : p.tables.exec = Jvm.exec) (hb : c.code = cc) (hml : c.maxLocals = ls.size) {own : String} {index : Nat} (hown : s.vm.findClass own = some m.cls) (hlink : (Cond.methodLink own index Lib.Math.abs.name).before args s = true) (hstat : (Cond.static Lib.Math.abs.name).before args s = true) (hini : (Cond.initialized "java/lang/Math").before args s = true) (hcode : (Cond.code Lib.Math.abs.name Lib.Math.abs.code 1 (some .int)).before args s = true)
    (hframes : 1 ≤ R.frames) (hlocals : (rest.map fun v => v.category).sum + 13 ≤ R.locals) (hc : cells ≤ R.cells) (hs : slots ≤ R.slots) {a z : Int} (h1 : -2147483648 ≤ a) (h2 : a < 2147483648) (hz : (a.natAbs : Int) = z) (hdg : decode cc pc = .ok (.invokestatic index, 3))
    (kk : W p l e R s m args below meth c H locs cells slots Q (F0 m (pc + 3) ls (.int (iI z) :: rest))) : W p l e R s m args below meth c H locs cells slots Q (F0 m pc ls (.int (iI a) :: rest)) := by
  refine va_mabs hexec hb hml hown hlink hstat hini hcode hframes hlocals hc hs hdg ?_
  have : (if 0 ≤ iI a then iI a else 0 - iI a) = iI z := by
    rw [show (0 : Int32) = iI 0 from rfl]
    by_cases q : 0 ≤ a
    · rw [if_pos ((iI_le (by omega) (by omega) h1 h2).mpr q)]; congr 1; omega
    · rw [if_neg (fun x => q ((iI_le (by omega) (by omega) h1 h2).mp x)), iI_sub]; congr 1; omega
  rw [this]; exact kk
theorem wz_mabsl (hexec : p.tables.exec = Jvm.exec) (hb : c.code = cc) (hml : c.maxLocals = ls.size) {own : String} {index : Nat} (hown : s.vm.findClass own = some m.cls) (hlink : (Cond.methodLink own index Lib.MathLoose.abs_long.x).before args s = true) (hstat : (Cond.static Lib.MathLoose.abs_long.x).before args s = true) (hini : (Cond.initialized "java/lang/Math").before args s = true) (hcode : (Cond.code Lib.MathLoose.abs_long.x Lib.MathLoose.abs_long.code 2 (some .long)).before args s = true)
    (hframes : 1 ≤ R.frames) (hlocals : (rest.map fun v => v.category).sum + 13 ≤ R.locals) (hc : cells ≤ R.cells) (hs : slots ≤ R.slots) {a z : Int} (h1 : -9223372036854775808 ≤ a) (h2 : a < 9223372036854775808) (hz : (a.natAbs : Int) = z) (hdg : decode cc pc = .ok (.invokestatic index, 3))
    (kk : W p l e R s m args below meth c H locs cells slots Q (F0 m (pc + 3) ls (.long (iL z) :: rest))) : W p l e R s m args below meth c H locs cells slots Q (F0 m pc ls (.long (iL a) :: rest)) := by
  refine va_mabs_long hexec hb hml hown hlink hstat hini hcode hframes hlocals hc hs hdg ?_
  rw [iL_uabs h1 h2, hz]; exact kk
end WM
/-! a Whole: its object is cell w, its limbs are cell w + 1 -/
abbrev oW (ad : Nat → Nat) (w : Nat) (n : Int) : va_E := .inr (0, [.ref (ad (w + 1)), .int (iI n)])
abbrev aI (ty : Nat → ClassId) (N : Nat) (g : Nat → Int32) : va_E := .inl (ty 0, N, .inl g)
/-- the Whole w, with room for N limbs, has n limbs g -/
def Wh (ty : Nat → ClassId) (ad : Nat → Nat) (F : Nat → va_E) (w N n : Nat) (g : Nat → Int32) : Prop := F w = oW ad w n ∧ F (w + 1) = aI ty N g
/-- n limbs g tell the number v -/
def Wok (N n : Nat) (g : Nat → Int32) (v : Nat) : Prop := n ≤ N ∧ (∀ i, i < n → dl g i < 2147483648) ∧ (n = 0 ∨ dl g (n - 1) ≠ 0) ∧ bv 2147483648 (dl g) n = v
def Wv (ty : Nat → ClassId) (ad : Nat → Nat) (F : Nat → va_E) (w N v : Nat) : Prop := ∃ n g, Wh ty ad F w N n g ∧ Wok N n g v
/-- it is there, whatever it tells -/
def Wa (ty : Nat → ClassId) (ad : Nat → Nat) (F : Nat → va_E) (w N : Nat) : Prop := ∃ n g, Wh ty ad F w N n g
theorem Wv.a {ty : Nat → ClassId} {ad : Nat → Nat} {F : Nat → va_E} {w N v : Nat} (h : Wv ty ad F w N v) : Wa ty ad F w N := let ⟨n, g, h, _⟩ := h; ⟨n, g, h⟩
theorem Wv.mv {ty : Nat → ClassId} {ad : Nat → Nat} {F F' : Nat → va_E} {w N v : Nat} (h : Wv ty ad F w N v) (e1 : F' w = F w) (e2 : F' (w + 1) = F (w + 1)) : Wv ty ad F' w N v := by
  obtain ⟨n, g, ⟨h1, h2⟩, h3⟩ := h
  exact ⟨n, g, ⟨e1.trans h1, e2.trans h2⟩, h3⟩
theorem Wa.mv {ty : Nat → ClassId} {ad : Nat → Nat} {F F' : Nat → va_E} {w N : Nat} (h : Wa ty ad F w N) (e1 : F' w = F w) (e2 : F' (w + 1) = F (w + 1)) : Wa ty ad F' w N := by
  obtain ⟨n, g, h1, h2⟩ := h
  exact ⟨n, g, e1.trans h1, e2.trans h2⟩
/-- nothing changed but cells w and w + 1 -/
def fr2 (F F' : Nat → va_E) (w : Nat) : Prop := ∀ x, x ≠ w → x ≠ w + 1 → F' x = F x
