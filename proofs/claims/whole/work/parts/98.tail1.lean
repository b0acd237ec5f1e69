/-! THE CLAIM OUT OF ONE WALK OF THE LAW'S BODY. Your part is whole_start (and what it stands on); all else here is the same for every law, but numbers. -/
def R_law : String := "FractionDeskLaw"
def lw_P (b : Addr) (xs : List Int32) (args : Array Value) (s : State) : Prop := args = #[.ref b] ∧ s.IntsAt b xs ∧ xs.length ≤ 3072 ∧ (Jvm.Cond.and given_1 narrow_1).before args s = true
def lw_Q (_ : Array Value) (s : State) (o : Outcome) (t : State) : Prop := o = .returned (some (.int 1)) ∧ Framed s o t [] 601024 7293034
def lw_Z (below : List Frame) (a : Array Value) (s : State) : State → Prop := fun t => ∃ o, t.status = .running ∧ Ended t below o ∧ lw_Q a s o t
/-- the law's own end, with 1 on the stack, nothing written that was there before, its room as the claim has it -/
theorem lw_ret {p : Program} {l : Launch} {e : Env} {s : State} {m : MethodId} {below : List Frame} {meth : Method} {c : Code} {b : Nat} (hx : p.tables.exec = Jvm.exec) (hb : c.code = code) (hr : meth.sig.returnType = ret) (hlocks : meth.locks = false) {pc : Nat} {H : Heap} {ls : Array Slot} (hdg : decode code pc = .ok (.ireturn, 1)) : W p l e room_1 s m #[Value.ref b] below meth c H [] 601024 7293034 (lw_Z below #[Value.ref b] s) (F0 m pc ls [.int 1]) := by
  intro T hT X
  obtain ⟨fs, hret, hrun, hended, hW, hframe⟩ := X.leave (v := some (.int 1)) (hlocks := hlocks) (fun h => by rw [hr] at h; cases h)
  have hmeth' : T.vm.method? m = some meth := X.method'
  refine ⟨T.setFrames fs, ?_, .returned (some (.int 1)), hrun, hended, rfl, ⟨_, rfl⟩, hW, hframe⟩
  jvm_step X.here [X.here.top, hx, hb, hdg, hmeth', hr, ret, narrow_b1]
  (try refine ⟨rfl, ?_⟩); (try refine ⟨rfl, ?_⟩)
  first | (intro acts; rw [hret _ acts rfl rfl rfl]) | rw [hret _ _ rfl rfl rfl]
  exact Steps.refl _
/-- what holds at the law's entry: the machine, the code, the tables' words (any of lw_tbl by 'hts w (by decide +kernel)'), the script of L ints xs at the cell b, what the Statement gives of the start (any of its parts by flat_of_before) -/
def lw_At (p : Program) (s : State) (m : MethodId) (meth : Method) (c : Code) (b L : Nat) (xs : Nat → Int32) : Prop :=
  p.tables.exec = Jvm.exec ∧ c.code = code ∧ meth.sig.returnType = ret ∧ c.maxLocals = 8 ∧ s.vm.findClass R_law = some m.cls ∧ (∀ w ∈ lw_tbl, w.before #[Value.ref b] s = true) ∧ va_X b L xs s s.heap ∧ b < s.heap.size ∧ meth.locks = false ∧ (Jvm.Cond.and given_1 narrow_1).before #[Value.ref b] s = true
/-! the law's walk: what it needs -/
theorem gSW {own : String} {idx : Nat} {y : MethodName} {b : ByteArray} {n : Nat} {r : Option FieldType} {hh : List (Nat × Nat × Nat × Nat)} (h1 : (.methodLink own idx y : Cond) ∈ wT) (h2 : (.static y : Cond) ∈ wT) (h4 : (.initialized y.cls : Cond) ∈ wT) (h5 : (.codeWith y b n r hh : Cond) ∈ wT) : GoodIn wT (va_wsS own idx y (.codeWith y b n r hh :: wT)) := by
  intro w hw
  have : w ∈ wT := by
    rcases List.mem_append.mp hw with hw | hw
    · rcases List.mem_cons.mp hw with rfl | hw
      · exact h1
      · rcases List.mem_cons.mp hw with rfl | hw
        · exact h2
        · rcases List.mem_cons.mp hw with rfl | hw
          · exact h4
          · cases hw
    · rcases List.mem_cons.mp hw with rfl | hw
      · exact h5
      · exact hw
  exact ⟨this, wT_all _ this⟩
theorem px_preS {s : State} {H : Heap} {locs : List Loc} {D : va_G} {cl : List vw_C} {tys : List (ClassId × FieldType)} {ad : Nat → Nat} {M : Nat} {F : Nat → va_E} (hw : pw D cl tys ad M F (pA ad M s.heap.size) s H locs) (hx : xk ad M s) {As : List Value} : PreS s H (va_Pc As (xPre D cl tys ad M F H.size)) As :=
  ⟨px_blind _ _, fun U hU hW => px_pre hw hx _ U hU hW⟩
theorem px_preSq {s : State} {H : Heap} {locs : List Loc} {D : va_G} {cl : List vw_C} {tys : List (ClassId × FieldType)} {ad : Nat → Nat} {M : Nat} {F : Nat → va_E} (hw : pw D cl tys ad M F (pA ad M s.heap.size) s H locs) (hx : xk ad M s) (hN : va_Nc xS xE s) {As : List Value} : PreS s H (va_Pc As (fun U => xPre D cl tys ad M F H.size U ∧ va_Nc xS xE U)) As := by
  refine ⟨fun a U g mk q => ?_, fun U hU hW => ?_⟩
  · obtain ⟨q0, q1, q2⟩ := q
    obtain ⟨r0, r1⟩ := px_blind (D := D) (cl := cl) (tys := tys) (ad := ad) (M := M) (F := F) As H.size a U g mk ⟨q0, q1⟩
    exact ⟨r0, r1, va_Nc.moved (u := U) (U := U.calling g mk a) (Vm.Alike.refl U.vm) q2⟩
  · obtain ⟨r0, r1⟩ := px_pre hw hx As U hU hW
    exact ⟨r0, r1, va_Nc.moved hW.alike hN⟩
theorem iI_15 {z : Int} (h : -2147483648 ≤ z) (h2 : z < 2147483648) : ∃ k : Int, 0 ≤ k ∧ k < 16 ∧ iI z &&& iI 15 = iI k := by
  obtain ⟨k, hk⟩ : ∃ k : Int, k = z % 16 := ⟨_, rfl⟩
  obtain ⟨n, hn1, hn2⟩ : ∃ n : Nat, n < 4294967296 ∧ iI z = iI n := by
    by_cases c : 0 ≤ z
    · exact ⟨z.toNat, by omega, by rw [show ((z.toNat : Nat) : Int) = z by omega]⟩
    · refine ⟨(z + 4294967296).toNat, by omega, ?_⟩
      rw [show (((z + 4294967296).toNat : Nat) : Int) = z + 1 * 4294967296 by omega, iI_mod]
  refine ⟨((n % 16 : Nat) : Int), by omega, by omega, ?_⟩
  rw [hn2]
  exact iI_mask (k := 4) (by decide) hn1
theorem part_b (g : Sg) (a w k : Int) : -9223372036854775808 ≤ (o_part g a w k).2.1 ∧ (o_part g a w k).2.1 < 9223372036854775808 := by
  unfold o_part
  by_cases c : isR a ∧ (w = 0 ∨ w = 1)
  · rw [cif_pos c]
    obtain ⟨v, hv⟩ : ∃ v, v = (if 0 ≤ k then (if w = 0 then (zS g a.toNat).natAbs else bS g a.toNat) / 2 ^ (32 * k.toNat) % 4294967296 else 0 : Nat) := ⟨_, rfl⟩
    have h2 : v < 4294967296 := by
      rw [hv]
      split
      · exact Nat.mod_lt _ (by decide)
      · decide
    show -9223372036854775808 ≤ (((if 0 ≤ k then (if w = 0 then (zS g a.toNat).natAbs else bS g a.toNat) / 2 ^ (32 * k.toNat) % 4294967296 else 0 : Nat)) : Int) ∧ (((if 0 ≤ k then (if w = 0 then (zS g a.toNat).natAbs else bS g a.toNat) / 2 ^ (32 * k.toNat) % 4294967296 else 0 : Nat)) : Int) < 9223372036854775808
    rw [← hv]
    omega
  · rw [cif_neg c]; exact ⟨by dsimp only; omega, by dsimp only; omega⟩
theorem type_b {g : Sg} (h : okS g) (C : Nat) (m : Int) : -2147483648 ≤ (s_type g C m).1 ∧ (s_type g C m).1 < 2147483648 := by
  unfold s_type
  by_cases c : tyC g C m
  · rw [cif_pos c]
    obtain ⟨c1, c2, c3, c4⟩ := c
    dsimp only
    omega
  · rw [cif_neg c]; dsimp only; omega
