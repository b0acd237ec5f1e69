/-! the law's start: lemmas -/
theorem Tx.ad {ty : Nat → ClassId} {ad ad1 : Nat → Nat} {F F1 : Nat → va_E} {n : Nat} {tx : Nat → Nat} (h : Tx ty ad F n tx) (e0 : F1 96 = F 96) (e1 : F1 97 = F 97) (ea : ad1 97 = ad 97) : Tx ty ad1 F1 n tx := by
  obtain ⟨h1, g, h2, h3⟩ := h
  exact ⟨by rw [e0, h1, oT, oT, ea], g, e1.trans h2, h3⟩
theorem Dk.ad {ty : Nat → ClassId} {ad ad1 : Nat → Nat} {F F1 : Nat → va_E} {g : Sg} (h : Dk ty ad F g) (e : ∀ y, y < 98 → F1 y = F y) (ea : ∀ y, y < 98 → ad1 y = ad y) : Dk ty ad1 F1 g := by
  obtain ⟨h1, ⟨⟨q, h2, h3⟩, h4⟩, h5, h6⟩ := h
  refine ⟨by rw [e 0 (by omega), h1, oK, oK, ea 1 (by omega), ea 82 (by omega), ea 96 (by omega)], ⟨⟨q, (e 1 (by omega)).trans h2, fun i hi => by rw [ea _ (by omega)]; exact h3 i hi⟩, fun i hi => (h4 i hi).ad (fun y h8 h9 => e y (by omega)) (fun y h8 h9 => ea y (by omega))⟩, h5.ad (fun y h8 h9 => e y (by omega)) (fun y h8 h9 => ea y (by omega)), h6.ad (e _ (by omega)) (e _ (by omega)) (ea _ (by omega))⟩
theorem Mo.ad {ty : Nat → ClassId} {ad ad1 : Nat → Nat} {F F1 : Nat → va_E} {co : Int} {g : Sg} (h : Mo ty ad F co g) (e : ∀ y, 97 < y → y < 104 → F1 y = F y) (ea : ∀ y, 97 < y → y < 104 → ad1 y = ad y) : Mo ty ad1 F1 co g := by
  obtain ⟨h1, h2, tt, dd, h3, h4, h5⟩ := h
  refine ⟨by rw [e 98 (by omega) (by omega), h1, oM, oM, ea 99 (by omega) (by omega), ea 100 (by omega) (by omega), ea 101 (by omega) (by omega), ea 102 (by omega) (by omega), ea 103 (by omega) (by omega)], h2.m3 (e _ (by omega) (by omega)) (e _ (by omega) (by omega)) (e _ (by omega) (by omega)), tt, dd, (e _ (by omega) (by omega)).trans h3, h4, (e _ (by omega) (by omega)).trans h5⟩
theorem pw_toA {s : State} {H : Heap} {locs : List Loc} {D : va_G} {cl : List vw_C} {tys : List (ClassId × FieldType)} {ad : Nat → Nat} {M : Nat} {F : Nat → va_E} (hw : pw D cl tys ad M F (fun q => s.heap.size ≤ q) s H locs) : pw D cl tys ad M F (pA ad M s.heap.size) s H locs := by
  obtain ⟨h1, h2, h3, h4, h5⟩ := hw
  refine ⟨h1, h2, pool_D.mpr ⟨(pool_D.mp h3).1, fun i hi => Or.inl ⟨i, hi, rfl⟩⟩, ⟨h4.1, fun q hq hn => h4.2.1 q hq (fun h9 => hn (Or.inr h9)), fun q hq => Or.inr (h4.2.2 q hq)⟩, fun q hq => Or.inr hq⟩
theorem k_int {s : State} {args : Array Value} (h : (Cond.arrayClass .int).before args s = true) : ∃ cA, ArrOfT s cA .int ∧ va_RA s cA .int := by
  obtain ⟨c, k, comp, h1, h2, h3⟩ := Cond.arrayClass_spec h
  exact ⟨c, fun n z => ⟨fun k h => (by cases h), k, h2, comp, h3⟩, h1⟩
theorem k_char {s : State} {args : Array Value} (h : (Cond.arrayClass .char).before args s = true) : ∃ cA, ArrOfT s cA .char ∧ va_RA s cA .char := by
  obtain ⟨c, k, comp, h1, h2, h3⟩ := Cond.arrayClass_spec h
  exact ⟨c, fun n z => ⟨fun k h => (by cases h), k, h2, comp, h3⟩, h1⟩
theorem k_long {s : State} {args : Array Value} (h : (Cond.arrayClass .long).before args s = true) : ∃ cA, ArrOfT s cA .long ∧ va_RA s cA .long := by
  obtain ⟨c, k, comp, h1, h2, h3⟩ := Cond.arrayClass_spec h
  exact ⟨c, fun n z => ⟨fun k h => (by cases h), k, h2, comp, h3⟩, h1⟩
theorem k_boolean {s : State} {args : Array Value} (h : (Cond.arrayClass .boolean).before args s = true) : ∃ cA, ArrOfT s cA .boolean ∧ va_RA s cA .boolean := by
  obtain ⟨c, k, comp, h1, h2, h3⟩ := Cond.arrayClass_spec h
  exact ⟨c, fun n z => ⟨fun k h => (by cases h), k, h2, comp, h3⟩, h1⟩
theorem k_obj {s : State} {args : Array Value} {C : String} (h : (Cond.arrayOver (.object C)).before args s = true) : ∃ cA, ArrOfT s cA (.object C) ∧ va_RA s cA (.object C) := by
  obtain ⟨comp, c, k, h1, _, h2, h3, h4⟩ := Cond.arrayOver_spec h
  exact ⟨c, fun n z => ⟨(fun k h => by cases h), k, h2, comp, h3⟩, k, comp, h2, h3, h1, h4⟩
theorem wX_in : ∀ w ∈ wX, w ∈ lw_tbl := by decide +kernel
theorem xstr_in : ∀ q ∈ xstr, (.stringRef R_K q.1 q.2 : Cond) ∈ lw_tbl := by decide +kernel
theorem mk_xk {s : State} {b : Nat} {ad : Nat → Nat} {M : Nat} (hts : ∀ w ∈ lw_tbl, w.before #[Value.ref b] s = true) (hgv : (Jvm.Cond.and given_1 narrow_1).before #[Value.ref b] s = true) (hA : ∀ q, pA ad M s.heap.size q → s.heap.size ≤ q) : xk ad M s := by
  have hs := flat_of_before _ hgv
  have hnA : ∀ a : Nat, a < s.heap.size → ¬ pA ad M s.heap.size a := fun a ha h9 => absurd (hA _ h9) (by omega)
  refine ⟨vx_Zqof (hts _ (by decide +kernel)) (hts _ (by decide +kernel)) (hs _ (by decide +kernel)) hnA, vx_Zqof (hts _ (by decide +kernel)) (hts _ (by decide +kernel)) (hs _ (by decide +kernel)) hnA, fun w hw => va_tabs (wX_tab w hw) rfl (hts w (wX_in w hw)), fun q hq => ?_⟩
  have h1 := hts _ (xstr_in q hq)
  obtain ⟨cK, kK, hfc, -⟩ := Cond.instantiable_spec (hts (.instantiable R_K 4) (by decide +kernel))
  obtain ⟨k, cf, i, a, -, -, -, -, -, h6⟩ := Cond.stringRef_spec hfc h1
  exact ⟨a, vk_R.of h1 h6⟩
theorem mk_Nc {s : State} {b : Nat} (hgv : (Jvm.Cond.and given_1 narrow_1).before #[Value.ref b] s = true) : va_Nc xS xE s := va_Nc.of (flat_of_before _ hgv (Cond.not (.castable xS xE)) (by decide +kernel))
