/-! new cells: the pool grows -/
theorem pool_ext {ad ad1 : Nat → Nat} {M : Nat} {F : Nat → va_E} (h : ∀ i, i < M → ad1 i = ad i) : pool ad1 M F = pool ad M F := by
  apply List.ext_getElem?
  intro k
  by_cases c : k < M
  · rw [pool_at c, pool_at c, h k c]
  · rw [List.getElem?_eq_none (by rw [pool_len]; omega), List.getElem?_eq_none (by rw [pool_len]; omega)]
/-- a contract that makes k cells -/
abbrev CN (l : Launch) (y : MethodName) (ws : List Cond) (rm : Room) (av : List Value) (D : va_G) (ty : Nat → ClassId) (ad : Nat → Nat) (M : Nat) (F : Nat → va_E) (sz k mc ms : Nat) (post : (Nat → Nat) × (Nat → va_E) → Prop) : Prop :=
  Met l y ws rm (va_Pc av (pPre D classes (tysL ty) ad M F sz)) (va_Qv (fun u : (Nat → Nat) × (Nat → va_E) => (∀ i, i < M → u.1 i = ad i) ∧ post u) (fun u => pAt D classes (tysL ty) u.1 (M + k) (pA ad M sz) u.2) (pA ad M sz)) mc ms (pA ad M sz)
section PN
variable {p : Program} {l : Launch} {e : Env} {R : Room} {s : State} {m : MethodId} {args : Array Value} {below : List Frame} {meth : Method} {c : Code} {H : Heap} {locs : List Loc} {cells slots mc ms : Nat} {Q : State → Prop}
variable {D : va_G} {cl : List vw_C} {tys : List (ClassId × FieldType)} {ad : Nat → Nat} {M : Nat} {F : Nat → va_E} {A : Nat → Prop} {pc : Nat} {ls : Array Slot} {rest st0 : List Value} {cc : ByteArray} {a : Array Value}
theorem pw_new (hexec : p.tables.exec = Jvm.exec) (hb : c.code = cc) {own C : String} {T : u_T} {N ci index : Nat} {Ts : List Cond} (hts : ∀ w ∈ Ts, w.before args s = true) (hin : ∀ w ∈ u_ws C T N, w ∈ Ts) (ty9 : Nat → FieldType) (hty : ∀ k, k < N → parseFieldDescriptor (T k).2.2.1 = some (ty9 k)) (hown : s.vm.findClass own = some m.cls) (hcl : (Cond.classLink own index C).before args s = true) (hinst : (Cond.instantiable C N).before args s = true) (hini : (Cond.initialized C).before args s = true)
    (hw : pw D cl tys ad M F A s H locs) (hc : cl[ci]? = some (C, T, N)) {fs : List Value} (hfs : ∀ j, j < N → defaultValue (ty9 j) = vp_V fs j) (hcells : cells + 1 ≤ R.cells) (hslots : slots + N ≤ R.slots) (hdg : decode cc pc = .ok (.new index, 3)) {j : Nat} (hj : j = M)
    (kk : ∀ (ad1 : Nat → Nat) (M1 : Nat) (F1 : Nat → va_E) (H1 : Heap), (∀ i, i < M → ad1 i = ad i) → M1 = M + 1 → F1 = va_up F j (.inr (ci, fs)) → pw D cl tys ad1 M1 F1 A s H1 locs → W p l e R s m args below meth c H1 locs (cells + 1) (slots + N) Q (F0 m (pc + 3) ls (.ref (ad1 j) :: rest))) :
    W p l e R s m args below meth c H locs cells slots Q (F0 m pc ls rest) := by
  subst hj
  refine va_new hexec hb hts hin ty9 hty hown hcl hinst hini hw.1 hw.2.1 hw.2.2.1 hw.2.2.2.1 hw.2.2.2.2 hc hfs hcells hslots hdg (fun q H1 hP hD hS => ?_)
  rw [pool_push] at hP hD
  have h := kk (va_up ad j q) (j + 1) _ H1 (fun i hi => va_up_ne ad q (by omega)) rfl rfl ⟨hw.1, hP, hD, hS, hw.2.2.2.2⟩
  rw [va_up_self] at h
  exact h
theorem va_K.arr {k : Nat} {cA cB : ClassId} {ty9 : FieldType} (hK : va_K D cl tys s) (hk : tys[k]? = some (cB, ty9)) (hne : ∀ C, ty9 ≠ .object C) (hne2 : ∀ C, ty9 ≠ .array C) (h : va_RA s cA ty9) : cA = cB := by
  have h2 := (hK.2 k _ hk).2
  cases ty9 <;> first | (exact absurd rfl (hne _)) | (exact absurd rfl (hne2 _)) | (exact Option.some.inj (Eq.trans (Eq.symm h) h2))
theorem pw_newa (hexec : p.tables.exec = Jvm.exec) (hb : c.code = cc) {atype : ArrayType} (harr : (Cond.arrayClass (newarray.typeOf atype)).before args s = true) {ty9 : FieldType} (hty : newarray.typeOf atype = ty9) (hw : pw D cl tys ad M F A s H locs) {k : Nat} {cB : ClassId} (hk : tys[k]? = some (cB, ty9)) (hne : ∀ C, ty9 ≠ .object C) (hne2 : ∀ C, ty9 ≠ .array C)
    {n : Int32} {N' : Nat} {a0 : vp_A} (ha : ∀ cA : ClassId, vp_cell cA a0 = arrV cA N' (fun _ => defaultValue ty9)) (hn : ¬ n < 0) (hN : n.toNatClampNeg = N') (hbytes : N' * componentBytes ty9 ≤ 536870912) (hcells : cells + 1 ≤ R.cells) (hslots : slots + N' ≤ R.slots) (hdg : decode cc pc = .ok (.newarray atype, 2)) {j : Nat} (hj : j = M)
    (kk : ∀ (ad1 : Nat → Nat) (M1 : Nat) (F1 : Nat → va_E) (H1 : Heap), (∀ i, i < M → ad1 i = ad i) → M1 = M + 1 → F1 = va_up F j (.inl (cB, a0)) → pw D cl tys ad1 M1 F1 A s H1 locs → W p l e R s m args below meth c H1 locs (cells + 1) (slots + N') Q (F0 m (pc + 2) ls (.ref (ad1 j) :: rest))) :
    W p l e R s m args below meth c H locs cells slots Q (F0 m pc ls (.int n :: rest)) := by
  subst hj
  refine va_newa hexec hb harr hty hw.1 hw.2.1 hw.2.2.1 hw.2.2.2.1 hw.2.2.2.2 ha hn hN hbytes hcells hslots hdg (fun q cA H1 hK9 hP hD hS => ?_)
  have hRA : va_RA s cA ty9 := (hK9.2 tys.length (cA, ty9) (by simp)).2
  have e := va_K.arr hw.1 hk hne hne2 hRA
  subst e
  rw [pool_push] at hP hD
  have h := kk (va_up ad j q) (j + 1) _ H1 (fun i hi => va_up_ne ad q (by omega)) rfl rfl ⟨hw.1, hP, hD, hS, hw.2.2.2.2⟩
  rw [va_up_self] at h
  exact h
theorem pw_newq (hexec : p.tables.exec = Jvm.exec) (hb : c.code = cc) {own C : String} {index : Nat} (hown : s.vm.findClass own = some m.cls) (hclink : (Cond.classLink own index C).before args s = true) (hover : va_AO C s) (hw : pw D cl tys ad M F A s H locs) {k : Nat} {cB : ClassId} (hk : tys[k]? = some (cB, .object C))
    {n : Int32} {N' : Nat} (hn : ¬ n < 0) (hN : n.toNatClampNeg = N') (hbytes : N' * 4 ≤ 536870912) (hcells : cells + 1 ≤ R.cells) (hslots : slots + N' ≤ R.slots) (hdg : decode cc pc = .ok (.anewarray index, 3)) {j : Nat} (hj : j = M)
    (kk : ∀ (ad1 : Nat → Nat) (M1 : Nat) (F1 : Nat → va_E) (H1 : Heap), (∀ i, i < M → ad1 i = ad i) → M1 = M + 1 → F1 = va_up F j (.inl (cB, N', .inr (.inr (.inr (.inr (fun _ => none)))))) → pw D cl tys ad1 M1 F1 A s H1 locs → W p l e R s m args below meth c H1 locs (cells + 1) (slots + N') Q (F0 m (pc + 3) ls (.ref (ad1 j) :: rest))) :
    W p l e R s m args below meth c H locs cells slots Q (F0 m pc ls (.int n :: rest)) := by
  subst hj
  refine va_newq hexec hb hown hclink hover hw.1 hw.2.1 hw.2.2.1 hw.2.2.2.1 hw.2.2.2.2 hn hN hbytes hcells hslots hdg (fun q cA H1 hK9 hP hD hS => ?_)
  have hRA : va_RA s cA (.object C) := (hK9.2 tys.length (cA, .object C) (by simp)).2
  have hRB := (hw.1.2 k _ hk).2
  obtain ⟨_, _, _, _, _, f1⟩ := hRA
  obtain ⟨_, _, _, _, _, f2⟩ := hRB
  have e : cA = cB := Option.some.inj (f1.symm.trans f2)
  subst e
  rw [pool_push] at hP hD
  have h := kk (va_up ad j q) (j + 1) _ H1 (fun i hi => va_up_ne ad q (by omega)) rfl rfl ⟨hw.1, hP, hD, hS, hw.2.2.2.2⟩
  rw [va_up_self] at h
  exact h
theorem pw_calln {k : Nat} {post : (Nat → Nat) × (Nat → va_E) → Prop} (hw : pw D cl tys ad M F A s H locs)
    (hr : va_Run p l e R s m args below meth c H locs cells slots mc ms (F0 m pc ls st0) rest (va_Qv (fun u : (Nat → Nat) × (Nat → va_E) => (∀ i, i < M → u.1 i = ad i) ∧ post u) (fun u => pAt D cl tys u.1 (M + k) (pA ad M H.size) u.2) (pA ad M H.size) a) (pA ad M H.size))
    (kk : ∀ (ad1 : Nat → Nat) (M1 : Nat) (F1 : Nat → va_E) (H1 : Heap) (locs1 : List Loc), (∀ i, i < M → ad1 i = ad i) → M1 = M + k → post (ad1, F1) → pw D cl tys ad1 M1 F1 A s H1 locs1 → W p l e R s m args below meth c H1 locs1 (cells + mc) (slots + ms) Q (F0 m (pc + 3) ls rest)) :
    W p l e R s m args below meth c H locs cells slots Q (F0 m pc ls st0) := by
  have hf := hw.free
  refine va_callv hr hw.2.2.2.1 (fun q _ h => hf q h) hf (fun u t H1 locs1 ht hvm hp hB _ _ hS1 => kk u.1 (M + k) u.2 H1 locs1 hp.1 rfl hp.2 ⟨hw.1, ?_, ?_, hS1, hw.2.2.2.2⟩)
  · rw [← ht]; exact hB.1
  · have h1 := pool_D.mp hB.2.2
    exact pool_D.mpr ⟨h1.1, fun i hi => hf _ (h1.2 i hi)⟩
theorem pw_nret {ad0 : Nat → Nat} {M0 k : Nat} {post : (Nat → Nat) × (Nat → va_E) → Prop} (hexec : p.tables.exec = Jvm.exec) (hb : c.code = cc) (hr : meth.sig.returnType = none) (hlocks : meth.locks = false) (hw : pw D cl tys ad M F (pA ad0 M0 s.heap.size) s H locs) (hM : M = M0 + k) (had : ∀ i, i < M0 → ad i = ad0 i) (hp : post (ad, F)) (hdg : decode cc pc = .ok (.return_, 1)) :
    W p l e R s m args below meth c H locs cells slots (MQ below (va_Qv (fun u : (Nat → Nat) × (Nat → va_E) => (∀ i, i < M0 → u.1 i = ad0 i) ∧ post u) (fun u => pAt D cl tys u.1 (M0 + k) (pA ad0 M0 s.heap.size) u.2) (pA ad0 M0 s.heap.size)) args s cells slots (pA ad0 M0 s.heap.size)) (F0 m pc ls []) := by
  subst hM
  exact W.vret hexec hb hr (fun t ht hW => ⟨⟨(ad, F), rfl, ⟨had, hp⟩, hw.at ht hW⟩, hw.fin ht⟩) hw.2.2.2.1.2.2 hdg hlocks
theorem pw_lald (hexec : p.tables.exec = Jvm.exec) (hb : c.code = cc) (hw : pw D cl tys ad M F A s H locs) (t0 : Nat) {j : Nat} {cA : ClassId} {n : Nat} {f : Nat → Int64} (hj : j < M) (hF : F j = .inl (cA, n, .inr (.inl f))) (ht : tys[t0]? = some (cA, .long)) {i : Int32} {k : Nat} (hin : vp_in i n) (hk : i.toNatClampNeg = k) (hdg : decode cc pc = .ok (.laload, 1))
    (kk : W p l e R s m args below meth c H locs cells slots Q (F0 m (pc + 1) ls (.long (f k) :: rest))) : W p l e R s m args below meth c H locs cells slots Q (F0 m pc ls (.int i :: .ref (ad j) :: rest)) :=
  va_lald hexec hb hw.1 hw.2.1 j t0 (pool_ate hj hF) ht hin hdg (by rw [hk]; exact kk)
theorem pw_last (hexec : p.tables.exec = Jvm.exec) (hb : c.code = cc) (hw : pw D cl tys ad M F A s H locs) (t0 : Nat) {j : Nat} {cA : ClassId} {n : Nat} {f : Nat → Int64} (hj : j < M) (hF : F j = .inl (cA, n, .inr (.inl f))) (ht : tys[t0]? = some (cA, .long)) {i : Int32} {x : Int64} {k : Nat} (hin : vp_in i n) (hk : i.toNatClampNeg = k) (hdg : decode cc pc = .ok (.lastore, 1))
    (kk : ∀ (F1 : Nat → va_E) (H1 : Heap) (locs1 : List Loc), F1 = va_up F j (.inl (cA, n, .inr (.inl (vp_updL f k x)))) → pw D cl tys ad M F1 A s H1 locs1 → W p l e R s m args below meth c H1 locs1 cells slots Q (F0 m (pc + 1) ls rest)) : W p l e R s m args below meth c H locs cells slots Q (F0 m pc ls (.long x :: .int i :: .ref (ad j) :: rest)) := by
  refine va_last hexec hb hw.1 hw.2.1 hw.2.2.1 hw.2.2.2.1 j t0 (pool_ate hj hF) ht hin hdg (fun H1 locs1 hP hD hS => kk _ H1 locs1 rfl ⟨hw.1, ?_, ?_, hS, hw.2.2.2.2⟩)
  · rw [pool_set, hk] at hP; exact hP
  · rw [pool_set, hk] at hD; exact hD
end PN
theorem Wok_0 (N : Nat) : Wok N 0 (fun _ => iI 0) 0 := ⟨Nat.zero_le _, fun i hi => absurd hi (Nat.not_lt_zero _), Or.inl rfl, rfl⟩
theorem Wv.ad {ty : Nat → ClassId} {ad ad1 : Nat → Nat} {F F1 : Nat → va_E} {w N v : Nat} (h : Wv ty ad F w N v) (e0 : F1 w = F w) (e1 : F1 (w + 1) = F (w + 1)) (ea : ad1 (w + 1) = ad (w + 1)) : Wv ty ad1 F1 w N v := by
  obtain ⟨n, g, ⟨h1, h2⟩, h3⟩ := h
  exact ⟨n, g, ⟨by rw [e0, h1, oW, oW, ea], e1.trans h2⟩, h3⟩
theorem Wa.ad {ty : Nat → ClassId} {ad ad1 : Nat → Nat} {F F1 : Nat → va_E} {w N : Nat} (h : Wa ty ad F w N) (e0 : F1 w = F w) (e1 : F1 (w + 1) = F (w + 1)) (ea : ad1 (w + 1) = ad (w + 1)) : Wa ty ad1 F1 w N := by
  obtain ⟨n, g, h1, h2⟩ := h
  exact ⟨n, g, by rw [e0, h1, oW, oW, ea], e1.trans h2⟩
def g0 : Sg := (fun _ => 0, fun _ => 1, 0, fun _ => 0, -1)
theorem g0_ok : okS g0 := ⟨fun i _ => ⟨sm_0, sm_1, Nat.one_pos, Nat.gcd_one_right _⟩, Nat.zero_le _, fun i hi => absurd hi (Nat.not_lt_zero _), by decide, by decide⟩
theorem frz.ad {ty : Nat → ClassId} {ad ad1 : Nat → Nat} {F F1 : Nat → va_E} {x : Nat} {z : Int} {b : Nat} (h : frz ty ad F x z b) (e : ∀ y, x ≤ y → y ≤ x + 4 → F1 y = F y) (ea : ∀ y, x ≤ y → y ≤ x + 4 → ad1 y = ad y) : frz ty ad1 F1 x z b := by
  obtain ⟨h1, h2, h3, h4⟩ := h
  refine ⟨h1, ?_, h3.ad (e _ (by omega) (by omega)) (e _ (by omega) (by omega)) (ea _ (by omega) (by omega)), h4.ad (e _ (by omega) (by omega)) (e _ (by omega) (by omega)) (ea _ (by omega) (by omega))⟩
  rw [e x (by omega) (by omega), h2, oF, oF, ea (x + 1) (by omega) (by omega), ea (x + 3) (by omega) (by omega)]
theorem frz_new {ty : Nat → ClassId} {ad : Nat → Nat} {F : Nat → va_E} {x : Nat} (h1 : F x = oF ad x 0) (h2 : Wv ty ad F (x + 1) 67 0) (h3 : Wv ty ad F (x + 3) 67 1) : frz ty ad F x 0 1 := ⟨by decide, h1, h2, h3⟩
def RgK (ty : Nat → ClassId) (ad : Nat → Nat) (F : Nat → va_E) (i : Nat) : Prop := ∀ k, k < i → frz ty ad F (2 + 5 * k) 0 1
theorem RgK.mv {ty : Nat → ClassId} {ad : Nat → Nat} {F F1 : Nat → va_E} {i : Nat} (h : RgK ty ad F i) (e : ∀ y, 2 ≤ y → y < 2 + 5 * i → F1 y = F y) : RgK ty ad F1 i := fun k hk => (h k hk).mv (fun y h1 h2 => e y (by omega) (by omega))
theorem RgK.ad {ty : Nat → ClassId} {ad ad1 : Nat → Nat} {F F1 : Nat → va_E} {i : Nat} (h : RgK ty ad F i) (e : ∀ y, 2 ≤ y → y < 2 + 5 * i → F1 y = F y) (ea : ∀ y, 2 ≤ y → y < 2 + 5 * i → ad1 y = ad y) : RgK ty ad1 F1 i := fun k hk => (h k hk).ad (fun y h1 h2 => e y (by omega) (by omega)) (fun y h1 h2 => ea y (by omega) (by omega))
theorem RgK.add {ty : Nat → ClassId} {ad : Nat → Nat} {F : Nat → va_E} {i : Nat} (h : RgK ty ad F i) (h1 : frz ty ad F (2 + 5 * i) 0 1) : RgK ty ad F (i + 1) := fun k hk => by
  by_cases c : k = i
  · rw [c]; exact h1
  · exact h k (by omega)
theorem Nm_0 {ty : Nat → ClassId} {F : Nat → va_E} {j : Nat} (h : MA ty F (fun _ => iI 0) (fun _ => iI 0) (fun _ => iI 0)) : Nm ty F j 0 := ⟨_, _, _, h, ⟨0, rfl, by omega, fun i hi => absurd hi (by omega), Or.inl rfl, rfl⟩, rfl⟩
theorem Bn.ad {ty : Nat → ClassId} {ad ad1 : Nat → Nat} {F F1 : Nat → va_E} (h : Bn ty ad F) (e : ∀ y, 82 ≤ y → y ≤ 95 → F1 y = F y) (ea : ∀ y, 82 ≤ y → y ≤ 95 → ad1 y = ad y) : Bn ty ad1 F1 := by
  obtain ⟨⟨bb, h1, h2⟩, h3, h4, h5, h6, h7, ⟨f, g, hh, k, h8⟩, h9⟩ := h
  refine ⟨⟨bb, h1, ?_⟩, h3.ad (e _ (by omega) (by omega)) (e _ (by omega) (by omega)) (ea _ (by omega) (by omega)), h4.ad (e _ (by omega) (by omega)) (e _ (by omega) (by omega)) (ea _ (by omega) (by omega)), h5.ad (e _ (by omega) (by omega)) (e _ (by omega) (by omega)) (ea _ (by omega) (by omega)), h6.ad (e _ (by omega) (by omega)) (e _ (by omega) (by omega)) (ea _ (by omega) (by omega)), h7.ad (e _ (by omega) (by omega)) (e _ (by omega) (by omega)) (ea _ (by omega) (by omega)), ⟨f, g, hh, k, ?_⟩, h9.ad (e _ (by omega) (by omega)) (e _ (by omega) (by omega)) (ea _ (by omega) (by omega))⟩
  · rw [e 82 (by omega) (by omega), h2, oB, oB, ea 83 (by omega) (by omega), ea 85 (by omega) (by omega), ea 87 (by omega) (by omega), ea 89 (by omega) (by omega), ea 91 (by omega) (by omega), ea 93 (by omega) (by omega)]
  · rw [e 93 (by omega) (by omega), h8, ea (93 + 1) (by omega) (by omega)]
/-- a contract that makes k cells, and an array of fractions -/
abbrev CNq (l : Launch) (y : MethodName) (ws : List Cond) (rm : Room) (av : List Value) (D : va_G) (ty : Nat → ClassId) (ad : Nat → Nat) (M : Nat) (F : Nat → va_E) (sz k mc ms : Nat) (post : (Nat → Nat) × (Nat → va_E) → Prop) : Prop :=
  Met l y ws rm (va_Pc av (fun U => pPre D classes (tysL ty) ad M F sz U ∧ va_AO R_F U)) (va_Qv (fun u : (Nat → Nat) × (Nat → va_E) => (∀ i, i < M → u.1 i = ad i) ∧ post u) (fun u => pAt D classes (tysL ty) u.1 (M + k) (pA ad M sz) u.2) (pA ad M sz)) mc ms (pA ad M sz)
theorem pw_preSq {s : State} {H : Heap} {locs : List Loc} {D : va_G} {cl : List vw_C} {tys : List (ClassId × FieldType)} {ad : Nat → Nat} {M : Nat} {F : Nat → va_E} {A : Nat → Prop} (hw : pw D cl tys ad M F A s H locs) (hA : va_AO R_F s) {As : List Value} : PreS s H (va_Pc As (fun U => pPre D cl tys ad M F H.size U ∧ va_AO R_F U)) As := by
  refine ⟨fun a U g mk q => ?_, fun U hU hW => ?_⟩
  · obtain ⟨q0, q1, q2⟩ := q
    obtain ⟨r0, r1⟩ := pw_blind (D := D) (cl := cl) (tys := tys) (ad := ad) (M := M) (F := F) As H.size a U g mk ⟨q0, q1⟩
    exact ⟨r0, r1, va_AO.moved (u := U) (U := U.calling g mk a) (Vm.Alike.refl U.vm) q2⟩
  · obtain ⟨r0, r1⟩ := pw_pre hw As U hU hW
    exact ⟨r0, r1, va_AO.moved hW.alike hA⟩
