/-! the pool: the system's cells by their numbers: cell i lies at address ad i and holds F i -/
def pool (ad : Nat → Nat) (M : Nat) (F : Nat → va_E) : va_W := (List.range M).map (fun i => (ad i, F i))
theorem pool_at {ad : Nat → Nat} {M : Nat} {F : Nat → va_E} {i : Nat} (h : i < M) : (pool ad M F)[i]? = some (ad i, F i) := by
  simp [pool, h]
theorem pool_ate {ad : Nat → Nat} {M : Nat} {F : Nat → va_E} {i : Nat} {x : va_E} (h : i < M) (e : F i = x) : (pool ad M F)[i]? = some (ad i, x) := by
  rw [← e]; exact pool_at h
theorem pool_some {ad : Nat → Nat} {M : Nat} {F : Nat → va_E} {i : Nat} {q : Nat × va_E} (h : (pool ad M F)[i]? = some q) : i < M ∧ q = (ad i, F i) := by
  by_cases c : i < M
  · rw [pool_at c] at h
    exact ⟨c, (Option.some.inj h).symm⟩
  · rw [List.getElem?_eq_none (by simp [pool]; omega)] at h
    cases h
theorem pool_len (ad : Nat → Nat) (M : Nat) (F : Nat → va_E) : (pool ad M F).length = M := by simp [pool]
theorem pool_set {ad : Nat → Nat} {M : Nat} {F : Nat → va_E} {i : Nat} {x : va_E} : (pool ad M F).set i (ad i, x) = pool ad M (va_up F i x) := by
  apply List.ext_getElem?
  intro k
  by_cases hk : k < M
  · rw [pool_at hk, List.getElem?_set, pool_len]
    by_cases c : i = k
    · subst c
      rw [if_pos rfl, if_pos hk, va_up_self]
    · rw [if_neg c, pool_at hk, va_up_ne F x (fun h => c h.symm)]
  · rw [List.getElem?_eq_none (by simp [pool]; omega), List.getElem?_eq_none (by simp [pool]; omega)]
theorem pool_push {ad : Nat → Nat} {M : Nat} {F : Nat → va_E} {q : Nat} {x : va_E} : pool ad M F ++ [(q, x)] = pool (va_up ad M q) (M + 1) (va_up F M x) := by
  apply List.ext_getElem?
  intro k
  rcases Nat.lt_trichotomy k M with h | h | h
  · rw [List.getElem?_append_left (by rw [pool_len]; exact h), pool_at h, pool_at (by omega), va_up_ne ad q (by omega), va_up_ne F x (by omega)]
  · subst h
    rw [List.getElem?_append_right (by rw [pool_len]; exact Nat.le_refl _), pool_len, pool_at (by omega), va_up_self, va_up_self]
    simp
  · rw [List.getElem?_eq_none (by simp [pool]; omega), List.getElem?_eq_none (by simp [pool]; omega)]
/-- what a method may write: the pool's cells, and what is new -/
def pA (ad : Nat → Nat) (M sz : Nat) : Nat → Prop := fun q => (∃ i, i < M ∧ q = ad i) ∨ sz ≤ q
theorem pool_D {A : Nat → Prop} {ad : Nat → Nat} {M : Nat} {F : Nat → va_E} : va_D A (pool ad M F) ↔ (∀ i j : Nat, i < M → j < M → ad i = ad j → i = j) ∧ ∀ i : Nat, i < M → A (ad i) := by
  constructor
  · intro h
    exact ⟨fun i j hi hj e => h.1 i j _ _ (pool_at hi) (pool_at hj) e, fun i hi => h.2 i _ (pool_at hi)⟩
  · intro h
    refine ⟨fun i j p q hp hq e => ?_, fun k q hq => ?_⟩
    · obtain ⟨hi, rfl⟩ := pool_some hp
      obtain ⟨hj, rfl⟩ := pool_some hq
      exact h.1 i j hi hj e
    · obtain ⟨hk, rfl⟩ := pool_some hq
      exact h.2 k hk
/-- the world inside a walk -/
def pw (D : va_G) (cl : List vw_C) (tys : List (ClassId × FieldType)) (ad : Nat → Nat) (M : Nat) (F : Nat → va_E) (A : Nat → Prop) (s : State) (H : Heap) (locs : List Loc) : Prop :=
  va_K D cl tys s ∧ va_P D cl (pool ad M F) H ∧ va_D A (pool ad M F) ∧ va_S A s.heap H locs ∧ ∀ q : Nat, s.heap.size ≤ q → A q
/-- the world at a contract's start and end -/
abbrev pPre (D : va_G) (cl : List vw_C) (tys : List (ClassId × FieldType)) (ad : Nat → Nat) (M : Nat) (F : Nat → va_E) (sz : Nat) : State → Prop := fun U => U.heap.size = sz ∧ va_P D cl (pool ad M F) U.heap ∧ va_K D cl tys U ∧ va_D (fun _ => True) (pool ad M F)
abbrev pAt (D : va_G) (cl : List vw_C) (tys : List (ClassId × FieldType)) (ad : Nat → Nat) (M : Nat) (A : Nat → Prop) (F : Nat → va_E) (t : State) : Prop := va_P D cl (pool ad M F) t.heap ∧ va_K D cl tys t ∧ va_D A (pool ad M F)
abbrev pAtR (D : va_G) (cl : List vw_C) (tys : List (ClassId × FieldType)) (ad : Nat → Nat) (M : Nat) (A : Nat → Prop) (u : Nat × (Nat → va_E)) (a : Nat) (t : State) : Prop := a = ad u.1 ∧ pAt D cl tys ad M A u.2 t
section PW
variable {p : Program} {l : Launch} {e : Env} {R : Room} {s : State} {m : MethodId} {args : Array Value} {below : List Frame} {meth : Method} {c : Code} {H : Heap} {locs : List Loc} {cells slots mc ms : Nat} {Q : State → Prop}
variable {D : va_G} {cl : List vw_C} {tys : List (ClassId × FieldType)} {ad : Nat → Nat} {M : Nat} {F : Nat → va_E} {A : Nat → Prop} {pc : Nat} {ls : Array Slot} {rest st0 : List Value} {cc : ByteArray} {a : Array Value}
theorem pw_start (hP : va_P D cl (pool ad M F) s.heap) (hK : va_K D cl tys s) (hD : va_D (fun _ => True) (pool ad M F)) : pw D cl tys ad M F (pA ad M s.heap.size) s s.heap [] :=
  ⟨hK, hP, pool_D.mpr ⟨(pool_D.mp hD).1, fun i hi => Or.inl ⟨i, hi, rfl⟩⟩, va_S.rf, fun _ h => Or.inr h⟩
theorem pw.ne (hw : pw D cl tys ad M F A s H locs) {i j : Nat} (hi : i < M) (hj : j < M) (h : i ≠ j) : ad i ≠ ad j := fun q => h ((pool_D.mp hw.2.2.1).1 i j hi hj q)
theorem pw.free (hw : pw D cl tys ad M F A s H locs) : ∀ q : Nat, pA ad M H.size q → A q := by
  intro q h
  rcases h with ⟨i, hi, rfl⟩ | h
  · exact (pool_D.mp hw.2.2.1).2 i hi
  · exact hw.2.2.2.2 q (Nat.le_trans hw.2.2.2.1.1 h)
theorem pw.fin {st t : State} {B : Nat → Prop} (hw : pw D cl tys ad M F B st H locs) (ht : t.heap = H) : va_F B st t := hw.2.2.2.1.F ht
theorem pw.at {t : State} (hw : pw D cl tys ad M F A s H locs) (ht : t.heap = H) (hW : s.WarmedH t.vm) : pAt D cl tys ad M A F t :=
  ⟨by rw [ht]; exact hw.2.1, va_K.moved hW.alike hw.1, hw.2.2.1⟩
/-- calls -/
theorem pw_calli {post : Int32 → (Nat → va_E) → Prop} (hw : pw D cl tys ad M F A s H locs)
    (hr : va_Run p l e R s m args below meth c H locs cells slots mc ms (F0 m pc ls st0) rest (va_Qi post (pAt D cl tys ad M (pA ad M H.size)) (pA ad M H.size) a) (pA ad M H.size))
    (kk : ∀ (r : Int32) (F1 : Nat → va_E) (H1 : Heap) (locs1 : List Loc), post r F1 → pw D cl tys ad M F1 A s H1 locs1 → W p l e R s m args below meth c H1 locs1 (cells + mc) (slots + ms) Q (F0 m (pc + 3) ls (.int r :: rest))) :
    W p l e R s m args below meth c H locs cells slots Q (F0 m pc ls st0) := by
  have hf := hw.free
  refine va_calli hr hw.2.2.2.1 (fun q _ h => hf q h) hf (fun r u t H1 locs1 ht hvm hp hB _ _ hS1 => kk r u H1 locs1 hp ⟨hw.1, ?_, ?_, hS1, hw.2.2.2.2⟩)
  · rw [← ht]; exact hB.1
  · exact pool_D.mpr (pool_D.mp hw.2.2.1)
theorem pw_calll {post : Int64 → (Nat → va_E) → Prop} (hw : pw D cl tys ad M F A s H locs)
    (hr : va_Run p l e R s m args below meth c H locs cells slots mc ms (F0 m pc ls st0) rest (va_Ql post (pAt D cl tys ad M (pA ad M H.size)) (pA ad M H.size) a) (pA ad M H.size))
    (kk : ∀ (r : Int64) (F1 : Nat → va_E) (H1 : Heap) (locs1 : List Loc), post r F1 → pw D cl tys ad M F1 A s H1 locs1 → W p l e R s m args below meth c H1 locs1 (cells + mc) (slots + ms) Q (F0 m (pc + 3) ls (.long r :: rest))) :
    W p l e R s m args below meth c H locs cells slots Q (F0 m pc ls st0) := by
  have hf := hw.free
  refine va_calll hr hw.2.2.2.1 (fun q _ h => hf q h) hf (fun r u t H1 locs1 ht hvm hp hB _ _ hS1 => kk r u H1 locs1 hp ⟨hw.1, ?_, ?_, hS1, hw.2.2.2.2⟩)
  · rw [← ht]; exact hB.1
  · exact pool_D.mpr (pool_D.mp hw.2.2.1)
theorem pw_callv {post : (Nat → va_E) → Prop} (hw : pw D cl tys ad M F A s H locs)
    (hr : va_Run p l e R s m args below meth c H locs cells slots mc ms (F0 m pc ls st0) rest (va_Qv post (pAt D cl tys ad M (pA ad M H.size)) (pA ad M H.size) a) (pA ad M H.size))
    (kk : ∀ (F1 : Nat → va_E) (H1 : Heap) (locs1 : List Loc), post F1 → pw D cl tys ad M F1 A s H1 locs1 → W p l e R s m args below meth c H1 locs1 (cells + mc) (slots + ms) Q (F0 m (pc + 3) ls rest)) :
    W p l e R s m args below meth c H locs cells slots Q (F0 m pc ls st0) := by
  have hf := hw.free
  refine va_callv hr hw.2.2.2.1 (fun q _ h => hf q h) hf (fun u t H1 locs1 ht hvm hp hB _ _ hS1 => kk u H1 locs1 hp ⟨hw.1, ?_, ?_, hS1, hw.2.2.2.2⟩)
  · rw [← ht]; exact hB.1
  · exact pool_D.mpr (pool_D.mp hw.2.2.1)
theorem pw_callr {post : Nat × (Nat → va_E) → Prop} (hw : pw D cl tys ad M F A s H locs)
    (hr : va_Run p l e R s m args below meth c H locs cells slots mc ms (F0 m pc ls st0) rest (va_Qr post (pAtR D cl tys ad M (pA ad M H.size)) (pA ad M H.size) a) (pA ad M H.size))
    (kk : ∀ (i : Nat) (F1 : Nat → va_E) (H1 : Heap) (locs1 : List Loc), post (i, F1) → pw D cl tys ad M F1 A s H1 locs1 → W p l e R s m args below meth c H1 locs1 (cells + mc) (slots + ms) Q (F0 m (pc + 3) ls (.ref (ad i) :: rest))) :
    W p l e R s m args below meth c H locs cells slots Q (F0 m pc ls st0) := by
  have hf := hw.free
  refine va_callr hr hw.2.2.2.1 (fun q _ h => hf q h) hf (fun u ra t H1 locs1 ht hvm hp hB _ _ hS1 => ?_)
  obtain ⟨i, F1⟩ := u
  obtain ⟨rfl, hB⟩ := hB
  refine kk i F1 H1 locs1 hp ⟨hw.1, ?_, ?_, hS1, hw.2.2.2.2⟩
  · rw [← ht]; exact hB.1
  · exact pool_D.mpr (pool_D.mp hw.2.2.1)
theorem pw_blind (As : List Value) (sz : Nat) : FrameBlind (va_Pc As (pPre D cl tys ad M F sz)) := fun a U g mk q => by
  obtain ⟨q0, q1, qP, qK, qD⟩ := q
  exact ⟨q0, q1, qP, va_K.moved (u := U) (U := U.calling g mk a) (Vm.Alike.refl U.vm) qK, qD⟩
theorem pw_pre (hw : pw D cl tys ad M F A s H locs) (As : List Value) (U : State) (hU : U.heap = H) (hW : s.WarmedH U.vm) : va_Pc As (pPre D cl tys ad M F H.size) As.toArray U :=
  ⟨rfl, by rw [hU], by rw [hU]; exact hw.2.1, va_K.moved hW.alike hw.1, pool_D.mpr ⟨(pool_D.mp hw.2.2.1).1, fun _ _ => trivial⟩⟩
theorem pw_preV (hw : pw D cl tys ad M F A s H locs) {i ci : Nat} {fs : List Value} {r : vw_C} {As : List Value} (hi : i < M) (hF : F i = .inr (ci, fs)) (hc : cl[ci]? = some r) : PreV s H r.1 (ad i) (va_Pc (.ref (ad i) :: As) (pPre D cl tys ad M F H.size)) As :=
  ⟨pw_blind _ _, va_recv hw.1 hw.2.1 hc (pool_ate hi hF), fun U hU hW => pw_pre hw _ U hU hW⟩
theorem pw_preS (hw : pw D cl tys ad M F A s H locs) {As : List Value} : PreS s H (va_Pc As (pPre D cl tys ad M F H.size)) As :=
  ⟨pw_blind _ _, fun U hU hW => pw_pre hw _ U hU hW⟩
/-- ends -/
theorem pw_iret {post : Int32 → (Nat → va_E) → Prop} {v : Int32} (hexec : p.tables.exec = Jvm.exec) (hb : c.code = cc) (hr : meth.sig.returnType = some .int) (hlocks : meth.locks = false) (hw : pw D cl tys ad M F (pA ad M s.heap.size) s H locs) (hp : post v F) (hdg : decode cc pc = .ok (.ireturn, 1)) :
    W p l e R s m args below meth c H locs cells slots (MQ below (va_Qi post (pAt D cl tys ad M (pA ad M s.heap.size)) (pA ad M s.heap.size)) args s cells slots (pA ad M s.heap.size)) (F0 m pc ls [.int v]) :=
  W.iret (v := v) hexec hb hr (fun t ht hW => ⟨⟨v, F, rfl, hp, hw.at ht hW⟩, hw.fin ht⟩) hw.2.2.2.1.2.2 hdg hlocks
theorem pw_zret {post : Int32 → (Nat → va_E) → Prop} {v : Int32} (hexec : p.tables.exec = Jvm.exec) (hb : c.code = cc) {ty : FieldType} (hr : meth.sig.returnType = some ty) (hn : narrow ty (.int v) = .int v) (hlocks : meth.locks = false) (hw : pw D cl tys ad M F (pA ad M s.heap.size) s H locs) (hp : post v F) (hdg : decode cc pc = .ok (.ireturn, 1)) :
    W p l e R s m args below meth c H locs cells slots (MQ below (va_Qi post (pAt D cl tys ad M (pA ad M s.heap.size)) (pA ad M s.heap.size)) args s cells slots (pA ad M s.heap.size)) (F0 m pc ls [.int v]) :=
  W.zret (v := v) hexec hb hr hn (fun t ht hW => ⟨⟨v, F, rfl, hp, hw.at ht hW⟩, hw.fin ht⟩) hw.2.2.2.1.2.2 hdg hlocks
theorem pw_lret {post : Int64 → (Nat → va_E) → Prop} {v : Int64} (hexec : p.tables.exec = Jvm.exec) (hb : c.code = cc) (hr : meth.sig.returnType = some .long) (hlocks : meth.locks = false) (hw : pw D cl tys ad M F (pA ad M s.heap.size) s H locs) (hp : post v F) (hdg : decode cc pc = .ok (.lreturn, 1)) :
    W p l e R s m args below meth c H locs cells slots (MQ below (va_Ql post (pAt D cl tys ad M (pA ad M s.heap.size)) (pA ad M s.heap.size)) args s cells slots (pA ad M s.heap.size)) (F0 m pc ls [.long v]) :=
  W.lret (v := v) hexec hb hr (fun t ht hW => ⟨⟨v, F, rfl, hp, hw.at ht hW⟩, hw.fin ht⟩) hw.2.2.2.1.2.2 hdg hlocks
theorem pw_vret {post : (Nat → va_E) → Prop} (hexec : p.tables.exec = Jvm.exec) (hb : c.code = cc) (hr : meth.sig.returnType = none) (hlocks : meth.locks = false) (hw : pw D cl tys ad M F (pA ad M s.heap.size) s H locs) (hp : post F) (hdg : decode cc pc = .ok (.return_, 1)) :
    W p l e R s m args below meth c H locs cells slots (MQ below (va_Qv post (pAt D cl tys ad M (pA ad M s.heap.size)) (pA ad M s.heap.size)) args s cells slots (pA ad M s.heap.size)) (F0 m pc ls []) :=
  W.vret hexec hb hr (fun t ht hW => ⟨⟨F, rfl, hp, hw.at ht hW⟩, hw.fin ht⟩) hw.2.2.2.1.2.2 hdg hlocks
theorem pw_aret {post : Nat × (Nat → va_E) → Prop} {i : Nat} {rt : FieldType} (hexec : p.tables.exec = Jvm.exec) (hb : c.code = cc) (hr : meth.sig.returnType = some rt) (hrt : (∃ n, rt = .object n) ∨ ∃ t, rt = .array t) (hlocks : meth.locks = false) (hw : pw D cl tys ad M F (pA ad M s.heap.size) s H locs) (hp : post (i, F)) (hdg : decode cc pc = .ok (.areturn, 1)) :
    W p l e R s m args below meth c H locs cells slots (MQ below (va_Qr post (pAtR D cl tys ad M (pA ad M s.heap.size)) (pA ad M s.heap.size)) args s cells slots (pA ad M s.heap.size)) (F0 m pc ls [.ref (ad i)]) :=
  W.aret (v := .ref (ad i)) hexec hb hr hrt (Or.inr ⟨_, rfl⟩) (fun t ht hW => ⟨⟨(i, F), ad i, rfl, hp, rfl, hw.at ht hW⟩, hw.fin ht⟩) hw.2.2.2.1.2.2 hdg hlocks
/-- fields and arrays -/
theorem pw_get (hexec : p.tables.exec = Jvm.exec) (hb : c.code = cc) {own ref C : String} {T : u_T} {N ci index i : Nat} {Ts : List Cond} (hts : ∀ w ∈ Ts, w.before args s = true) (hin : ∀ w ∈ u_ws C T N, w ∈ Ts) (hown : s.vm.findClass own = some m.cls) (hw : pw D cl tys ad M F A s H locs) {fs : List Value} (hi : i < M) (hF : F i = .inr (ci, fs)) (hc : cl[ci]? = some (C, T, N)) (k : Nat) (hk : k < N) (hlink : (Cond.fieldLink own index ref (T k).2.1 (T k).2.2.1).before args s = true) (hsame : ∀ x, s.fieldFound? (T k).1 (T k).2.1 (T k).2.2.1 = some x → s.fieldFound? ref (T k).2.1 (T k).2.2.1 = some x) {v : Value} (hv : fs[k]? = some v) (hdg : decode cc pc = .ok (.getfield index, 3))
    (kk : W p l e R s m args below meth c H locs cells slots Q (F0 m (pc + 3) ls (v :: rest))) : W p l e R s m args below meth c H locs cells slots Q (F0 m pc ls (.ref (ad i) :: rest)) :=
  va_get (D := D) (ci := ci) (v := v) hexec hb hts hin hown hw.1 hw.2.1 i (pool_ate hi hF) hc k hk hlink hsame hv hdg kk
theorem pw_put (hexec : p.tables.exec = Jvm.exec) (hb : c.code = cc) {own ref C : String} {T : u_T} {N ci index i : Nat} {Ts : List Cond} (hts : ∀ w ∈ Ts, w.before args s = true) (hin : ∀ w ∈ u_ws C T N, w ∈ Ts) (ty0 : Nat → FieldType) (hty : ∀ k, k < N → parseFieldDescriptor (T k).2.2.1 = some (ty0 k)) (hnm : ∀ a, a < N → ∀ b, b < N → a ≠ b → (T a).2.1 ≠ (T b).2.1) (hown : s.vm.findClass own = some m.cls) (hw : pw D cl tys ad M F A s H locs) {fs fs' : List Value} (hi : i < M) (hF : F i = .inr (ci, fs)) (hc : cl[ci]? = some (C, T, N)) (k : Nat) (hk : k < N) (hlink : (Cond.fieldLink own index ref (T k).2.1 (T k).2.2.1).before args s = true) (hsame : ∀ x, s.fieldFound? (T k).1 (T k).2.1 (T k).2.2.1 = some x → s.fieldFound? ref (T k).2.1 (T k).2.2.1 = some x) (hfin : (T k).2.2.2 = false) {ty : FieldType} {v : Value} (hd : parseFieldDescriptor (T k).2.2.1 = some ty) (hn : narrow ty v = v) (hfit : fits ty v = true) (hl : k < fs.length) (hfs : fs.set k v = fs') (hdg : decode cc pc = .ok (.putfield index, 3))
    (kk : ∀ (F1 : Nat → va_E) (H1 : Heap) (locs1 : List Loc), F1 = va_up F i (.inr (ci, fs')) → pw D cl tys ad M F1 A s H1 locs1 → W p l e R s m args below meth c H1 locs1 cells slots Q (F0 m (pc + 3) ls rest)) : W p l e R s m args below meth c H locs cells slots Q (F0 m pc ls (v :: .ref (ad i) :: rest)) := by
  refine va_put (D := D) (ci := ci) (v := v) (ty := ty) hexec hb hts hin ty0 hty hnm hown hw.1 hw.2.1 hw.2.2.1 hw.2.2.2.1 i (pool_ate hi hF) hc k hk hlink hsame hfin hd hn hfit hl hdg (fun H1 locs1 hP hD hS => kk _ H1 locs1 rfl ⟨hw.1, ?_, ?_, hS, hw.2.2.2.2⟩)
  · rw [pool_set, hfs] at hP; exact hP
  · rw [pool_set, hfs] at hD; exact hD
theorem pw_putF (hexec : p.tables.exec = Jvm.exec) (hb : c.code = cc) {own ref C : String} {T : u_T} {N ci index i : Nat} {Ts : List Cond} (hts : ∀ w ∈ Ts, w.before args s = true) (hin : ∀ w ∈ u_ws C T N, w ∈ Ts) (ty0 : Nat → FieldType) (hty : ∀ k, k < N → parseFieldDescriptor (T k).2.2.1 = some (ty0 k)) (hnm : ∀ a, a < N → ∀ b, b < N → a ≠ b → (T a).2.1 ≠ (T b).2.1) (hown : s.vm.findClass own = some m.cls) (hw : pw D cl tys ad M F A s H locs) {fs fs' : List Value} (hi : i < M) (hF : F i = .inr (ci, fs)) (hc : cl[ci]? = some (C, T, N)) (k : Nat) (hk : k < N) (hlink : (Cond.fieldLink own index ref (T k).2.1 (T k).2.2.1).before args s = true) (hsame : ∀ x, s.fieldFound? (T k).1 (T k).2.1 (T k).2.2.1 = some x → s.fieldFound? ref (T k).2.1 (T k).2.2.1 = some x) (hfin : (T k).2.2.2 = true) (hin2 : meth.name = "<init>") (hdecl : (T k).1 = own) {ty : FieldType} {v : Value} (hd : parseFieldDescriptor (T k).2.2.1 = some ty) (hn : narrow ty v = v) (hfit : fits ty v = true) (hl : k < fs.length) (hfs : fs.set k v = fs') (hdg : decode cc pc = .ok (.putfield index, 3))
    (kk : ∀ (F1 : Nat → va_E) (H1 : Heap) (locs1 : List Loc), F1 = va_up F i (.inr (ci, fs')) → pw D cl tys ad M F1 A s H1 locs1 → W p l e R s m args below meth c H1 locs1 cells slots Q (F0 m (pc + 3) ls rest)) : W p l e R s m args below meth c H locs cells slots Q (F0 m pc ls (v :: .ref (ad i) :: rest)) := by
  refine va_putF (D := D) (ci := ci) (v := v) (ty := ty) hexec hb hts hin ty0 hty hnm hown hw.1 hw.2.1 hw.2.2.1 hw.2.2.2.1 i (pool_ate hi hF) hc k hk hlink hsame hfin hin2 hdecl hd hn hfit hl hdg (fun H1 locs1 hP hD hS => kk _ H1 locs1 rfl ⟨hw.1, ?_, ?_, hS, hw.2.2.2.2⟩)
  · rw [pool_set, hfs] at hP; exact hP
  · rw [pool_set, hfs] at hD; exact hD
theorem pw_iald (hexec : p.tables.exec = Jvm.exec) (hb : c.code = cc) (hw : pw D cl tys ad M F A s H locs) (t0 : Nat) {j : Nat} {cA : ClassId} {n : Nat} {f : Nat → Int32} (hj : j < M) (hF : F j = .inl (cA, n, .inl f)) (ht : tys[t0]? = some (cA, .int)) {i : Int32} {k : Nat} (hin : vp_in i n) (hk : i.toNatClampNeg = k) (hdg : decode cc pc = .ok (.iaload, 1))
    (kk : W p l e R s m args below meth c H locs cells slots Q (F0 m (pc + 1) ls (.int (f k) :: rest))) : W p l e R s m args below meth c H locs cells slots Q (F0 m pc ls (.int i :: .ref (ad j) :: rest)) :=
  va_iald hexec hb hw.1 hw.2.1 j t0 (pool_ate hj hF) ht hin hdg (by rw [hk]; exact kk)
theorem pw_cald (hexec : p.tables.exec = Jvm.exec) (hb : c.code = cc) (hw : pw D cl tys ad M F A s H locs) (t0 : Nat) {j : Nat} {cA : ClassId} {n : Nat} {f : Nat → Int32} (hj : j < M) (hF : F j = .inl (cA, n, .inl f)) (ht : tys[t0]? = some (cA, .char)) {i : Int32} {k : Nat} (hin : vp_in i n) (hk : i.toNatClampNeg = k) (hdg : decode cc pc = .ok (.caload, 1))
    (kk : W p l e R s m args below meth c H locs cells slots Q (F0 m (pc + 1) ls (.int (f k) :: rest))) : W p l e R s m args below meth c H locs cells slots Q (F0 m pc ls (.int i :: .ref (ad j) :: rest)) :=
  va_cald hexec hb hw.1 hw.2.1 j t0 (pool_ate hj hF) ht hin hdg (by rw [hk]; exact kk)
theorem pw_iast (hexec : p.tables.exec = Jvm.exec) (hb : c.code = cc) (hw : pw D cl tys ad M F A s H locs) (t0 : Nat) {j : Nat} {cA : ClassId} {n : Nat} {f : Nat → Int32} (hj : j < M) (hF : F j = .inl (cA, n, .inl f)) (ht : tys[t0]? = some (cA, .int)) {i x : Int32} {k : Nat} (hin : vp_in i n) (hk : i.toNatClampNeg = k) (hdg : decode cc pc = .ok (.iastore, 1))
    (kk : ∀ (F1 : Nat → va_E) (H1 : Heap) (locs1 : List Loc), F1 = va_up F j (.inl (cA, n, .inl (upd f k x))) → pw D cl tys ad M F1 A s H1 locs1 → W p l e R s m args below meth c H1 locs1 cells slots Q (F0 m (pc + 1) ls rest)) : W p l e R s m args below meth c H locs cells slots Q (F0 m pc ls (.int x :: .int i :: .ref (ad j) :: rest)) := by
  refine va_iast hexec hb hw.1 hw.2.1 hw.2.2.1 hw.2.2.2.1 j t0 (pool_ate hj hF) ht hin hdg (fun H1 locs1 hP hD hS => kk _ H1 locs1 rfl ⟨hw.1, ?_, ?_, hS, hw.2.2.2.2⟩)
  · rw [pool_set, hk] at hP; exact hP
  · rw [pool_set, hk] at hD; exact hD
theorem pw_cast (hexec : p.tables.exec = Jvm.exec) (hb : c.code = cc) (hw : pw D cl tys ad M F A s H locs) (t0 : Nat) {j : Nat} {cA : ClassId} {n : Nat} {f : Nat → Int32} (hj : j < M) (hF : F j = .inl (cA, n, .inl f)) (ht : tys[t0]? = some (cA, .char)) {i x y : Int32} {k : Nat} (hin : vp_in i n) (hk : i.toNatClampNeg = k) (hy : vp_nar .char x = y) (hdg : decode cc pc = .ok (.castore, 1))
    (kk : ∀ (F1 : Nat → va_E) (H1 : Heap) (locs1 : List Loc), F1 = va_up F j (.inl (cA, n, .inl (upd f k y))) → pw D cl tys ad M F1 A s H1 locs1 → W p l e R s m args below meth c H1 locs1 cells slots Q (F0 m (pc + 1) ls rest)) : W p l e R s m args below meth c H locs cells slots Q (F0 m pc ls (.int x :: .int i :: .ref (ad j) :: rest)) := by
  refine va_cast hexec hb hw.1 hw.2.1 hw.2.2.1 hw.2.2.2.1 j t0 (pool_ate hj hF) ht hin hdg (fun H1 locs1 hP hD hS => kk _ H1 locs1 rfl ⟨hw.1, ?_, ?_, hS, hw.2.2.2.2⟩)
  · rw [pool_set, hk, hy] at hP; exact hP
  · rw [pool_set, hk, hy] at hD; exact hD
theorem pw_alen (hexec : p.tables.exec = Jvm.exec) (hb : c.code = cc) (hw : pw D cl tys ad M F A s H locs) (t0 : Nat) {j : Nat} {cA : ClassId} {x : vp_A} (hj : j < M) (hF : F j = .inl (cA, x)) {ty : FieldType} (ht : tys[t0]? = some (cA, ty)) {v : Int32} (hv : Int32.ofNat x.1 = v) (hdg : decode cc pc = .ok (.arraylength, 1))
    (kk : W p l e R s m args below meth c H locs cells slots Q (F0 m (pc + 1) ls (.int v :: rest))) : W p l e R s m args below meth c H locs cells slots Q (F0 m pc ls (.ref (ad j) :: rest)) :=
  va_alen hexec hb hw.1 hw.2.1 j t0 (pool_ate hj hF) ht hv hdg kk
theorem pw_aldq (hexec : p.tables.exec = Jvm.exec) (hb : c.code = cc) (hw : pw D cl tys ad M F A s H locs) (t0 : Nat) {j : Nat} {cA : ClassId} {C : String} {n : Nat} {f : Nat → Option Nat} (hj : j < M) (hF : F j = .inl (cA, n, .inr (.inr (.inr (.inr f))))) (ht : tys[t0]? = some (cA, .object C)) {i : Int32} {k r : Nat} (hin : vp_in i n) (hk : i.toNatClampNeg = k) (hf : f k = some r) (hdg : decode cc pc = .ok (.aaload, 1))
    (kk : W p l e R s m args below meth c H locs cells slots Q (F0 m (pc + 1) ls (.ref r :: rest))) : W p l e R s m args below meth c H locs cells slots Q (F0 m pc ls (.int i :: .ref (ad j) :: rest)) :=
  va_aldq hexec hb hw.1 hw.2.1 j t0 (pool_ate hj hF) ht hin hdg (by rw [hk, hf]; exact kk)
theorem pw_astq (hexec : p.tables.exec = Jvm.exec) (hb : c.code = cc) (hw : pw D cl tys ad M F A s H locs) (t0 : Nat) {j v ci : Nat} {cA : ClassId} {r : vw_C} {n : Nat} {vs : List Value} {f : Nat → Option Nat} (hj : j < M) (hF : F j = .inl (cA, n, .inr (.inr (.inr (.inr f))))) (ht : tys[t0]? = some (cA, .object r.1)) (hv : v < M) (hFv : F v = .inr (ci, vs)) (hc : cl[ci]? = some r) {i : Int32} {k : Nat} (hin : vp_in i n) (hk : i.toNatClampNeg = k) (hdg : decode cc pc = .ok (.aastore, 1))
    (kk : ∀ (F1 : Nat → va_E) (H1 : Heap) (locs1 : List Loc), F1 = va_up F j (.inl (cA, n, .inr (.inr (.inr (.inr (va_up f k (some (ad v)))))))) → pw D cl tys ad M F1 A s H1 locs1 → W p l e R s m args below meth c H1 locs1 cells slots Q (F0 m (pc + 1) ls rest)) : W p l e R s m args below meth c H locs cells slots Q (F0 m pc ls (.ref (ad v) :: .int i :: .ref (ad j) :: rest)) := by
  refine va_astq hexec hb hw.1 hw.2.1 hw.2.2.1 hw.2.2.2.1 j t0 v ci (pool_ate hj hF) ht (pool_ate hv hFv) hc hin hdg (fun H1 locs1 hP hD hS => kk _ H1 locs1 rfl ⟨hw.1, ?_, ?_, hS, hw.2.2.2.2⟩)
  · rw [pool_set, hk] at hP; exact hP
  · rw [pool_set, hk] at hD; exact hD
end PW
