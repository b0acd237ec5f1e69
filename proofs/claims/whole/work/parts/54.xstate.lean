/-! throws: the words, the world, the contracts' forms -/
abbrev xnames : List String := ["java/lang/RuntimeException", "java/lang/Exception"]
abbrev xE : String := "java/lang/IllegalArgumentException"
abbrev xS : String := "java/lang/IllegalStateException"
abbrev xi (n : String) : MethodName := ⟨n, "<init>", "(Ljava/lang/String;)V"⟩
/-- words of a throw that a method's own list doesn't have -/
def wX : List Cond := [.declares (xi "java/lang/RuntimeException"), .declares (xi "java/lang/Exception"), .declares (xi "java/lang/Throwable"), .castable xE xE, .castable xS xS]
theorem xg_ia : ((vx_atS R_K 42 xE xnames).filter (fun w => !goodWord w)).all (fun w => decide (w ∈ wX)) = true := by decide +kernel
theorem xg_is : ((vx_atS R_K 168 xS xnames).filter (fun w => !goodWord w)).all (fun w => decide (w ∈ wX)) = true := by decide +kernel
theorem xm_ia : ((vx_atS R_K 42 xE xnames).filter goodWord).all (fun w => decide (w ∈ wT)) = true := by decide +kernel
theorem xm_is : ((vx_atS R_K 168 xS xnames).filter goodWord).all (fun w => decide (w ∈ wT)) = true := by decide +kernel
theorem xo_ia : (Cond.classLink R_K 38 xE :: Cond.initialized xE :: vx_atS R_K 42 xE xnames).all vx_ot = true := by decide +kernel
theorem xo_is : (Cond.classLink R_K 164 xS :: Cond.initialized xS :: vx_atS R_K 168 xS xnames).all vx_ot = true := by decide +kernel
def xw (U : State) : Prop := ∀ w ∈ wX, w.before #[] U = true
theorem wX_tab : ∀ w ∈ wX, w.onTables = true := by decide +kernel
theorem xw.to {U : State} (h : xw U) {a : Array Value} : ∀ w ∈ wX, w.before a U = true := fun w hw => va_tabs (wX_tab w hw) rfl (h w hw)
theorem xw.warm {s U : State} (hW : s.WarmedH U.vm) (h : xw s) : xw U := by
  intro w hw
  have h1 := h w hw
  have ht := wX_tab w hw
  refine va_tabs ht (rfl : (s.setVm U.vm).vm = U.vm) (A := #[]) ?_
  rcases List.mem_cons.mp hw with rfl | hw
  · rw [Cond.declares_setVm hW.alike]; exact h1
  rcases List.mem_cons.mp hw with rfl | hw
  · rw [Cond.declares_setVm hW.alike]; exact h1
  rcases List.mem_cons.mp hw with rfl | hw
  · rw [Cond.declares_setVm hW.alike]; exact h1
  rcases List.mem_cons.mp hw with rfl | hw
  · rw [Cond.castable_setVm hW.alike]; exact h1
  rcases List.mem_cons.mp hw with rfl | hw
  · rw [Cond.castable_setVm hW.alike]; exact h1
  cases hw
theorem xw.same {u U : State} (hv : U.vm = u.vm) (h : xw u) : xw U := fun w hw => va_tabs (wX_tab w hw) hv.symm (h w hw)
def xstr : List (Nat × String) := [(173, "no such register"), (40, "bottom is 0"), (53, "no such kind"), (59, "not whole"), (119, "no such power"), (175, "neither top nor bottom"), (166, "the text tells no fraction")]
/-- what a throw needs of the machine -/
def xk (ad : Nat → Nat) (M : Nat) (U : State) : Prop := vx_Zq Bundle.tN "UNASSIGNED_STACK" Bundle.steD (pA ad M U.heap.size) U U.heap ∧ vx_Zq Bundle.tN "SUPPRESSED_SENTINEL" Bundle.listD (pA ad M U.heap.size) U U.heap ∧ xw U ∧ ∀ q ∈ xstr, ∃ sa, vk_R R_K q.1 q.2 sa U
abbrev xPre (D : va_G) (cl : List vw_C) (tys : List (ClassId × FieldType)) (ad : Nat → Nat) (M : Nat) (F : Nat → va_E) (sz : Nat) : State → Prop := fun U => pPre D cl tys ad M F sz U ∧ xk ad M U
abbrev xX (D : va_G) (ty : Nat → ClassId) (ad : Nat → Nat) (M sz : Nat) (px : String × (Nat → va_E) → Prop) : String → State → State → Prop := vx_X px (fun E u t => u.1 = E ∧ pAt D classes (tysL ty) ad M (pA ad M sz) u.2 t) (pA ad M sz)
abbrev XI (l : Launch) (y : MethodName) (ws : List Cond) (rm : Room) (av : List Value) (D : va_G) (ty : Nat → ClassId) (ad : Nat → Nat) (M : Nat) (F : Nat → va_E) (sz mc ms : Nat) (post : Int32 → (Nat → va_E) → Prop) (px : String × (Nat → va_E) → Prop) : Prop :=
  vx_Met l y ws rm (va_Pc av (xPre D classes (tysL ty) ad M F sz)) (va_Qi post (pAt D classes (tysL ty) ad M (pA ad M sz)) (pA ad M sz)) (xX D ty ad M sz px) mc ms (pA ad M sz)
abbrev XJ (l : Launch) (y : MethodName) (ws : List Cond) (rm : Room) (av : List Value) (D : va_G) (ty : Nat → ClassId) (ad : Nat → Nat) (M : Nat) (F : Nat → va_E) (sz mc ms : Nat) (post : Int64 → (Nat → va_E) → Prop) (px : String × (Nat → va_E) → Prop) : Prop :=
  vx_Met l y ws rm (va_Pc av (xPre D classes (tysL ty) ad M F sz)) (va_Ql post (pAt D classes (tysL ty) ad M (pA ad M sz)) (pA ad M sz)) (xX D ty ad M sz px) mc ms (pA ad M sz)
abbrev XV (l : Launch) (y : MethodName) (ws : List Cond) (rm : Room) (av : List Value) (D : va_G) (ty : Nat → ClassId) (ad : Nat → Nat) (M : Nat) (F : Nat → va_E) (sz mc ms : Nat) (post : (Nat → va_E) → Prop) (px : String × (Nat → va_E) → Prop) : Prop :=
  vx_Met l y ws rm (va_Pc av (xPre D classes (tysL ty) ad M F sz)) (va_Qv post (pAt D classes (tysL ty) ad M (pA ad M sz)) (pA ad M sz)) (xX D ty ad M sz px) mc ms (pA ad M sz)
abbrev XR (l : Launch) (y : MethodName) (ws : List Cond) (rm : Room) (av : List Value) (D : va_G) (ty : Nat → ClassId) (ad : Nat → Nat) (M : Nat) (F : Nat → va_E) (sz mc ms : Nat) (post : Nat × (Nat → va_E) → Prop) (px : String × (Nat → va_E) → Prop) : Prop :=
  vx_Met l y ws rm (va_Pc av (xPre D classes (tysL ty) ad M F sz)) (va_Qr post (pAtR D classes (tysL ty) ad M (pA ad M sz)) (pA ad M sz)) (xX D ty ad M sz px) mc ms (pA ad M sz)
theorem xk.same {ad : Nat → Nat} {M : Nat} {u U : State} (hv : U.vm = u.vm) (hh : U.heap = u.heap) (h : xk ad M u) : xk ad M U := by
  obtain ⟨h1, h2, h3, h4⟩ := h
  refine ⟨?_, ?_, h3.same hv, fun q hq => let ⟨sa, h5⟩ := h4 q hq; ⟨sa, h5.same hv⟩⟩
  · rw [hh]; exact h1.moved (by rw [hv]; exact Vm.Alike.refl _)
  · rw [hh]; exact h2.moved (by rw [hv]; exact Vm.Alike.refl _)
section PX
variable {p : Program} {l : Launch} {e : Env} {R : Room} {s : State} {m : MethodId} {args : Array Value} {below : List Frame} {meth : Method} {c : Code} {H : Heap} {locs : List Loc} {cells slots mc ms : Nat} {Q : State → Prop}
variable {D : va_G} {cl : List vw_C} {tys : List (ClassId × FieldType)} {ad : Nat → Nat} {M : Nat} {F : Nat → va_E} {A : Nat → Prop} {pc : Nat} {ls : Array Slot} {rest st0 : List Value} {cc : ByteArray} {a : Array Value}
theorem xk.at (h : xk ad M s) (hS : va_S (pA ad M s.heap.size) s.heap H locs) {U : State} (hU : U.heap = H) (hW : s.WarmedH U.vm) : xk ad M U := by
  obtain ⟨h1, h2, h3, h4⟩ := h
  have hn : ∀ q, pA ad M U.heap.size q → pA ad M s.heap.size q := by
    intro q hq
    rcases hq with hq | hq
    · exact Or.inl hq
    · exact Or.inr (Nat.le_trans hS.1 (by rw [hU] at hq; exact hq))
  refine ⟨?_, ?_, h3.warm hW, fun q hq => let ⟨sa, h5⟩ := h4 q hq; ⟨sa, h5.warm hW⟩⟩
  · exact ((vx_Zq.kept h1 (by rw [hU]; exact hS.2.1)).narrow hn).moved hW.alike
  · exact ((vx_Zq.kept h2 (by rw [hU]; exact hS.2.1)).narrow hn).moved hW.alike
theorem px_blind (As : List Value) (sz : Nat) : FrameBlind (va_Pc As (xPre D cl tys ad M F sz)) := fun a U g mk q => by
  obtain ⟨q0, ⟨q1, qP, qK, qD⟩, qx⟩ := q
  exact ⟨q0, ⟨q1, qP, va_K.moved (u := U) (U := U.calling g mk a) (Vm.Alike.refl U.vm) qK, qD⟩, xk.same (u := U) (U := U.calling g mk a) rfl rfl qx⟩
theorem px_pre (hw : pw D cl tys ad M F (pA ad M s.heap.size) s H locs) (hx : xk ad M s) (As : List Value) (U : State) (hU : U.heap = H) (hW : s.WarmedH U.vm) : va_Pc As (xPre D cl tys ad M F H.size) As.toArray U :=
  ⟨rfl, (pw_pre hw As U hU hW).2, hx.at hw.2.2.2.1 hU hW⟩
theorem px_preV (hw : pw D cl tys ad M F (pA ad M s.heap.size) s H locs) (hx : xk ad M s) {i ci : Nat} {fs : List Value} {r : vw_C} {As : List Value} (hi : i < M) (hF : F i = .inr (ci, fs)) (hc : cl[ci]? = some r) : PreV s H r.1 (ad i) (va_Pc (.ref (ad i) :: As) (xPre D cl tys ad M F H.size)) As :=
  ⟨px_blind _ _, va_recv hw.1 hw.2.1 hc (pool_ate hi hF), fun U hU hW => px_pre hw hx _ U hU hW⟩
theorem px_keep {t : State} {H1 : Heap} {locs1 : List Loc} {F1 : Nat → va_E} (hw : pw D cl tys ad M F A s H locs) (ht : t.heap = H1) (hB : pAt D cl tys ad M (pA ad M H.size) F1 t) (hS1 : va_S A s.heap H1 locs1) : pw D cl tys ad M F1 A s H1 locs1 :=
  ⟨hw.1, by rw [← ht]; exact hB.1, pool_D.mpr (pool_D.mp hw.2.2.1), hS1, hw.2.2.2.2⟩
abbrev xKX (p : Program) (l : Launch) (e : Env) (R : Room) (s : State) (m : MethodId) (args : Array Value) (below : List Frame) (meth : Method) (c : Code) (cells slots : Nat) (Q : State → Prop) (D : va_G) (cl : List vw_C) (tys : List (ClassId × FieldType)) (ad : Nat → Nat) (M : Nat) (A : Nat → Prop) (g : JFrame) (px : String × (Nat → va_E) → Prop) : Prop :=
  ∀ (E : String) (ce : Cell) (q9 : Addr) (F1 : Nat → va_E) (H1 : Heap) (locs1 : List Loc), px (E, F1) → pw D cl tys ad M F1 A s H1 locs1 → H1[q9]? = some ce → ce.vm = .none → s.vm.findClass E = some ce.cls → vx_W p l e R s m args below meth c H1 locs1 cells slots Q g q9
theorem px_calli {post : Int32 → (Nat → va_E) → Prop} {px : String × (Nat → va_E) → Prop} (hw : pw D cl tys ad M F A s H locs)
    (hr : vx_Run p l e R s m args below meth c H locs cells slots mc ms (F0 m pc ls st0) rest (va_Qi post (pAt D cl tys ad M (pA ad M H.size)) (pA ad M H.size) a) (vx_X px (fun E u t => u.1 = E ∧ pAt D cl tys ad M (pA ad M H.size) u.2 t) (pA ad M H.size)) (pA ad M H.size))
    (kx : xKX p l e R s m args below meth c (cells + mc) (slots + ms) Q D cl tys ad M A (F0 m pc ls rest) px)
    (kk : ∀ (r : Int32) (F1 : Nat → va_E) (H1 : Heap) (locs1 : List Loc), post r F1 → pw D cl tys ad M F1 A s H1 locs1 → W p l e R s m args below meth c H1 locs1 (cells + mc) (slots + ms) Q (F0 m (pc + 3) ls (.int r :: rest))) :
    W p l e R s m args below meth c H locs cells slots Q (F0 m pc ls st0) := by
  have hf := hw.free
  refine vx_calli hr hw.2.2.2.1 (fun q _ h => hf q h) hf (fun q _ h => hf q h) (fun E ce q9 u t H1 locs1 ht hvm hp hB _ _ hS1 hc1 hc2 hc3 => ?_) (fun r u t H1 locs1 ht hvm hp hB _ _ hS1 => kk r u H1 locs1 hp (px_keep hw ht hB hS1))
  obtain ⟨E1, F1⟩ := u
  obtain ⟨rfl, hB⟩ := hB
  exact kx _ ce q9 F1 H1 locs1 hp (px_keep hw ht hB hS1) hc1 hc2 hc3
theorem px_calll {post : Int64 → (Nat → va_E) → Prop} {px : String × (Nat → va_E) → Prop} (hw : pw D cl tys ad M F A s H locs)
    (hr : vx_Run p l e R s m args below meth c H locs cells slots mc ms (F0 m pc ls st0) rest (va_Ql post (pAt D cl tys ad M (pA ad M H.size)) (pA ad M H.size) a) (vx_X px (fun E u t => u.1 = E ∧ pAt D cl tys ad M (pA ad M H.size) u.2 t) (pA ad M H.size)) (pA ad M H.size))
    (kx : xKX p l e R s m args below meth c (cells + mc) (slots + ms) Q D cl tys ad M A (F0 m pc ls rest) px)
    (kk : ∀ (r : Int64) (F1 : Nat → va_E) (H1 : Heap) (locs1 : List Loc), post r F1 → pw D cl tys ad M F1 A s H1 locs1 → W p l e R s m args below meth c H1 locs1 (cells + mc) (slots + ms) Q (F0 m (pc + 3) ls (.long r :: rest))) :
    W p l e R s m args below meth c H locs cells slots Q (F0 m pc ls st0) := by
  have hf := hw.free
  refine vx_calll hr hw.2.2.2.1 (fun q _ h => hf q h) hf (fun q _ h => hf q h) (fun E ce q9 u t H1 locs1 ht hvm hp hB _ _ hS1 hc1 hc2 hc3 => ?_) (fun r u t H1 locs1 ht hvm hp hB _ _ hS1 => kk r u H1 locs1 hp (px_keep hw ht hB hS1))
  obtain ⟨E1, F1⟩ := u
  obtain ⟨rfl, hB⟩ := hB
  exact kx _ ce q9 F1 H1 locs1 hp (px_keep hw ht hB hS1) hc1 hc2 hc3
theorem px_callv {post : (Nat → va_E) → Prop} {px : String × (Nat → va_E) → Prop} (hw : pw D cl tys ad M F A s H locs)
    (hr : vx_Run p l e R s m args below meth c H locs cells slots mc ms (F0 m pc ls st0) rest (va_Qv post (pAt D cl tys ad M (pA ad M H.size)) (pA ad M H.size) a) (vx_X px (fun E u t => u.1 = E ∧ pAt D cl tys ad M (pA ad M H.size) u.2 t) (pA ad M H.size)) (pA ad M H.size))
    (kx : xKX p l e R s m args below meth c (cells + mc) (slots + ms) Q D cl tys ad M A (F0 m pc ls rest) px)
    (kk : ∀ (F1 : Nat → va_E) (H1 : Heap) (locs1 : List Loc), post F1 → pw D cl tys ad M F1 A s H1 locs1 → W p l e R s m args below meth c H1 locs1 (cells + mc) (slots + ms) Q (F0 m (pc + 3) ls rest)) :
    W p l e R s m args below meth c H locs cells slots Q (F0 m pc ls st0) := by
  have hf := hw.free
  refine vx_callv hr hw.2.2.2.1 (fun q _ h => hf q h) hf (fun q _ h => hf q h) (fun E ce q9 u t H1 locs1 ht hvm hp hB _ _ hS1 hc1 hc2 hc3 => ?_) (fun u t H1 locs1 ht hvm hp hB _ _ hS1 => kk u H1 locs1 hp (px_keep hw ht hB hS1))
  obtain ⟨E1, F1⟩ := u
  obtain ⟨rfl, hB⟩ := hB
  exact kx _ ce q9 F1 H1 locs1 hp (px_keep hw ht hB hS1) hc1 hc2 hc3
theorem px_callr {post : Nat × (Nat → va_E) → Prop} {px : String × (Nat → va_E) → Prop} (hw : pw D cl tys ad M F A s H locs)
    (hr : vx_Run p l e R s m args below meth c H locs cells slots mc ms (F0 m pc ls st0) rest (va_Qr post (pAtR D cl tys ad M (pA ad M H.size)) (pA ad M H.size) a) (vx_X px (fun E u t => u.1 = E ∧ pAt D cl tys ad M (pA ad M H.size) u.2 t) (pA ad M H.size)) (pA ad M H.size))
    (kx : xKX p l e R s m args below meth c (cells + mc) (slots + ms) Q D cl tys ad M A (F0 m pc ls rest) px)
    (kk : ∀ (i : Nat) (F1 : Nat → va_E) (H1 : Heap) (locs1 : List Loc), post (i, F1) → pw D cl tys ad M F1 A s H1 locs1 → W p l e R s m args below meth c H1 locs1 (cells + mc) (slots + ms) Q (F0 m (pc + 3) ls (.ref (ad i) :: rest))) :
    W p l e R s m args below meth c H locs cells slots Q (F0 m pc ls st0) := by
  have hf := hw.free
  have hS := hw.2.2.2.1
  intro T hT X
  rcases hr T hT X with ⟨v, st₀, t, T', L, h0, X', hL, e1, e2, ⟨⟨u, r, hv, hp, hb⟩, hF⟩, st⟩ | ⟨q, st₀, t, T', L, E, ce, h0, X', hL, e1, e2, ⟨u, hp, hb, hF⟩, hce, hcv, hcl, st⟩
  · cases hv
    obtain ⟨k1, k2, k3⟩ := vx_keep h0 e1 hS (fun q _ h => hf q h) hf hL hF
    obtain ⟨i, F1⟩ := u
    obtain ⟨rfl, hb⟩ := hb
    obtain ⟨t2, a1, b1⟩ := kk i F1 T'.heap (locs ++ L) hp (px_keep hw e1.symm hb k3) T' rfl X'
    exact ⟨t2, st t2 a1, b1⟩
  · obtain ⟨k1, k2, k3⟩ := vx_keep h0 e1 hS (fun q _ h => hf q h) hf hL hF
    obtain ⟨E1, F1⟩ := u
    obtain ⟨rfl, hb⟩ := hb
    obtain ⟨t2, a1, b1⟩ := kx _ ce q F1 T'.heap (locs ++ L) hp (px_keep hw e1.symm hb k3) (by rw [e1]; exact hce) hcv hcl T' rfl X'
    exact ⟨t2, st.trans a1, b1⟩
variable {Qc : Array Value → State → Outcome → State → Prop} {px : String × (Nat → va_E) → Prop}
/-- thrown by a callee, and on to the caller -/
theorem px_out {E : String} {ce : Cell} {q : Addr} (hex : ∀ x ∈ c.exceptionTable.toList, False) (hlocks : meth.locks = false) (hw : pw D cl tys ad M F (pA ad M s.heap.size) s H locs) (hcell : H[q]? = some ce) (hv : ce.vm = .none) (hcl : s.vm.findClass E = some ce.cls) (hp : px (E, F)) (hc : cells ≤ mc) (hs : slots ≤ ms) :
    vx_W p l e R s m args below meth c H locs cells slots (vx_MQ below Qc (vx_X px (fun E u t => u.1 = E ∧ pAt D cl tys ad M (pA ad M s.heap.size) u.2 t) (pA ad M s.heap.size)) args s mc ms (pA ad M s.heap.size)) (F0 m pc ls rest) q :=
  vx_out (fun x hx => (hex x hx).elim) hlocks hcell hv hcl (fun t ht hA => ⟨(E, F), hp, ⟨rfl, by rw [ht]; exact hw.2.1, va_K.moved hA hw.1, hw.2.2.1⟩, hw.fin ht⟩) hw.2.2.2.1.2.2 hc hs
/-- what is left where the exception was made here -/
theorem px_made {E : String} (hw : pw D cl tys ad M F (pA ad M s.heap.size) s H locs) (hp : px (E, F)) : ∀ t : State, s.vm.Alike t.vm → H.size ≤ t.heap.size → (∀ q : Nat, q < H.size → t.heap[q]? = H[q]?) → vx_X px (fun E u t => u.1 = E ∧ pAt D cl tys ad M (pA ad M s.heap.size) u.2 t) (pA ad M s.heap.size) E s t := by
  intro t hA hz hk
  refine ⟨(E, F), hp, ⟨rfl, hw.2.1.kept (fun k q hq => hk _ (vx_lt hw.2.1 hq)), va_K.moved hA hw.1, hw.2.2.1⟩, Nat.le_trans hw.2.2.2.1.1 hz, fun q h1 h2 => ?_⟩
  rw [hk q (Nat.lt_of_lt_of_le h1 hw.2.2.2.1.1)]
  exact hw.2.2.2.1.2.1 q h1 h2
theorem px_throwA {is : Nat} {text : String} (hexec : p.tables.exec = Jvm.exec) (hb : c.code = cc) (hl : l.stackTraces = false) (hown : s.vm.findClass R_K = some m.cls) (hq : ∀ w ∈ wT, w.before args s = true) (hxk : xk ad M s) (hmem : (is, text) ∈ xstr) (hw : pw D cl tys ad M F (pA ad M s.heap.size) s H locs) (hsize : ls.size = c.maxLocals)
    (d0 : decode cc pc = .ok (.new 38, 3)) (d3 : decode cc (pc + 3) = .ok (.dup, 1)) (d4 : decode cc (pc + 4) = .ok (.ldc is, 2)) (d6 : decode cc (pc + 6) = .ok (.invokespecial 42, 3)) (d9 : decode cc (pc + 9) = .ok (.athrow, 1))
    (hex : ∀ x ∈ c.exceptionTable.toList, False) (hRframes : 5 < R.frames) (hRlocals : (rest.map fun v => v.category).sum + 82 ≤ R.locals) (hRcells : cells + 1 ≤ R.cells) (hRslots : slots + 6 ≤ R.slots) (hlocks : meth.locks = false) (hp : px (xE, F)) (hc : cells + 1 ≤ mc) (hs : slots + 6 ≤ ms) :
    W p l e R s m args below meth c H locs cells slots (vx_MQ below Qc (vx_X px (fun E u t => u.1 = E ∧ pAt D cl tys ad M (pA ad M s.heap.size) u.2 t) (pA ad M s.heap.size)) args s mc ms (pA ad M s.heap.size)) (F0 m pc ls rest) := by
  obtain ⟨h1, h2, h3, h4⟩ := hxk
  obtain ⟨sa, h5⟩ := h4 _ hmem
  exact vx_throwS (names := xnames) hexec hb hl hown (by decide) (by decide) (hq _ cl_K_38) (hq _ in_javalangIllegalArgumentException) h5
    (vx_hat (fun w hw => hq w (of_decide_eq_true (List.all_eq_true.mp xm_ia w hw))) (fun w hw => of_decide_eq_true (List.all_eq_true.mp xg_ia w hw)) h3.to) (fun w hw => List.all_eq_true.mp xo_ia w hw) h1 h2 hw.2.2.2.1 hsize d0 d3 d4 d6 d9 (fun x hx => (hex x hx).elim) hRframes hRlocals hRcells hRslots hlocks (px_made hw hp) hw.2.2.2.1.2.2 hc hs
theorem px_throwT {is : Nat} {text : String} (hexec : p.tables.exec = Jvm.exec) (hb : c.code = cc) (hl : l.stackTraces = false) (hown : s.vm.findClass R_K = some m.cls) (hq : ∀ w ∈ wT, w.before args s = true) (hxk : xk ad M s) (hmem : (is, text) ∈ xstr) (hw : pw D cl tys ad M F (pA ad M s.heap.size) s H locs) (hsize : ls.size = c.maxLocals)
    (d0 : decode cc pc = .ok (.new 164, 3)) (d3 : decode cc (pc + 3) = .ok (.dup, 1)) (d4 : decode cc (pc + 4) = .ok (.ldc is, 2)) (d6 : decode cc (pc + 6) = .ok (.invokespecial 168, 3)) (d9 : decode cc (pc + 9) = .ok (.athrow, 1))
    (hex : ∀ x ∈ c.exceptionTable.toList, False) (hRframes : 5 < R.frames) (hRlocals : (rest.map fun v => v.category).sum + 82 ≤ R.locals) (hRcells : cells + 1 ≤ R.cells) (hRslots : slots + 6 ≤ R.slots) (hlocks : meth.locks = false) (hp : px (xS, F)) (hc : cells + 1 ≤ mc) (hs : slots + 6 ≤ ms) :
    W p l e R s m args below meth c H locs cells slots (vx_MQ below Qc (vx_X px (fun E u t => u.1 = E ∧ pAt D cl tys ad M (pA ad M s.heap.size) u.2 t) (pA ad M s.heap.size)) args s mc ms (pA ad M s.heap.size)) (F0 m pc ls rest) := by
  obtain ⟨h1, h2, h3, h4⟩ := hxk
  obtain ⟨sa, h5⟩ := h4 _ hmem
  exact vx_throwS (names := xnames) hexec hb hl hown (by decide) (by decide) (hq _ cl_K_164) (hq _ in_javalangIllegalStateException) h5
    (vx_hat (fun w hw => hq w (of_decide_eq_true (List.all_eq_true.mp xm_is w hw))) (fun w hw => of_decide_eq_true (List.all_eq_true.mp xg_is w hw)) h3.to) (fun w hw => List.all_eq_true.mp xo_is w hw) h1 h2 hw.2.2.2.1 hsize d0 d3 d4 d6 d9 (fun x hx => (hex x hx).elim) hRframes hRlocals hRcells hRslots hlocks (px_made hw hp) hw.2.2.2.1.2.2 hc hs
end PX
