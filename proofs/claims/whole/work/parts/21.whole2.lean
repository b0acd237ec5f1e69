/-! Whole, its small methods: by program -/
set_option maxHeartbeats 4000000 in
set_option maxRecDepth 100000 in
/-- Integer.numberOfLeadingZeros of a number above 0 -/
theorem c_JI_numberOfLeadingZeros (l : Launch) (D : va_G) (ty : Nat → ClassId) (ad : Nat → Nat) (M : Nat) (F : Nat → va_E) (sz : Nat) (x : Nat) (h0 : 0 < x) (h1 : x < 2147483648) :
    CI l y_JI_numberOfLeadingZeros w_JI_numberOfLeadingZeros ({ frames := 0, cells := 0, slots := 0, locals := 0 } : Room) [.int (iI ((x : Int)))] D ty ad M F sz (fun r F1 => (∃ k : Nat, r = iI k ∧ k ≤ 31 ∧ 1 ≤ k ∧ 2 ^ (31 - k) ≤ x ∧ x < 2 ^ (32 - k)) ∧ F1 = F) := by
  refine Met.ofW (cc := b_JI_numberOfLeadingZeros) (maxL := 2) (ret := (some .int)) (by decide) rfl ?_
  intro p e s m args below meth c s₁ B hml hv
  obtain ⟨rfl, hsz, hP, hK, hD0⟩ := hv
  have hx := B.exec
  have hb := B.bytes
  have hr := B.returns
  have hts := atoms_spec (ws := w_JI_numberOfLeadingZeros) B.pre
  have hq : ∀ w ∈ wT, w.before _ s = true := fun w h => hts w (List.mem_cons_of_mem _ h)
  have hown : s.vm.findClass R_JI = some m.cls := findClass_of_methodNamed B.named
  have hlocks := B.notSynchronized
  subst hsz
  have hw := pw_start hP hK hD0
  have hl := lv_entry ([.int (iI ((x : Int)))]) (n := 2) (Nat.le_of_ble_eq_true rfl)
  rw [lg_entry_eq]
  generalize (lg_sl ([.int (iI ((x : Int)))]) ++ List.replicate (2 - (lg_sl ([.int (iI ((x : Int)))])).length) Slot.unset).toArray = ls at hl ⊢
  have hl : lv_has ls 2 [(0, .int (iI ((x : Int))))] := hl
  change W p l e ({ frames := 0, cells := 0, slots := 0, locals := 0 } : Room) s m ([.int (iI ((x : Int)))]).toArray below meth c s.heap [] 0 0 (MQ below (va_Qi (fun r F1 => (∃ k : Nat, r = iI k ∧ k ≤ 31 ∧ 1 ≤ k ∧ 2 ^ (31 - k) ≤ x ∧ x < 2 ^ (32 - k)) ∧ F1 = F) (pAt D classes (tysL ty) ad M (pA ad M s.heap.size)) (pA ad M s.heap.size)) ([.int (iI ((x : Int)))]).toArray s 0 0 (pA ad M s.heap.size)) (F0 m 0 ls [])
  generalize hQ : MQ below (va_Qi (fun r F1 => (∃ k : Nat, r = iI k ∧ k ≤ 31 ∧ 1 ≤ k ∧ 2 ^ (31 - k) ≤ x ∧ x < 2 ^ (32 - k)) ∧ F1 = F) (pAt D classes (tysL ty) ad M (pA ad M s.heap.size)) (pA ad M s.heap.size)) ([.int (iI ((x : Int)))]).toArray s 0 0 (pA ad M s.heap.size) = Q
  obtain ⟨H, hH⟩ : ∃ H, H = s.heap := ⟨_, rfl⟩
  obtain ⟨locs, hlo⟩ : ∃ z : List Loc, z = [] := ⟨_, rfl⟩
  have hw : pw D classes (tysL ty) ad M F (pA ad M s.heap.size) s H locs := by rw [hH, hlo]; exact hw
  have hgo : W p l e ({ frames := 0, cells := 0, slots := 0, locals := 0 } : Room) s m ([.int (iI ((x : Int)))]).toArray below meth c H locs 0 0 Q (F0 m 0 ls []) := by
    refine lv_iload_n hx hb d_JI_numberOfLeadingZeros_0 rfl (lv_at hl 0 rfl) ?_
    refine wz_if_gt (tgt := 15) hx hb d_JI_numberOfLeadingZeros_1 (by decide) (by omega) (by omega) (fun c1 => ?_) (fun c1 => ?_)
    · refine wz_bipush (n := 31) hx hb d_JI_numberOfLeadingZeros_15 (by decide) ?_
      refine lv_istore_n (lv' := [(1, .int (iI (31))), (0, .int (iI ((x : Int))))]) hx hb d_JI_numberOfLeadingZeros_17 rfl hl (by decide) rfl (fun ls hl => ?_)
      have K73 : ∀ (n y : Nat) (ls : Array Slot), (n ≤ 31 ∧ 1 ≤ n) → (0 < y ∧ y < 4) → (x / 2 ^ (31 - n) = y) → lv_has ls 2 [(1, .int (iI ((n : Int)))), (0, .int (iI ((y : Int))))] → W p l e ({ frames := 0, cells := 0, slots := 0, locals := 0 } : Room) s m ([.int (iI ((x : Int)))]).toArray below meth c H locs 0 0 Q (F0 m 73 ls []) := by
        intro n y ls hn hy hx2 hl
        refine lv_iload_n hx hb d_JI_numberOfLeadingZeros_73 rfl (lv_at hl 0 rfl) ?_
        refine lv_iload_n hx hb d_JI_numberOfLeadingZeros_74 rfl (lv_at hl 1 rfl) ?_
        refine wz_iconst (n := 1) hx hb d_JI_numberOfLeadingZeros_75 ?_
        refine lv_iushr (v := iI (((y / 2 ^ 1 : Nat) : Int))) hx hb d_JI_numberOfLeadingZeros_76 (iI_ushr (k := 1) (by decide) (by omega)) ?_
        refine wz_isub (z := ((n - y / 2 : Nat) : Int)) hx hb d_JI_numberOfLeadingZeros_77 (by omega) ?_
        have hyn : n = 1 → y = 1 := fun q => by
          rw [q] at hx2
          have : x / 2 ^ 30 = y := hx2
          omega
        rw [← hQ]
        exact pw_iret hx hb hr hlocks hw (⟨⟨n - y / 2, rfl, by omega, by omega, nlz_lo hn.1 hn.2 hyn hy.1 hy.2 hx2, nlz_hi hn.1 hn.2 hyn hy.1 hy.2 hx2⟩, rfl⟩) d_JI_numberOfLeadingZeros_78
      have K61 : ∀ (n y : Nat) (ls : Array Slot), (n ≤ 31 ∧ 3 ≤ n) → (0 < y ∧ y < 16) → (x / 2 ^ (31 - n) = y) → lv_has ls 2 [(1, .int (iI ((n : Int)))), (0, .int (iI ((y : Int))))] → W p l e ({ frames := 0, cells := 0, slots := 0, locals := 0 } : Room) s m ([.int (iI ((x : Int)))]).toArray below meth c H locs 0 0 Q (F0 m 61 ls []) := by
        intro n y ls hn hy hx2 hl
        refine lv_iload_n hx hb d_JI_numberOfLeadingZeros_61 rfl (lv_at hl 1 rfl) ?_
        refine wz_iconst (n := 4) hx hb d_JI_numberOfLeadingZeros_62 ?_
        refine wz_icmp_lt (tgt := 73) hx hb d_JI_numberOfLeadingZeros_63 (by decide) (by omega) (by omega) (by omega) (by omega) (fun c63 => ?_) (fun c63 => ?_)
        · exact K73 n y ls (by omega) (by omega) (hx2) hl
        · refine wz_iinc (z := ((n - 2 : Nat) : Int)) (lv' := [(1, .int (iI (((n - 2 : Nat) : Int)))), (0, .int (iI ((y : Int))))]) hx hb d_JI_numberOfLeadingZeros_66 hl (k := 0) rfl (by omega) (by decide) rfl (fun ls hl => ?_)
          refine lv_iload_n hx hb d_JI_numberOfLeadingZeros_69 rfl (lv_at hl 1 rfl) ?_
          refine wz_iconst (n := 2) hx hb d_JI_numberOfLeadingZeros_70 ?_
          refine lv_iushr (v := iI (((y / 2 ^ 2 : Nat) : Int))) hx hb d_JI_numberOfLeadingZeros_71 (iI_ushr (k := 2) (by decide) (by omega)) ?_
          refine lv_istore_n (lv' := [(0, .int (iI (((y / 2 ^ 2 : Nat) : Int)))), (1, .int (iI (((n - 2 : Nat) : Int))))]) hx hb d_JI_numberOfLeadingZeros_72 rfl hl (by decide) rfl (fun ls hl => ?_)
          exact K73 (n - 2) (y / 2 ^ 2) ls (by omega) (by omega) (by rw [← hx2, Nat.div_div_eq_div_mul, ← Nat.pow_add]; congr 2; omega) (lv_sub hl [1, 0] rfl)
      have K48 : ∀ (n y : Nat) (ls : Array Slot), (n ≤ 31 ∧ 7 ≤ n) → (0 < y ∧ y < 256) → (x / 2 ^ (31 - n) = y) → lv_has ls 2 [(1, .int (iI ((n : Int)))), (0, .int (iI ((y : Int))))] → W p l e ({ frames := 0, cells := 0, slots := 0, locals := 0 } : Room) s m ([.int (iI ((x : Int)))]).toArray below meth c H locs 0 0 Q (F0 m 48 ls []) := by
        intro n y ls hn hy hx2 hl
        refine lv_iload_n hx hb d_JI_numberOfLeadingZeros_48 rfl (lv_at hl 1 rfl) ?_
        refine wz_bipush (n := 16) hx hb d_JI_numberOfLeadingZeros_49 (by decide) ?_
        refine wz_icmp_lt (tgt := 61) hx hb d_JI_numberOfLeadingZeros_51 (by decide) (by omega) (by omega) (by omega) (by omega) (fun c51 => ?_) (fun c51 => ?_)
        · exact K61 n y ls (by omega) (by omega) (hx2) hl
        · refine wz_iinc (z := ((n - 4 : Nat) : Int)) (lv' := [(1, .int (iI (((n - 4 : Nat) : Int)))), (0, .int (iI ((y : Int))))]) hx hb d_JI_numberOfLeadingZeros_54 hl (k := 0) rfl (by omega) (by decide) rfl (fun ls hl => ?_)
          refine lv_iload_n hx hb d_JI_numberOfLeadingZeros_57 rfl (lv_at hl 1 rfl) ?_
          refine wz_iconst (n := 4) hx hb d_JI_numberOfLeadingZeros_58 ?_
          refine lv_iushr (v := iI (((y / 2 ^ 4 : Nat) : Int))) hx hb d_JI_numberOfLeadingZeros_59 (iI_ushr (k := 4) (by decide) (by omega)) ?_
          refine lv_istore_n (lv' := [(0, .int (iI (((y / 2 ^ 4 : Nat) : Int)))), (1, .int (iI (((n - 4 : Nat) : Int))))]) hx hb d_JI_numberOfLeadingZeros_60 rfl hl (by decide) rfl (fun ls hl => ?_)
          exact K61 (n - 4) (y / 2 ^ 4) ls (by omega) (by omega) (by rw [← hx2, Nat.div_div_eq_div_mul, ← Nat.pow_add]; congr 2; omega) (lv_sub hl [1, 0] rfl)
      have K33 : ∀ (n y : Nat) (ls : Array Slot), (n ≤ 31 ∧ 15 ≤ n) → (0 < y ∧ y < 65536) → (x / 2 ^ (31 - n) = y) → lv_has ls 2 [(1, .int (iI ((n : Int)))), (0, .int (iI ((y : Int))))] → W p l e ({ frames := 0, cells := 0, slots := 0, locals := 0 } : Room) s m ([.int (iI ((x : Int)))]).toArray below meth c H locs 0 0 Q (F0 m 33 ls []) := by
        intro n y ls hn hy hx2 hl
        refine lv_iload_n hx hb d_JI_numberOfLeadingZeros_33 rfl (lv_at hl 1 rfl) ?_
        refine wz_sipush (n := 256) hx hb d_JI_numberOfLeadingZeros_34 (by decide) ?_
        refine wz_icmp_lt (tgt := 48) hx hb d_JI_numberOfLeadingZeros_37 (by decide) (by omega) (by omega) (by omega) (by omega) (fun c37 => ?_) (fun c37 => ?_)
        · exact K48 n y ls (by omega) (by omega) (hx2) hl
        · refine wz_iinc (z := ((n - 8 : Nat) : Int)) (lv' := [(1, .int (iI (((n - 8 : Nat) : Int)))), (0, .int (iI ((y : Int))))]) hx hb d_JI_numberOfLeadingZeros_40 hl (k := 0) rfl (by omega) (by decide) rfl (fun ls hl => ?_)
          refine lv_iload_n hx hb d_JI_numberOfLeadingZeros_43 rfl (lv_at hl 1 rfl) ?_
          refine wz_bipush (n := 8) hx hb d_JI_numberOfLeadingZeros_44 (by decide) ?_
          refine lv_iushr (v := iI (((y / 2 ^ 8 : Nat) : Int))) hx hb d_JI_numberOfLeadingZeros_46 (iI_ushr (k := 8) (by decide) (by omega)) ?_
          refine lv_istore_n (lv' := [(0, .int (iI (((y / 2 ^ 8 : Nat) : Int)))), (1, .int (iI (((n - 8 : Nat) : Int))))]) hx hb d_JI_numberOfLeadingZeros_47 rfl hl (by decide) rfl (fun ls hl => ?_)
          exact K48 (n - 8) (y / 2 ^ 8) ls (by omega) (by omega) (by rw [← hx2, Nat.div_div_eq_div_mul, ← Nat.pow_add]; congr 2; omega) (lv_sub hl [1, 0] rfl)
      refine lv_iload_n hx hb d_JI_numberOfLeadingZeros_18 rfl (lv_at hl 1 rfl) ?_
      refine lv_ldcw (v := iI (65536)) hx hb hown (hq _ co_JI_264) d_JI_numberOfLeadingZeros_19 ?_
      refine wz_icmp_lt (tgt := 33) hx hb d_JI_numberOfLeadingZeros_22 (by decide) (by omega) (by omega) (by omega) (by omega) (fun c22 => ?_) (fun c22 => ?_)
      · exact K33 31 x ls (by omega) (by omega) (by simp) hl
      · refine wz_iinc (z := ((31 - 16 : Nat) : Int)) (lv' := [(1, .int (iI (((31 - 16 : Nat) : Int)))), (0, .int (iI ((x : Int))))]) hx hb d_JI_numberOfLeadingZeros_25 hl (k := 0) rfl (by omega) (by decide) rfl (fun ls hl => ?_)
        refine lv_iload_n hx hb d_JI_numberOfLeadingZeros_28 rfl (lv_at hl 1 rfl) ?_
        refine wz_bipush (n := 16) hx hb d_JI_numberOfLeadingZeros_29 (by decide) ?_
        refine lv_iushr (v := iI (((x / 2 ^ 16 : Nat) : Int))) hx hb d_JI_numberOfLeadingZeros_31 (iI_ushr (k := 16) (by decide) (by omega)) ?_
        refine lv_istore_n (lv' := [(0, .int (iI (((x / 2 ^ 16 : Nat) : Int)))), (1, .int (iI (((31 - 16 : Nat) : Int))))]) hx hb d_JI_numberOfLeadingZeros_32 rfl hl (by decide) rfl (fun ls hl => ?_)
        exact K33 (31 - 16) (x / 2 ^ 16) ls (by omega) (by omega) (by rfl) (lv_sub hl [1, 0] rfl)
    · exact absurd c1 (by omega)
  rw [hH, hlo] at hgo
  exact hgo
set_option maxHeartbeats 4000000 in
set_option maxRecDepth 100000 in
/-- Whole.isZero() -/
theorem c_W_isZero (l : Launch) (D : va_G) (ty : Nat → ClassId) (ad : Nat → Nat) (M : Nat) (F : Nat → va_E) (sz : Nat) (w N v : Nat) (hM : w + 1 < M) (hN : N < 1000) (h : Wv ty ad F w N v) :
    CI l y_W_isZero w_W_isZero ({ frames := 0, cells := 0, slots := 0, locals := 0 } : Room) [.ref (ad (w))] D ty ad M F sz (fun r F1 => r = iI (if v = 0 then 1 else 0) ∧ F1 = F) := by
  refine Met.ofW (cc := b_W_isZero) (maxL := 1) (ret := (some .boolean)) (by decide) rfl ?_
  intro p e s m args below meth c s₁ B hml hv
  obtain ⟨rfl, hsz, hP, hK, hD0⟩ := hv
  have hx := B.exec
  have hb := B.bytes
  have hr := B.returns
  have hts := atoms_spec (ws := w_W_isZero) B.pre
  have hq : ∀ w ∈ wT, w.before _ s = true := fun w h => hts w (List.mem_cons_of_mem _ h)
  have hown : s.vm.findClass R_W = some m.cls := findClass_of_methodNamed B.named
  have hlocks := B.notSynchronized
  subst hsz
  have hw := pw_start hP hK hD0
  have hl := lv_entry ([.ref (ad (w))]) (n := 1) (Nat.le_of_ble_eq_true rfl)
  rw [lg_entry_eq]
  generalize (lg_sl ([.ref (ad (w))]) ++ List.replicate (1 - (lg_sl ([.ref (ad (w))])).length) Slot.unset).toArray = ls at hl ⊢
  have hl : lv_has ls 1 [(0, .ref (ad (w)))] := hl
  change W p l e ({ frames := 0, cells := 0, slots := 0, locals := 0 } : Room) s m ([.ref (ad (w))]).toArray below meth c s.heap [] 0 0 (MQ below (va_Qi (fun r F1 => r = iI (if v = 0 then 1 else 0) ∧ F1 = F) (pAt D classes (tysL ty) ad M (pA ad M s.heap.size)) (pA ad M s.heap.size)) ([.ref (ad (w))]).toArray s 0 0 (pA ad M s.heap.size)) (F0 m 0 ls [])
  generalize hQ : MQ below (va_Qi (fun r F1 => r = iI (if v = 0 then 1 else 0) ∧ F1 = F) (pAt D classes (tysL ty) ad M (pA ad M s.heap.size)) (pA ad M s.heap.size)) ([.ref (ad (w))]).toArray s 0 0 (pA ad M s.heap.size) = Q
  obtain ⟨H, hH⟩ : ∃ H, H = s.heap := ⟨_, rfl⟩
  obtain ⟨locs, hlo⟩ : ∃ z : List Loc, z = [] := ⟨_, rfl⟩
  have hw : pw D classes (tysL ty) ad M F (pA ad M s.heap.size) s H locs := by rw [hH, hlo]; exact hw
  have hgo : W p l e ({ frames := 0, cells := 0, slots := 0, locals := 0 } : Room) s m ([.ref (ad (w))]).toArray below meth c H locs 0 0 Q (F0 m 0 ls []) := by
    obtain ⟨n, g, ⟨hO_w, hA_w⟩, hok⟩ := h
    have hn := hok.1
    have hd := hok.2.1
    have hz := hok.zero
    refine lv_aload_n hx hb d_W_isZero_0 rfl (lv_at hl 0 rfl) ?_
    refine pw_get (ci := 0) (C := R_W) (T := T_W) (N := 2) hx hb hq i_W hown hw (by omega) hO_w rfl 1 (by decide) (hq _ fl_W_21) (fun _ h9 => h9) rfl d_W_isZero_1 ?_
    refine wz_if_ne (tgt := 11) hx hb d_W_isZero_4 (by decide) (by omega) (by omega) (fun c4 => ?_) (fun c4 => ?_)
    · refine wz_iconst (n := 0) hx hb d_W_isZero_11 ?_
      rw [← hQ]
      exact pw_zret hx hb hr (by decide) hlocks hw (⟨by congr 1; split <;> omega, rfl⟩) d_W_isZero_12
    · refine wz_iconst (n := 1) hx hb d_W_isZero_7 ?_
      refine lv_goto (tgt := 12) hx hb d_W_isZero_8 (by decide) ?_
      rw [← hQ]
      exact pw_zret hx hb hr (by decide) hlocks hw (⟨by congr 1; split <;> omega, rfl⟩) d_W_isZero_12
  rw [hH, hlo] at hgo
  exact hgo
set_option maxHeartbeats 4000000 in
set_option maxRecDepth 100000 in
/-- Whole.isOne() -/
theorem c_W_isOne (l : Launch) (D : va_G) (ty : Nat → ClassId) (ad : Nat → Nat) (M : Nat) (F : Nat → va_E) (sz : Nat) (w N v : Nat) (hM : w + 1 < M) (hN : N < 1000) (h : Wv ty ad F w N v) :
    CI l y_W_isOne w_W_isOne ({ frames := 0, cells := 0, slots := 0, locals := 0 } : Room) [.ref (ad (w))] D ty ad M F sz (fun r F1 => r = iI (if v = 1 then 1 else 0) ∧ F1 = F) := by
  refine Met.ofW (cc := b_W_isOne) (maxL := 1) (ret := (some .boolean)) (by decide) rfl ?_
  intro p e s m args below meth c s₁ B hml hv
  obtain ⟨rfl, hsz, hP, hK, hD0⟩ := hv
  have hx := B.exec
  have hb := B.bytes
  have hr := B.returns
  have hts := atoms_spec (ws := w_W_isOne) B.pre
  have hq : ∀ w ∈ wT, w.before _ s = true := fun w h => hts w (List.mem_cons_of_mem _ h)
  have hown : s.vm.findClass R_W = some m.cls := findClass_of_methodNamed B.named
  have hlocks := B.notSynchronized
  subst hsz
  have hw := pw_start hP hK hD0
  have hl := lv_entry ([.ref (ad (w))]) (n := 1) (Nat.le_of_ble_eq_true rfl)
  rw [lg_entry_eq]
  generalize (lg_sl ([.ref (ad (w))]) ++ List.replicate (1 - (lg_sl ([.ref (ad (w))])).length) Slot.unset).toArray = ls at hl ⊢
  have hl : lv_has ls 1 [(0, .ref (ad (w)))] := hl
  change W p l e ({ frames := 0, cells := 0, slots := 0, locals := 0 } : Room) s m ([.ref (ad (w))]).toArray below meth c s.heap [] 0 0 (MQ below (va_Qi (fun r F1 => r = iI (if v = 1 then 1 else 0) ∧ F1 = F) (pAt D classes (tysL ty) ad M (pA ad M s.heap.size)) (pA ad M s.heap.size)) ([.ref (ad (w))]).toArray s 0 0 (pA ad M s.heap.size)) (F0 m 0 ls [])
  generalize hQ : MQ below (va_Qi (fun r F1 => r = iI (if v = 1 then 1 else 0) ∧ F1 = F) (pAt D classes (tysL ty) ad M (pA ad M s.heap.size)) (pA ad M s.heap.size)) ([.ref (ad (w))]).toArray s 0 0 (pA ad M s.heap.size) = Q
  obtain ⟨H, hH⟩ : ∃ H, H = s.heap := ⟨_, rfl⟩
  obtain ⟨locs, hlo⟩ : ∃ z : List Loc, z = [] := ⟨_, rfl⟩
  have hw : pw D classes (tysL ty) ad M F (pA ad M s.heap.size) s H locs := by rw [hH, hlo]; exact hw
  have hgo : W p l e ({ frames := 0, cells := 0, slots := 0, locals := 0 } : Room) s m ([.ref (ad (w))]).toArray below meth c H locs 0 0 Q (F0 m 0 ls []) := by
    obtain ⟨n, g, ⟨hO_w, hA_w⟩, hok⟩ := h
    have hn := hok.1
    have hd := hok.2.1
    have hz := hok.one
    refine lv_aload_n hx hb d_W_isOne_0 rfl (lv_at hl 0 rfl) ?_
    refine pw_get (ci := 0) (C := R_W) (T := T_W) (N := 2) hx hb hq i_W hown hw (by omega) hO_w rfl 1 (by decide) (hq _ fl_W_21) (fun _ h9 => h9) rfl d_W_isOne_1 ?_
    refine wz_iconst (n := 1) hx hb d_W_isOne_4 ?_
    refine wz_icmp_ne (tgt := 22) hx hb d_W_isOne_5 (by decide) (by omega) (by omega) (by omega) (by omega) (fun c5 => ?_) (fun c5 => ?_)
    · refine wz_iconst (n := 0) hx hb d_W_isOne_22 ?_
      rw [← hQ]
      exact pw_zret hx hb hr (by decide) hlocks hw (⟨by congr 1; split <;> omega, rfl⟩) d_W_isOne_23
    · refine lv_aload_n hx hb d_W_isOne_8 rfl (lv_at hl 0 rfl) ?_
      refine pw_get (ci := 0) (C := R_W) (T := T_W) (N := 2) hx hb hq i_W hown hw (by omega) hO_w rfl 0 (by decide) (hq _ fl_W_17) (fun _ h9 => h9) rfl d_W_isOne_9 ?_
      refine wz_iconst (n := 0) hx hb d_W_isOne_12 ?_
      refine pw_iald (k := 0) hx hb hw 0 (by omega) hA_w rfl (iI_in (by omega) (by omega) (by omega)) ((iI_cl (by omega) (by omega)).trans (by omega)) d_W_isOne_13 ?_
      refine lv_topi (fun x13 ex13 => ?_)
      obtain rfl : x13 = iI ((dl g 0 : Int)) := ex13.trans (dl_get (hd 0 (by omega)))
      have hd0 := hd 0 (by omega)
      refine wz_iconst (n := 1) hx hb d_W_isOne_14 ?_
      refine wz_icmp_ne (tgt := 22) hx hb d_W_isOne_15 (by decide) (by omega) (by omega) (by omega) (by omega) (fun c15 => ?_) (fun c15 => ?_)
      · refine wz_iconst (n := 0) hx hb d_W_isOne_22 ?_
        rw [← hQ]
        exact pw_zret hx hb hr (by decide) hlocks hw (⟨by congr 1; split <;> omega, rfl⟩) d_W_isOne_23
      · refine wz_iconst (n := 1) hx hb d_W_isOne_18 ?_
        refine lv_goto (tgt := 23) hx hb d_W_isOne_19 (by decide) ?_
        rw [← hQ]
        exact pw_zret hx hb hr (by decide) hlocks hw (⟨by congr 1; split <;> omega, rfl⟩) d_W_isOne_23
  rw [hH, hlo] at hgo
  exact hgo
set_option maxHeartbeats 4000000 in
set_option maxRecDepth 100000 in
/-- Whole.spareBits() -/
theorem c_W_spareBits (l : Launch) (D : va_G) (ty : Nat → ClassId) (ad : Nat → Nat) (M : Nat) (F : Nat → va_E) (sz : Nat) (w N n : Nat) (g : Nat → Int32) (hM : w + 1 < M) (hN : N < 1000) (hn : n ≤ N) (hd : ∀ i, i < n → dl g i < 2147483648) (ht : n = 0 ∨ dl g (n - 1) ≠ 0) (hO_w : F (w) = .inr (0, [.ref (ad (w + 1)), .int (iI ((n : Int)))])) (hA_w : F (w + 1) = .inl (ty 0, N, .inl (g))) :
    CI l y_W_spareBits w_W_spareBits ({ frames := 1, cells := 0, slots := 0, locals := 21 } : Room) [.ref (ad (w))] D ty ad M F sz (fun r F1 => (∃ s : Nat, r = iI s ∧ s ≤ 30 ∧ (n = 0 → s = 0) ∧ (0 < n → 2 ^ (30 - s) ≤ dl g (n - 1) ∧ dl g (n - 1) < 2 ^ (31 - s))) ∧ F1 = F) := by
  refine Met.ofW (cc := b_W_spareBits) (maxL := 1) (ret := (some .int)) (by decide) rfl ?_
  intro p e s m args below meth c s₁ B hml hv
  obtain ⟨rfl, hsz, hP, hK, hD0⟩ := hv
  have hx := B.exec
  have hb := B.bytes
  have hr := B.returns
  have hts := atoms_spec (ws := w_W_spareBits) B.pre
  have hq : ∀ w ∈ wT, w.before _ s = true := fun w h => hts w (List.mem_cons_of_mem _ h)
  have hown : s.vm.findClass R_W = some m.cls := findClass_of_methodNamed B.named
  have hlocks := B.notSynchronized
  subst hsz
  have hw := pw_start hP hK hD0
  have hl := lv_entry ([.ref (ad (w))]) (n := 1) (Nat.le_of_ble_eq_true rfl)
  rw [lg_entry_eq]
  generalize (lg_sl ([.ref (ad (w))]) ++ List.replicate (1 - (lg_sl ([.ref (ad (w))])).length) Slot.unset).toArray = ls at hl ⊢
  have hl : lv_has ls 1 [(0, .ref (ad (w)))] := hl
  change W p l e ({ frames := 1, cells := 0, slots := 0, locals := 21 } : Room) s m ([.ref (ad (w))]).toArray below meth c s.heap [] 0 0 (MQ below (va_Qi (fun r F1 => (∃ s : Nat, r = iI s ∧ s ≤ 30 ∧ (n = 0 → s = 0) ∧ (0 < n → 2 ^ (30 - s) ≤ dl g (n - 1) ∧ dl g (n - 1) < 2 ^ (31 - s))) ∧ F1 = F) (pAt D classes (tysL ty) ad M (pA ad M s.heap.size)) (pA ad M s.heap.size)) ([.ref (ad (w))]).toArray s 0 0 (pA ad M s.heap.size)) (F0 m 0 ls [])
  generalize hQ : MQ below (va_Qi (fun r F1 => (∃ s : Nat, r = iI s ∧ s ≤ 30 ∧ (n = 0 → s = 0) ∧ (0 < n → 2 ^ (30 - s) ≤ dl g (n - 1) ∧ dl g (n - 1) < 2 ^ (31 - s))) ∧ F1 = F) (pAt D classes (tysL ty) ad M (pA ad M s.heap.size)) (pA ad M s.heap.size)) ([.ref (ad (w))]).toArray s 0 0 (pA ad M s.heap.size) = Q
  obtain ⟨H, hH⟩ : ∃ H, H = s.heap := ⟨_, rfl⟩
  obtain ⟨locs, hlo⟩ : ∃ z : List Loc, z = [] := ⟨_, rfl⟩
  have hw : pw D classes (tysL ty) ad M F (pA ad M s.heap.size) s H locs := by rw [hH, hlo]; exact hw
  have hgo : W p l e ({ frames := 1, cells := 0, slots := 0, locals := 21 } : Room) s m ([.ref (ad (w))]).toArray below meth c H locs 0 0 Q (F0 m 0 ls []) := by
    refine lv_aload_n hx hb d_W_spareBits_0 rfl (lv_at hl 0 rfl) ?_
    refine pw_get (ci := 0) (C := R_W) (T := T_W) (N := 2) hx hb hq i_W hown hw (by omega) hO_w rfl 1 (by decide) (hq _ fl_W_21) (fun _ h9 => h9) rfl d_W_spareBits_1 ?_
    refine wz_if_ne (tgt := 11) hx hb d_W_spareBits_4 (by decide) (by omega) (by omega) (fun c4 => ?_) (fun c4 => ?_)
    · refine lv_aload_n hx hb d_W_spareBits_11 rfl (lv_at hl 0 rfl) ?_
      refine pw_get (ci := 0) (C := R_W) (T := T_W) (N := 2) hx hb hq i_W hown hw (by omega) hO_w rfl 0 (by decide) (hq _ fl_W_17) (fun _ h9 => h9) rfl d_W_spareBits_12 ?_
      refine lv_aload_n hx hb d_W_spareBits_15 rfl (lv_at hl 0 rfl) ?_
      refine pw_get (ci := 0) (C := R_W) (T := T_W) (N := 2) hx hb hq i_W hown hw (by omega) hO_w rfl 1 (by decide) (hq _ fl_W_21) (fun _ h9 => h9) rfl d_W_spareBits_16 ?_
      refine wz_iconst (n := 1) hx hb d_W_spareBits_19 ?_
      refine wz_isub hx hb d_W_spareBits_20 rfl ?_
      refine pw_iald (k := n - 1) hx hb hw 0 (by omega) hA_w rfl (iI_in (by omega) (by omega) (by omega)) ((iI_cl (by omega) (by omega)).trans (by omega)) d_W_spareBits_21 ?_
      refine lv_topi (fun x21 ex21 => ?_)
      obtain rfl : x21 = iI ((dl g (n - 1) : Int)) := ex21.trans (dl_get (hd (n - 1) (by omega)))
      have hd0 := hd (n - 1) (by omega)
      have hd1 : 0 < dl g (n - 1) := by omega
      refine pw_calli hw (va_runS (As := [.int (iI ((dl g (n - 1) : Int)))]) (rest := []) ⟨hx, hb, hml, hown, hq⟩ (c_JI_numberOfLeadingZeros l D ty ad M F H.size (dl g (n - 1)) (by omega) (by omega)) (va_cwS 1 hq (gS ml_W_32 st_JI_numberOfLeadingZeros in_JI m_JI_numberOfLeadingZeros) rfl rfl rfl (by decide +kernel) ⟨Nat.le_of_ble_eq_true rfl, Nat.le_of_ble_eq_true rfl⟩) (pw_preS hw) rfl rfl hl.1 rfl (lv_room (Nat.le_of_ble_eq_true rfl)) d_W_spareBits_22 ⟨Nat.le_of_ble_eq_true rfl, Nat.le_of_ble_eq_true rfl⟩) (fun r22 F22 H locs q22 hw => ?_)
      obtain ⟨⟨k, rfl, hk1, hk2, hk3, hk4⟩, eF22⟩ := q22
      rw [eF22] at hw
      clear eF22
      refine wz_iconst (n := 1) hx hb d_W_spareBits_25 ?_
      refine wz_isub (z := ((k - 1 : Nat) : Int)) hx hb d_W_spareBits_26 (by omega) ?_
      rw [← hQ]
      exact pw_iret hx hb hr hlocks hw (⟨⟨k - 1, rfl, by omega, fun h => absurd h (by omega), fun _ => ⟨by rw [show 30 - (k - 1) = 31 - k by omega]; exact hk3, by rw [show 31 - (k - 1) = 32 - k by omega]; exact hk4⟩⟩, rfl⟩) d_W_spareBits_27
    · refine wz_iconst (n := 0) hx hb d_W_spareBits_7 ?_
      refine lv_goto (tgt := 27) hx hb d_W_spareBits_8 (by decide) ?_
      rw [← hQ]
      exact pw_iret hx hb hr hlocks hw (⟨⟨0, rfl, by omega, fun _ => rfl, fun h => absurd h (by omega)⟩, rfl⟩) d_W_spareBits_27
  rw [hH, hlo] at hgo
  exact hgo
set_option maxHeartbeats 4000000 in
set_option maxRecDepth 100000 in
/-- Whole.bits() -/
theorem c_W_bits (l : Launch) (D : va_G) (ty : Nat → ClassId) (ad : Nat → Nat) (M : Nat) (F : Nat → va_E) (sz : Nat) (w N v : Nat) (hM : w + 1 < M) (hN : N < 1000) (h : Wv ty ad F w N v) :
    CI l y_W_bits w_W_bits ({ frames := 2, cells := 0, slots := 0, locals := 41 } : Room) [.ref (ad (w))] D ty ad M F sz (fun r F1 => r = iI (bl v) ∧ F1 = F) := by
  refine Met.ofW (cc := b_W_bits) (maxL := 1) (ret := (some .int)) (by decide) rfl ?_
  intro p e s m args below meth c s₁ B hml hv
  obtain ⟨rfl, hsz, hP, hK, hD0⟩ := hv
  have hx := B.exec
  have hb := B.bytes
  have hr := B.returns
  have hts := atoms_spec (ws := w_W_bits) B.pre
  have hq : ∀ w ∈ wT, w.before _ s = true := fun w h => hts w (List.mem_cons_of_mem _ h)
  have hown : s.vm.findClass R_W = some m.cls := findClass_of_methodNamed B.named
  have hlocks := B.notSynchronized
  subst hsz
  have hw := pw_start hP hK hD0
  have hl := lv_entry ([.ref (ad (w))]) (n := 1) (Nat.le_of_ble_eq_true rfl)
  rw [lg_entry_eq]
  generalize (lg_sl ([.ref (ad (w))]) ++ List.replicate (1 - (lg_sl ([.ref (ad (w))])).length) Slot.unset).toArray = ls at hl ⊢
  have hl : lv_has ls 1 [(0, .ref (ad (w)))] := hl
  change W p l e ({ frames := 2, cells := 0, slots := 0, locals := 41 } : Room) s m ([.ref (ad (w))]).toArray below meth c s.heap [] 0 0 (MQ below (va_Qi (fun r F1 => r = iI (bl v) ∧ F1 = F) (pAt D classes (tysL ty) ad M (pA ad M s.heap.size)) (pA ad M s.heap.size)) ([.ref (ad (w))]).toArray s 0 0 (pA ad M s.heap.size)) (F0 m 0 ls [])
  generalize hQ : MQ below (va_Qi (fun r F1 => r = iI (bl v) ∧ F1 = F) (pAt D classes (tysL ty) ad M (pA ad M s.heap.size)) (pA ad M s.heap.size)) ([.ref (ad (w))]).toArray s 0 0 (pA ad M s.heap.size) = Q
  obtain ⟨H, hH⟩ : ∃ H, H = s.heap := ⟨_, rfl⟩
  obtain ⟨locs, hlo⟩ : ∃ z : List Loc, z = [] := ⟨_, rfl⟩
  have hw : pw D classes (tysL ty) ad M F (pA ad M s.heap.size) s H locs := by rw [hH, hlo]; exact hw
  have hgo : W p l e ({ frames := 2, cells := 0, slots := 0, locals := 41 } : Room) s m ([.ref (ad (w))]).toArray below meth c H locs 0 0 Q (F0 m 0 ls []) := by
    obtain ⟨n, g, ⟨hO_w, hA_w⟩, hok⟩ := h
    have hn := hok.1
    have hd := hok.2.1
    have hz := hok.zero
    refine lv_aload_n hx hb d_W_bits_0 rfl (lv_at hl 0 rfl) ?_
    refine pw_get (ci := 0) (C := R_W) (T := T_W) (N := 2) hx hb hq i_W hown hw (by omega) hO_w rfl 1 (by decide) (hq _ fl_W_21) (fun _ h9 => h9) rfl d_W_bits_1 ?_
    refine wz_if_ne (tgt := 9) hx hb d_W_bits_4 (by decide) (by omega) (by omega) (fun c4 => ?_) (fun c4 => ?_)
    · refine lv_aload_n hx hb d_W_bits_9 rfl (lv_at hl 0 rfl) ?_
      refine pw_get (ci := 0) (C := R_W) (T := T_W) (N := 2) hx hb hq i_W hown hw (by omega) hO_w rfl 1 (by decide) (hq _ fl_W_21) (fun _ h9 => h9) rfl d_W_bits_10 ?_
      refine wz_bipush (n := 31) hx hb d_W_bits_13 (by decide) ?_
      refine wz_imul hx hb d_W_bits_15 rfl ?_
      refine lv_aload_n hx hb d_W_bits_16 rfl (lv_at hl 0 rfl) ?_
      refine pw_calli hw (va_runV (As := []) (rest := [.int (iI ((n : Int) * 31))]) ⟨hx, hb, hml, hown, hq⟩ (c_W_spareBits l D ty ad M F H.size w N n g hM hN hn hd hok.2.2.1 hO_w hA_w) (cwV 0 hq (gV ml_W_29 im_W_spareBits se_W_spareBits in_W m_W_spareBits) rfl rfl rfl (by decide +kernel) ⟨Nat.le_of_ble_eq_true rfl, Nat.le_of_ble_eq_true rfl⟩) (pw_preV hw (by omega) hO_w rfl) rfl rfl hl.1 rfl (lv_room (Nat.le_of_ble_eq_true rfl)) d_W_bits_17 ⟨Nat.le_of_ble_eq_true rfl, Nat.le_of_ble_eq_true rfl⟩) (fun r17 F17 H locs q17 hw => ?_)
      obtain ⟨⟨s0, rfl, hs1, hs2, hs3⟩, eF17⟩ := q17
      rw [eF17] at hw
      clear eF17
      obtain ⟨hs4, hs5⟩ := hs3 (by omega)
      refine wz_isub (z := ((31 * n - s0 : Nat) : Int)) hx hb d_W_bits_20 (by omega) ?_
      rw [← hQ]
      exact pw_iret hx hb hr hlocks hw (⟨by rw [hok.bl (t := 30 - s0) (by omega) hs4 (by rw [show 30 - s0 + 1 = 31 - s0 by omega]; exact hs5)]; congr 1; omega, rfl⟩) d_W_bits_21
    · refine wz_iconst (n := 0) hx hb d_W_bits_7 ?_
      rw [← hQ]
      exact pw_iret hx hb hr hlocks hw (⟨by rw [show v = 0 by omega]; rfl, rfl⟩) d_W_bits_8
  rw [hH, hlo] at hgo
  exact hgo
set_option maxHeartbeats 4000000 in
set_option maxRecDepth 100000 in
/-- Whole.isSmallEnough() -/
theorem c_W_isSmallEnough (l : Launch) (D : va_G) (ty : Nat → ClassId) (ad : Nat → Nat) (M : Nat) (F : Nat → va_E) (sz : Nat) (w N v : Nat) (hM : w + 1 < M) (hN : N < 1000) (h : Wv ty ad F w N v) :
    CI l y_W_isSmallEnough w_W_isSmallEnough ({ frames := 3, cells := 0, slots := 0, locals := 61 } : Room) [.ref (ad (w))] D ty ad M F sz (fun r F1 => r = iI (if v < 2 ^ 2048 then 1 else 0) ∧ F1 = F) := by
  refine Met.ofW (cc := b_W_isSmallEnough) (maxL := 1) (ret := (some .boolean)) (by decide) rfl ?_
  intro p e s m args below meth c s₁ B hml hv
  obtain ⟨rfl, hsz, hP, hK, hD0⟩ := hv
  have hx := B.exec
  have hb := B.bytes
  have hr := B.returns
  have hts := atoms_spec (ws := w_W_isSmallEnough) B.pre
  have hq : ∀ w ∈ wT, w.before _ s = true := fun w h => hts w (List.mem_cons_of_mem _ h)
  have hown : s.vm.findClass R_W = some m.cls := findClass_of_methodNamed B.named
  have hlocks := B.notSynchronized
  subst hsz
  have hw := pw_start hP hK hD0
  have hl := lv_entry ([.ref (ad (w))]) (n := 1) (Nat.le_of_ble_eq_true rfl)
  rw [lg_entry_eq]
  generalize (lg_sl ([.ref (ad (w))]) ++ List.replicate (1 - (lg_sl ([.ref (ad (w))])).length) Slot.unset).toArray = ls at hl ⊢
  have hl : lv_has ls 1 [(0, .ref (ad (w)))] := hl
  change W p l e ({ frames := 3, cells := 0, slots := 0, locals := 61 } : Room) s m ([.ref (ad (w))]).toArray below meth c s.heap [] 0 0 (MQ below (va_Qi (fun r F1 => r = iI (if v < 2 ^ 2048 then 1 else 0) ∧ F1 = F) (pAt D classes (tysL ty) ad M (pA ad M s.heap.size)) (pA ad M s.heap.size)) ([.ref (ad (w))]).toArray s 0 0 (pA ad M s.heap.size)) (F0 m 0 ls [])
  generalize hQ : MQ below (va_Qi (fun r F1 => r = iI (if v < 2 ^ 2048 then 1 else 0) ∧ F1 = F) (pAt D classes (tysL ty) ad M (pA ad M s.heap.size)) (pA ad M s.heap.size)) ([.ref (ad (w))]).toArray s 0 0 (pA ad M s.heap.size) = Q
  obtain ⟨H, hH⟩ : ∃ H, H = s.heap := ⟨_, rfl⟩
  obtain ⟨locs, hlo⟩ : ∃ z : List Loc, z = [] := ⟨_, rfl⟩
  have hw : pw D classes (tysL ty) ad M F (pA ad M s.heap.size) s H locs := by rw [hH, hlo]; exact hw
  have hgo : W p l e ({ frames := 3, cells := 0, slots := 0, locals := 61 } : Room) s m ([.ref (ad (w))]).toArray below meth c H locs 0 0 Q (F0 m 0 ls []) := by
    have hb0 : bl v < 40000 := by
      obtain ⟨n, g, -, hok⟩ := h
      have h1 := hok.ltN
      rw [pow31] at h1
      have h2 := bl_le.mpr h1
      omega
    obtain ⟨n, g, ⟨hO_w, hA_w⟩, -⟩ := id h
    have hbl := @bl_le v 2048
    refine lv_aload_n hx hb d_W_isSmallEnough_0 rfl (lv_at hl 0 rfl) ?_
    refine pw_calli hw (va_runV (As := []) (rest := []) ⟨hx, hb, hml, hown, hq⟩ (c_W_bits l D ty ad M F H.size w N v hM hN h) (cwV 0 hq (gV ml_W_25 im_W_bits se_W_bits in_W m_W_bits) rfl rfl rfl (by decide +kernel) ⟨Nat.le_of_ble_eq_true rfl, Nat.le_of_ble_eq_true rfl⟩) (pw_preV hw (by omega) hO_w rfl) rfl rfl hl.1 rfl (lv_room (Nat.le_of_ble_eq_true rfl)) d_W_isSmallEnough_1 ⟨Nat.le_of_ble_eq_true rfl, Nat.le_of_ble_eq_true rfl⟩) (fun r1 F1 H locs q1 hw => ?_)
    obtain ⟨er1, eF1⟩ := q1
    rw [eF1] at hw
    clear eF1
    subst er1
    refine wz_sipush (n := 2048) hx hb d_W_isSmallEnough_4 (by decide) ?_
    refine wz_icmp_gt (tgt := 14) hx hb d_W_isSmallEnough_7 (by decide) (by omega) (by omega) (by omega) (by omega) (fun c7 => ?_) (fun c7 => ?_)
    · refine wz_iconst (n := 0) hx hb d_W_isSmallEnough_14 ?_
      rw [← hQ]
      exact pw_zret hx hb hr (by decide) hlocks hw (⟨by congr 1; split <;> omega, rfl⟩) d_W_isSmallEnough_15
    · refine wz_iconst (n := 1) hx hb d_W_isSmallEnough_10 ?_
      refine lv_goto (tgt := 15) hx hb d_W_isSmallEnough_11 (by decide) ?_
      rw [← hQ]
      exact pw_zret hx hb hr (by decide) hlocks hw (⟨by congr 1; split <;> omega, rfl⟩) d_W_isSmallEnough_15
  rw [hH, hlo] at hgo
  exact hgo
set_option maxHeartbeats 4000000 in
set_option maxRecDepth 100000 in
/-- Whole.limb(i) -/
theorem c_W_limb (l : Launch) (D : va_G) (ty : Nat → ClassId) (ad : Nat → Nat) (M : Nat) (F : Nat → va_E) (sz : Nat) (w N n : Nat) (g : Nat → Int32) (i : Int) (hM : w + 1 < M) (hN : N < 1000) (hn : n ≤ N) (hd : ∀ i, i < n → dl g i < 2147483648) (hi : -10 < i ∧ i < 10000) (hO_w : F (w) = .inr (0, [.ref (ad (w + 1)), .int (iI ((n : Int)))])) (hA_w : F (w + 1) = .inl (ty 0, N, .inl (g))) :
    CI l y_W_limb w_W_limb ({ frames := 0, cells := 0, slots := 0, locals := 0 } : Room) [.ref (ad (w)), .int (iI (i))] D ty ad M F sz (fun r F1 => r = iI (lmz g n i) ∧ F1 = F) := by
  refine Met.ofW (cc := b_W_limb) (maxL := 2) (ret := (some .int)) (by decide) rfl ?_
  intro p e s m args below meth c s₁ B hml hv
  obtain ⟨rfl, hsz, hP, hK, hD0⟩ := hv
  have hx := B.exec
  have hb := B.bytes
  have hr := B.returns
  have hts := atoms_spec (ws := w_W_limb) B.pre
  have hq : ∀ w ∈ wT, w.before _ s = true := fun w h => hts w (List.mem_cons_of_mem _ h)
  have hown : s.vm.findClass R_W = some m.cls := findClass_of_methodNamed B.named
  have hlocks := B.notSynchronized
  subst hsz
  have hw := pw_start hP hK hD0
  have hl := lv_entry ([.ref (ad (w)), .int (iI (i))]) (n := 2) (Nat.le_of_ble_eq_true rfl)
  rw [lg_entry_eq]
  generalize (lg_sl ([.ref (ad (w)), .int (iI (i))]) ++ List.replicate (2 - (lg_sl ([.ref (ad (w)), .int (iI (i))])).length) Slot.unset).toArray = ls at hl ⊢
  have hl : lv_has ls 2 [(0, .ref (ad (w))), (1, .int (iI (i)))] := hl
  change W p l e ({ frames := 0, cells := 0, slots := 0, locals := 0 } : Room) s m ([.ref (ad (w)), .int (iI (i))]).toArray below meth c s.heap [] 0 0 (MQ below (va_Qi (fun r F1 => r = iI (lmz g n i) ∧ F1 = F) (pAt D classes (tysL ty) ad M (pA ad M s.heap.size)) (pA ad M s.heap.size)) ([.ref (ad (w)), .int (iI (i))]).toArray s 0 0 (pA ad M s.heap.size)) (F0 m 0 ls [])
  generalize hQ : MQ below (va_Qi (fun r F1 => r = iI (lmz g n i) ∧ F1 = F) (pAt D classes (tysL ty) ad M (pA ad M s.heap.size)) (pA ad M s.heap.size)) ([.ref (ad (w)), .int (iI (i))]).toArray s 0 0 (pA ad M s.heap.size) = Q
  obtain ⟨H, hH⟩ : ∃ H, H = s.heap := ⟨_, rfl⟩
  obtain ⟨locs, hlo⟩ : ∃ z : List Loc, z = [] := ⟨_, rfl⟩
  have hw : pw D classes (tysL ty) ad M F (pA ad M s.heap.size) s H locs := by rw [hH, hlo]; exact hw
  have hgo : W p l e ({ frames := 0, cells := 0, slots := 0, locals := 0 } : Room) s m ([.ref (ad (w)), .int (iI (i))]).toArray below meth c H locs 0 0 Q (F0 m 0 ls []) := by
    refine lv_iload_n hx hb d_W_limb_0 rfl (lv_at hl 1 rfl) ?_
    refine wz_if_lt (tgt := 21) hx hb d_W_limb_1 (by decide) (by omega) (by omega) (fun c1 => ?_) (fun c1 => ?_)
    · refine wz_iconst (n := 0) hx hb d_W_limb_21 ?_
      rw [← hQ]
      exact pw_iret hx hb hr hlocks hw (⟨by rw [lmz, if_neg (by omega)]; rfl, rfl⟩) d_W_limb_22
    · refine lv_iload_n hx hb d_W_limb_4 rfl (lv_at hl 1 rfl) ?_
      refine lv_aload_n hx hb d_W_limb_5 rfl (lv_at hl 0 rfl) ?_
      refine pw_get (ci := 0) (C := R_W) (T := T_W) (N := 2) hx hb hq i_W hown hw (by omega) hO_w rfl 1 (by decide) (hq _ fl_W_21) (fun _ h9 => h9) rfl d_W_limb_6 ?_
      refine wz_icmp_ge (tgt := 21) hx hb d_W_limb_9 (by decide) (by omega) (by omega) (by omega) (by omega) (fun c9 => ?_) (fun c9 => ?_)
      · refine wz_iconst (n := 0) hx hb d_W_limb_21 ?_
        rw [← hQ]
        exact pw_iret hx hb hr hlocks hw (⟨by rw [lmz, if_neg (by omega)]; rfl, rfl⟩) d_W_limb_22
      · refine lv_aload_n hx hb d_W_limb_12 rfl (lv_at hl 0 rfl) ?_
        refine pw_get (ci := 0) (C := R_W) (T := T_W) (N := 2) hx hb hq i_W hown hw (by omega) hO_w rfl 0 (by decide) (hq _ fl_W_17) (fun _ h9 => h9) rfl d_W_limb_13 ?_
        refine lv_iload_n hx hb d_W_limb_16 rfl (lv_at hl 1 rfl) ?_
        refine pw_iald (k := i.toNat) hx hb hw 0 (by omega) hA_w rfl (iI_in (by omega) (by omega) (by omega)) ((iI_cl (by omega) (by omega)).trans (by omega)) d_W_limb_17 ?_
        refine lv_topi (fun x17 ex17 => ?_)
        obtain rfl : x17 = iI ((dl g i.toNat : Int)) := ex17.trans (dl_get (hd i.toNat (by omega)))
        refine lv_goto (tgt := 22) hx hb d_W_limb_18 (by decide) ?_
        rw [← hQ]
        exact pw_iret hx hb hr hlocks hw (⟨by rw [lmz, if_pos (by omega)], rfl⟩) d_W_limb_22
  rw [hH, hlo] at hgo
  exact hgo
