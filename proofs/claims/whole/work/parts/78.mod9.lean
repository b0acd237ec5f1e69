/-! the reference: print, isDigit, endOf, hasMore, wipe, place, character: by program -/
set_option maxHeartbeats 4000000 in
set_option maxRecDepth 100000 in
/-- print(c) -/
theorem c_M_print (l : Launch) (D : va_G) (ty : Nat → ClassId) (ad : Nat → Nat) (M : Nat) (F : Nat → va_E) (sz : Nat) (hM : 103 < M) (co wr : Int) (n ch : Nat) (tt : Nat → Int32) (hO : F 98 = oM ad co (n : Int) wr) (h102 : F 102 = aN ty 0 1400 tt) (hn : n < 1400) :
    CV l y_M_print w_M_print ({ frames := 0, cells := 0, slots := 0, locals := 0 } : Room) [.ref (ad (98)), .int (iI ((ch : Int)))] D ty ad M F sz (fun F1 => F1 98 = oM ad co ((n + 1 : Nat) : Int) wr ∧ F1 102 = aN ty 0 1400 (upd tt n (iI (ch : Int))) ∧ ∀ y, y ≠ 98 → y ≠ 102 → F1 y = F y) := by
  refine Met.ofW (cc := b_M_print) (maxL := 2) (ret := none) (by decide) rfl ?_
  intro p e s m args below meth c s₁ B hml hv
  obtain ⟨rfl, hsz, hP, hK, hD0⟩ := hv
  have hx := B.exec
  have hb := B.bytes
  have hr := B.returns
  have hts := atoms_spec (ws := w_M_print) B.pre
  have hq : ∀ w ∈ wT, w.before _ s = true := fun w h => hts w (List.mem_cons_of_mem _ h)
  have hown : s.vm.findClass R_M = some m.cls := findClass_of_methodNamed B.named
  have hlocks := B.notSynchronized
  subst hsz
  have hw := pw_start hP hK hD0
  have hl := lv_entry ([.ref (ad (98)), .int (iI ((ch : Int)))]) (n := 2) (Nat.le_of_ble_eq_true rfl)
  rw [lg_entry_eq]
  generalize (lg_sl ([.ref (ad (98)), .int (iI ((ch : Int)))]) ++ List.replicate (2 - (lg_sl ([.ref (ad (98)), .int (iI ((ch : Int)))])).length) Slot.unset).toArray = ls at hl ⊢
  have hl : lv_has ls 2 [(0, .ref (ad (98))), (1, .int (iI ((ch : Int))))] := hl
  change W p l e ({ frames := 0, cells := 0, slots := 0, locals := 0 } : Room) s m ([.ref (ad (98)), .int (iI ((ch : Int)))]).toArray below meth c s.heap [] 0 0 (MQ below (va_Qv (fun F1 => F1 98 = oM ad co ((n + 1 : Nat) : Int) wr ∧ F1 102 = aN ty 0 1400 (upd tt n (iI (ch : Int))) ∧ ∀ y, y ≠ 98 → y ≠ 102 → F1 y = F y) (pAt D classes (tysL ty) ad M (pA ad M s.heap.size)) (pA ad M s.heap.size)) ([.ref (ad (98)), .int (iI ((ch : Int)))]).toArray s 0 0 (pA ad M s.heap.size)) (F0 m 0 ls [])
  generalize hQ : MQ below (va_Qv (fun F1 => F1 98 = oM ad co ((n + 1 : Nat) : Int) wr ∧ F1 102 = aN ty 0 1400 (upd tt n (iI (ch : Int))) ∧ ∀ y, y ≠ 98 → y ≠ 102 → F1 y = F y) (pAt D classes (tysL ty) ad M (pA ad M s.heap.size)) (pA ad M s.heap.size)) ([.ref (ad (98)), .int (iI ((ch : Int)))]).toArray s 0 0 (pA ad M s.heap.size) = Q
  obtain ⟨H, hH⟩ : ∃ H, H = s.heap := ⟨_, rfl⟩
  obtain ⟨locs, hlo⟩ : ∃ z : List Loc, z = [] := ⟨_, rfl⟩
  have hw : pw D classes (tysL ty) ad M F (pA ad M s.heap.size) s H locs := by rw [hH, hlo]; exact hw
  have hgo : W p l e ({ frames := 0, cells := 0, slots := 0, locals := 0 } : Room) s m ([.ref (ad (98)), .int (iI ((ch : Int)))]).toArray below meth c H locs 0 0 Q (F0 m 0 ls []) := by
    refine lv_aload_n hx hb d_M_print_0 rfl (lv_at hl 0 rfl) ?_
    refine pw_get (ci := 6) (C := R_M) (T := T_M) (N := 8) hx hb hq i_M hown hw (by omega) hO rfl 4 (by decide) (hq _ fl_M_20) (fun _ h9 => h9) rfl d_M_print_1 ?_
    refine lv_aload_n hx hb d_M_print_4 rfl (lv_at hl 0 rfl) ?_
    refine pw_get (ci := 6) (C := R_M) (T := T_M) (N := 8) hx hb hq i_M hown hw (by omega) hO rfl 5 (by decide) (hq _ fl_M_125) (fun _ h9 => h9) rfl d_M_print_5 ?_
    refine lv_iload_n hx hb d_M_print_8 rfl (lv_at hl 1 rfl) ?_
    refine pw_iast (k := n) hx hb hw 0 (by omega) h102 rfl (iI_in (by omega) (by omega) (by omega)) ((iI_cl (by omega) (by omega)).trans (by omega)) d_M_print_9 (fun F9 H locs eF9 hw => ?_)
    have m9_102 : F9 (102) = .inl (ty 0, 1400, .inl (upd tt (n) (iI ((ch : Int))))) := by rw [eF9]; exact va_up_self ..
    have hO_at_9 : F9 (98) = .inr (6, [.int (iI (co)), .ref (ad (99)), .ref (ad (100)), .ref (ad (101)), .ref (ad (102)), .int (iI ((n : Int))), .int (iI (wr)), .ref (ad (103))]) := (show F9 (98) = F (98) from by rw [eF9]; exact va_up_ne _ _ (by omega)).trans hO
    refine lv_aload_n hx hb d_M_print_10 rfl (lv_at hl 0 rfl) ?_
    refine lv_dup hx hb d_M_print_11 rfl ?_
    refine pw_get (ci := 6) (C := R_M) (T := T_M) (N := 8) hx hb hq i_M hown hw (by omega) hO_at_9 rfl 5 (by decide) (hq _ fl_M_125) (fun _ h9 => h9) rfl d_M_print_12 ?_
    refine wz_iconst (n := 1) hx hb d_M_print_15 ?_
    refine wz_iadd (z := ((n + 1 : Nat) : Int)) hx hb d_M_print_16 (by omega) ?_
    refine pw_put (ci := 6) (C := R_M) (T := T_M) (N := 8) (ty := .int) (fs' := [.int (iI (co)), .ref (ad (99)), .ref (ad (100)), .ref (ad (101)), .ref (ad (102)), .int (iI (((n + 1 : Nat) : Int))), .int (iI (wr)), .ref (ad (103))]) hx hb hq i_M ft_M ft_M_ok n_M hown hw (by omega) hO_at_9 rfl 5 (by decide) (hq _ fl_M_125) (fun _ h9 => h9) rfl (by decide +kernel) rfl rfl (Nat.le_of_ble_eq_true rfl) rfl d_M_print_17 (fun F17 H locs eF17 hw => ?_)
    have m17_98 : F17 (98) = .inr (6, [.int (iI (co)), .ref (ad (99)), .ref (ad (100)), .ref (ad (101)), .ref (ad (102)), .int (iI (((n + 1 : Nat) : Int))), .int (iI (wr)), .ref (ad (103))]) := by rw [eF17]; exact va_up_self ..
    have m9_102_at_17 : F17 (102) = .inl (ty 0, 1400, .inl (upd tt (n) (iI ((ch : Int))))) := (show F17 (102) = F9 (102) from by rw [eF17]; exact va_up_ne _ _ (by omega)).trans m9_102
    rw [← hQ]
    exact pw_vret hx hb hr hlocks hw (⟨m17_98, m9_102_at_17, fun y9 h1 h2 => (show F17 (y9) = F9 (y9) from by rw [eF17]; exact va_up_ne _ _ (by omega)).trans (show F9 (y9) = F (y9) from by rw [eF9]; exact va_up_ne _ _ (by omega))⟩) d_M_print_20
  rw [hH, hlo] at hgo
  exact hgo
set_option maxHeartbeats 4000000 in
set_option maxRecDepth 100000 in
/-- isDigit(i) -/
theorem c_M_isDigit (l : Launch) (D : va_G) (ty : Nat → ClassId) (ad : Nat → Nat) (M : Nat) (F : Nat → va_E) (sz : Nat) (hM : 103 < M) (co wr : Int) (n : Nat) (tx : Nat → Nat) (tt : Nat → Int32) (hO : F 98 = oM ad co (n : Int) wr) (h102 : F 102 = aN ty 0 1400 tt) (htt : ∀ i, i < n → tt i = iI (tx i : Int)) (hn : n ≤ 1400) (hch : ∀ i, i < n → tx i < 128) (i : Nat) (hi : i ≤ 1400) :
    CI l y_M_isDigit w_M_isDigit ({ frames := 0, cells := 0, slots := 0, locals := 0 } : Room) [.ref (ad (98)), .int (iI ((i : Int)))] D ty ad M F sz (fun r F1 => r = iI ((dgI tx n i : Nat) : Int) ∧ F1 = F) := by
  refine Met.ofW (cc := b_M_isDigit) (maxL := 2) (ret := (some .boolean)) (by decide) rfl ?_
  intro p e s m args below meth c s₁ B hml hv
  obtain ⟨rfl, hsz, hP, hK, hD0⟩ := hv
  have hx := B.exec
  have hb := B.bytes
  have hr := B.returns
  have hts := atoms_spec (ws := w_M_isDigit) B.pre
  have hq : ∀ w ∈ wT, w.before _ s = true := fun w h => hts w (List.mem_cons_of_mem _ h)
  have hown : s.vm.findClass R_M = some m.cls := findClass_of_methodNamed B.named
  have hlocks := B.notSynchronized
  subst hsz
  have hw := pw_start hP hK hD0
  have hl := lv_entry ([.ref (ad (98)), .int (iI ((i : Int)))]) (n := 2) (Nat.le_of_ble_eq_true rfl)
  rw [lg_entry_eq]
  generalize (lg_sl ([.ref (ad (98)), .int (iI ((i : Int)))]) ++ List.replicate (2 - (lg_sl ([.ref (ad (98)), .int (iI ((i : Int)))])).length) Slot.unset).toArray = ls at hl ⊢
  have hl : lv_has ls 2 [(0, .ref (ad (98))), (1, .int (iI ((i : Int))))] := hl
  change W p l e ({ frames := 0, cells := 0, slots := 0, locals := 0 } : Room) s m ([.ref (ad (98)), .int (iI ((i : Int)))]).toArray below meth c s.heap [] 0 0 (MQ below (va_Qi (fun r F1 => r = iI ((dgI tx n i : Nat) : Int) ∧ F1 = F) (pAt D classes (tysL ty) ad M (pA ad M s.heap.size)) (pA ad M s.heap.size)) ([.ref (ad (98)), .int (iI ((i : Int)))]).toArray s 0 0 (pA ad M s.heap.size)) (F0 m 0 ls [])
  generalize hQ : MQ below (va_Qi (fun r F1 => r = iI ((dgI tx n i : Nat) : Int) ∧ F1 = F) (pAt D classes (tysL ty) ad M (pA ad M s.heap.size)) (pA ad M s.heap.size)) ([.ref (ad (98)), .int (iI ((i : Int)))]).toArray s 0 0 (pA ad M s.heap.size) = Q
  obtain ⟨H, hH⟩ : ∃ H, H = s.heap := ⟨_, rfl⟩
  obtain ⟨locs, hlo⟩ : ∃ z : List Loc, z = [] := ⟨_, rfl⟩
  have hw : pw D classes (tysL ty) ad M F (pA ad M s.heap.size) s H locs := by rw [hH, hlo]; exact hw
  have hgo : W p l e ({ frames := 0, cells := 0, slots := 0, locals := 0 } : Room) s m ([.ref (ad (98)), .int (iI ((i : Int)))]).toArray below meth c H locs 0 0 Q (F0 m 0 ls []) := by
    refine lv_iload_n hx hb d_M_isDigit_0 rfl (lv_at hl 1 rfl) ?_
    refine lv_aload_n hx hb d_M_isDigit_1 rfl (lv_at hl 0 rfl) ?_
    refine pw_get (ci := 6) (C := R_M) (T := T_M) (N := 8) hx hb hq i_M hown hw (by omega) hO rfl 5 (by decide) (hq _ fl_M_125) (fun _ h9 => h9) rfl d_M_isDigit_2 ?_
    refine wz_icmp_ge (tgt := 34) hx hb d_M_isDigit_5 (by decide) (by omega) (by omega) (by omega) (by omega) (fun c5 => ?_) (fun c5 => ?_)
    · refine wz_iconst (n := 0) hx hb d_M_isDigit_34 ?_
      rw [← hQ]
      exact pw_zret hx hb hr (by decide) hlocks hw (⟨dgI_0 (fun h9 => by have := h9.1; have := h9.2.1; have := h9.2.2; omega), rfl⟩) d_M_isDigit_35
    · have hc9 := hch i (by omega)
      refine lv_aload_n hx hb d_M_isDigit_8 rfl (lv_at hl 0 rfl) ?_
      refine pw_get (ci := 6) (C := R_M) (T := T_M) (N := 8) hx hb hq i_M hown hw (by omega) hO rfl 4 (by decide) (hq _ fl_M_20) (fun _ h9 => h9) rfl d_M_isDigit_9 ?_
      refine lv_iload_n hx hb d_M_isDigit_12 rfl (lv_at hl 1 rfl) ?_
      refine pw_iald (k := i) hx hb hw 0 (by omega) h102 rfl (iI_in (by omega) (by omega) (by omega)) ((iI_cl (by omega) (by omega)).trans (by omega)) d_M_isDigit_13 ?_
      refine lv_topi (fun x13 ex13 => ?_)
      obtain rfl : x13 = iI ((tx i : Int)) := ex13.trans (htt i (by omega))
      refine wz_bipush (n := 48) hx hb d_M_isDigit_14 (by decide) ?_
      refine wz_icmp_lt (tgt := 34) hx hb d_M_isDigit_16 (by decide) (by omega) (by omega) (by omega) (by omega) (fun c16 => ?_) (fun c16 => ?_)
      · refine wz_iconst (n := 0) hx hb d_M_isDigit_34 ?_
        rw [← hQ]
        exact pw_zret hx hb hr (by decide) hlocks hw (⟨dgI_0 (fun h9 => by have := h9.1; have := h9.2.1; have := h9.2.2; omega), rfl⟩) d_M_isDigit_35
      · refine lv_aload_n hx hb d_M_isDigit_19 rfl (lv_at hl 0 rfl) ?_
        refine pw_get (ci := 6) (C := R_M) (T := T_M) (N := 8) hx hb hq i_M hown hw (by omega) hO rfl 4 (by decide) (hq _ fl_M_20) (fun _ h9 => h9) rfl d_M_isDigit_20 ?_
        refine lv_iload_n hx hb d_M_isDigit_23 rfl (lv_at hl 1 rfl) ?_
        refine pw_iald (k := i) hx hb hw 0 (by omega) h102 rfl (iI_in (by omega) (by omega) (by omega)) ((iI_cl (by omega) (by omega)).trans (by omega)) d_M_isDigit_24 ?_
        refine lv_topi (fun x24 ex24 => ?_)
        obtain rfl : x24 = iI ((tx i : Int)) := ex24.trans (htt i (by omega))
        refine wz_bipush (n := 57) hx hb d_M_isDigit_25 (by decide) ?_
        refine wz_icmp_gt (tgt := 34) hx hb d_M_isDigit_27 (by decide) (by omega) (by omega) (by omega) (by omega) (fun c27 => ?_) (fun c27 => ?_)
        · refine wz_iconst (n := 0) hx hb d_M_isDigit_34 ?_
          rw [← hQ]
          exact pw_zret hx hb hr (by decide) hlocks hw (⟨dgI_0 (fun h9 => by have := h9.1; have := h9.2.1; have := h9.2.2; omega), rfl⟩) d_M_isDigit_35
        · refine wz_iconst (n := 1) hx hb d_M_isDigit_30 ?_
          refine lv_goto (tgt := 35) hx hb d_M_isDigit_31 (by decide) ?_
          rw [← hQ]
          exact pw_zret hx hb hr (by decide) hlocks hw (⟨dgI_1 ⟨by omega, by omega, by omega⟩, rfl⟩) d_M_isDigit_35
  rw [hH, hlo] at hgo
  exact hgo
set_option maxHeartbeats 4000000 in
set_option maxRecDepth 100000 in
/-- endOf(from) -/
theorem c_M_endOf (l : Launch) (D : va_G) (ty : Nat → ClassId) (ad : Nat → Nat) (M : Nat) (F : Nat → va_E) (sz : Nat) (hM : 103 < M) (co wr : Int) (n : Nat) (tx : Nat → Nat) (tt : Nat → Int32) (hO : F 98 = oM ad co (n : Int) wr) (h102 : F 102 = aN ty 0 1400 tt) (htt : ∀ i, i < n → tt i = iI (tx i : Int)) (hn : n ≤ 1400) (hch : ∀ i, i < n → tx i < 128) (i0 : Nat) (hi0 : i0 ≤ n) :
    CI l y_M_endOf w_M_endOf ({ frames := 1, cells := 0, slots := 0, locals := 21 } : Room) [.ref (ad (98)), .int (iI ((i0 : Int)))] D ty ad M F sz (fun r F1 => r = iI ((dend tx (n - i0) i0 : Nat) : Int) ∧ F1 = F) := by
  refine Met.ofW (cc := b_M_endOf) (maxL := 3) (ret := (some .int)) (by decide) rfl ?_
  intro p e s m args below meth c s₁ B hml hv
  obtain ⟨rfl, hsz, hP, hK, hD0⟩ := hv
  have hx := B.exec
  have hb := B.bytes
  have hr := B.returns
  have hts := atoms_spec (ws := w_M_endOf) B.pre
  have hq : ∀ w ∈ wT, w.before _ s = true := fun w h => hts w (List.mem_cons_of_mem _ h)
  have hown : s.vm.findClass R_M = some m.cls := findClass_of_methodNamed B.named
  have hlocks := B.notSynchronized
  subst hsz
  have hw := pw_start hP hK hD0
  have hl := lv_entry ([.ref (ad (98)), .int (iI ((i0 : Int)))]) (n := 3) (Nat.le_of_ble_eq_true rfl)
  rw [lg_entry_eq]
  generalize (lg_sl ([.ref (ad (98)), .int (iI ((i0 : Int)))]) ++ List.replicate (3 - (lg_sl ([.ref (ad (98)), .int (iI ((i0 : Int)))])).length) Slot.unset).toArray = ls at hl ⊢
  have hl : lv_has ls 3 [(0, .ref (ad (98))), (1, .int (iI ((i0 : Int))))] := hl
  change W p l e ({ frames := 1, cells := 0, slots := 0, locals := 21 } : Room) s m ([.ref (ad (98)), .int (iI ((i0 : Int)))]).toArray below meth c s.heap [] 0 0 (MQ below (va_Qi (fun r F1 => r = iI ((dend tx (n - i0) i0 : Nat) : Int) ∧ F1 = F) (pAt D classes (tysL ty) ad M (pA ad M s.heap.size)) (pA ad M s.heap.size)) ([.ref (ad (98)), .int (iI ((i0 : Int)))]).toArray s 0 0 (pA ad M s.heap.size)) (F0 m 0 ls [])
  generalize hQ : MQ below (va_Qi (fun r F1 => r = iI ((dend tx (n - i0) i0 : Nat) : Int) ∧ F1 = F) (pAt D classes (tysL ty) ad M (pA ad M s.heap.size)) (pA ad M s.heap.size)) ([.ref (ad (98)), .int (iI ((i0 : Int)))]).toArray s 0 0 (pA ad M s.heap.size) = Q
  obtain ⟨H, hH⟩ : ∃ H, H = s.heap := ⟨_, rfl⟩
  obtain ⟨locs, hlo⟩ : ∃ z : List Loc, z = [] := ⟨_, rfl⟩
  have hw : pw D classes (tysL ty) ad M F (pA ad M s.heap.size) s H locs := by rw [hH, hlo]; exact hw
  have hgo : W p l e ({ frames := 1, cells := 0, slots := 0, locals := 21 } : Room) s m ([.ref (ad (98)), .int (iI ((i0 : Int)))]).toArray below meth c H locs 0 0 Q (F0 m 0 ls []) := by
    refine lv_iload_n hx hb d_M_endOf_0 rfl (lv_at hl 1 rfl) ?_
    refine lv_istore_n (lv' := [(2, .int (iI ((i0 : Int)))), (0, .ref (ad (98))), (1, .int (iI ((i0 : Int))))]) hx hb d_M_endOf_1 rfl hl (by decide) rfl (fun ls hl => ?_)
    have K2 : ∀ (fuel : Nat) (i : Nat) (F2 : Nat → va_E) (H : Heap) (locs : List Loc) (ls : Array Slot), n - i < fuel → (i ≤ n) → (dend tx (n - i) i = dend tx (n - i0) i0) → (F2 = F) → F2 (98) = .inr (6, [.int (iI (co)), .ref (ad (99)), .ref (ad (100)), .ref (ad (101)), .ref (ad (102)), .int (iI ((n : Int))), .int (iI (wr)), .ref (ad (103))]) → F2 (102) = .inl (ty 0, 1400, .inl (tt)) → pw D classes (tysL ty) ad M F2 (pA ad M s.heap.size) s H locs → lv_has ls 3 [(0, .ref (ad (98))), (1, .int (iI ((i0 : Int)))), (2, .int (iI ((i : Int))))] → W p l e ({ frames := 1, cells := 0, slots := 0, locals := 21 } : Room) s m ([.ref (ad (98)), .int (iI ((i0 : Int)))]).toArray below meth c H locs 0 0 Q (F0 m 2 ls []) := by
      intro fuel
      induction fuel with
      | zero => intro i F2 H locs ls hfuel hi hd hFF hO h102 hw hl; exact absurd hfuel (Nat.not_lt_zero _)
      | succ fuel ih2 =>
        intro i F2 H locs ls hfuel hi hd hFF hO h102 hw hl
        refine lv_aload_n hx hb d_M_endOf_2 rfl (lv_at hl 0 rfl) ?_
        refine lv_iload_n hx hb d_M_endOf_3 rfl (lv_at hl 2 rfl) ?_
        refine pw_calli hw (va_runV (As := [.int (iI ((i : Int)))]) (rest := []) ⟨hx, hb, hml, hown, hq⟩ (c_M_isDigit l D ty ad M F2 H.size hM (co) (wr) n tx _ hO h102 htt hn hch (i) (by omega)) (cwV 1 hq (gV ml_M_140 im_M_isDigit se_M_isDigit in_M m_M_isDigit) rfl rfl rfl (by decide +kernel) ⟨Nat.le_of_ble_eq_true rfl, Nat.le_of_ble_eq_true rfl⟩) (pw_preV hw (by omega) hO rfl) rfl rfl hl.1 rfl (lv_room (Nat.le_of_ble_eq_true rfl)) d_M_endOf_4 ⟨Nat.le_of_ble_eq_true rfl, Nat.le_of_ble_eq_true rfl⟩) (fun r4 F4 H locs q4 hw => ?_)
        obtain ⟨er4, eF4⟩ := q4
        rw [eF4] at hw
        clear eF4
        subst er4
        have hdb := dgI_b tx n i
        refine wz_if_eq (tgt := 16) hx hb d_M_endOf_7 (by decide) (by omega) (by omega) (fun c7 => ?_) (fun c7 => ?_)
        · have hdn := dgI_n c7
          refine lv_iload_n hx hb d_M_endOf_16 rfl (lv_at hl 2 rfl) ?_
          rw [← hQ]
          exact pw_iret hx hb hr hlocks hw (⟨by rw [← hd, dend_n hdn hi], hFF⟩) d_M_endOf_17
        · have hdy := dgI_y c7
          have hdy1 := hdy.1
          refine wz_iinc (z := ((i + 1 : Nat) : Int)) (lv' := [(2, .int (iI (((i + 1 : Nat) : Int)))), (0, .ref (ad (98))), (1, .int (iI ((i0 : Int))))]) hx hb d_M_endOf_10 hl (k := 2) rfl (by omega) (by decide) rfl (fun ls hl => ?_)
          refine lv_goto (tgt := 2) hx hb d_M_endOf_13 (by decide) ?_
          exact ih2 (i + 1) _ _ _ ls (by omega) (by omega) ((dend_y hdy).trans hd) (hFF) hO h102 hw (lv_sub hl [1, 2, 0] rfl)
    exact K2 _ i0 _ _ _ ls (Nat.lt_succ_self _) (hi0) (rfl) (rfl) hO h102 hw (lv_sub hl [1, 2, 0] rfl)
  rw [hH, hlo] at hgo
  exact hgo
set_option maxHeartbeats 4000000 in
set_option maxRecDepth 100000 in
/-- hasMore(from, to) -/
theorem c_M_hasMore (l : Launch) (D : va_G) (ty : Nat → ClassId) (ad : Nat → Nat) (M : Nat) (F : Nat → va_E) (sz : Nat) (hM : 103 < M) (co wr : Int) (n : Nat) (tx : Nat → Nat) (tt : Nat → Int32) (hO : F 98 = oM ad co (n : Int) wr) (h102 : F 102 = aN ty 0 1400 tt) (htt : ∀ i, i < n → tt i = iI (tx i : Int)) (hn : n ≤ 1400) (hch : ∀ i, i < n → tx i < 128) (i0 i9 : Nat) (hi0 : i0 ≤ i9) (hi9 : i9 ≤ n) :
    CI l y_M_hasMore w_M_hasMore ({ frames := 0, cells := 0, slots := 0, locals := 0 } : Room) [.ref (ad (98)), .int (iI ((i0 : Int))), .int (iI ((i9 : Int)))] D ty ad M F sz (fun r F1 => r = iI ((azN tx (i9 - i0) i0 : Nat) : Int) ∧ F1 = F) := by
  refine Met.ofW (cc := b_M_hasMore) (maxL := 5) (ret := (some .boolean)) (by decide) rfl ?_
  intro p e s m args below meth c s₁ B hml hv
  obtain ⟨rfl, hsz, hP, hK, hD0⟩ := hv
  have hx := B.exec
  have hb := B.bytes
  have hr := B.returns
  have hts := atoms_spec (ws := w_M_hasMore) B.pre
  have hq : ∀ w ∈ wT, w.before _ s = true := fun w h => hts w (List.mem_cons_of_mem _ h)
  have hown : s.vm.findClass R_M = some m.cls := findClass_of_methodNamed B.named
  have hlocks := B.notSynchronized
  subst hsz
  have hw := pw_start hP hK hD0
  have hl := lv_entry ([.ref (ad (98)), .int (iI ((i0 : Int))), .int (iI ((i9 : Int)))]) (n := 5) (Nat.le_of_ble_eq_true rfl)
  rw [lg_entry_eq]
  generalize (lg_sl ([.ref (ad (98)), .int (iI ((i0 : Int))), .int (iI ((i9 : Int)))]) ++ List.replicate (5 - (lg_sl ([.ref (ad (98)), .int (iI ((i0 : Int))), .int (iI ((i9 : Int)))])).length) Slot.unset).toArray = ls at hl ⊢
  have hl : lv_has ls 5 [(0, .ref (ad (98))), (1, .int (iI ((i0 : Int)))), (2, .int (iI ((i9 : Int))))] := hl
  change W p l e ({ frames := 0, cells := 0, slots := 0, locals := 0 } : Room) s m ([.ref (ad (98)), .int (iI ((i0 : Int))), .int (iI ((i9 : Int)))]).toArray below meth c s.heap [] 0 0 (MQ below (va_Qi (fun r F1 => r = iI ((azN tx (i9 - i0) i0 : Nat) : Int) ∧ F1 = F) (pAt D classes (tysL ty) ad M (pA ad M s.heap.size)) (pA ad M s.heap.size)) ([.ref (ad (98)), .int (iI ((i0 : Int))), .int (iI ((i9 : Int)))]).toArray s 0 0 (pA ad M s.heap.size)) (F0 m 0 ls [])
  generalize hQ : MQ below (va_Qi (fun r F1 => r = iI ((azN tx (i9 - i0) i0 : Nat) : Int) ∧ F1 = F) (pAt D classes (tysL ty) ad M (pA ad M s.heap.size)) (pA ad M s.heap.size)) ([.ref (ad (98)), .int (iI ((i0 : Int))), .int (iI ((i9 : Int)))]).toArray s 0 0 (pA ad M s.heap.size) = Q
  obtain ⟨H, hH⟩ : ∃ H, H = s.heap := ⟨_, rfl⟩
  obtain ⟨locs, hlo⟩ : ∃ z : List Loc, z = [] := ⟨_, rfl⟩
  have hw : pw D classes (tysL ty) ad M F (pA ad M s.heap.size) s H locs := by rw [hH, hlo]; exact hw
  have hgo : W p l e ({ frames := 0, cells := 0, slots := 0, locals := 0 } : Room) s m ([.ref (ad (98)), .int (iI ((i0 : Int))), .int (iI ((i9 : Int)))]).toArray below meth c H locs 0 0 Q (F0 m 0 ls []) := by
    refine wz_iconst (n := 0) hx hb d_M_hasMore_0 ?_
    refine lv_istore_n (lv' := [(3, .int (iI (0))), (0, .ref (ad (98))), (1, .int (iI ((i0 : Int)))), (2, .int (iI ((i9 : Int))))]) hx hb d_M_hasMore_1 rfl hl (by decide) rfl (fun ls hl => ?_)
    refine lv_iload_n hx hb d_M_hasMore_2 rfl (lv_at hl 2 rfl) ?_
    refine lv_istore (lv' := [(4, .int (iI ((i0 : Int)))), (3, .int (iI (0))), (0, .ref (ad (98))), (1, .int (iI ((i0 : Int)))), (2, .int (iI ((i9 : Int))))]) hx hb d_M_hasMore_3 hl (by decide) rfl (fun ls hl => ?_)
    have K5 : ∀ (fuel : Nat) (k mo : Nat) (ls : Array Slot), i9 - k < fuel → (i0 ≤ k ∧ k ≤ i9) → (mo = azN tx (k - i0) i0) → lv_has ls 5 [(0, .ref (ad (98))), (1, .int (iI ((i0 : Int)))), (2, .int (iI ((i9 : Int)))), (3, .int (iI ((mo : Int)))), (4, .int (iI ((k : Int))))] → W p l e ({ frames := 0, cells := 0, slots := 0, locals := 0 } : Room) s m ([.ref (ad (98)), .int (iI ((i0 : Int))), .int (iI ((i9 : Int)))]).toArray below meth c H locs 0 0 Q (F0 m 5 ls []) := by
      intro fuel
      induction fuel with
      | zero => intro k mo ls hfuel hk hmo hl; exact absurd hfuel (Nat.not_lt_zero _)
      | succ fuel ih5 =>
        intro k mo ls hfuel hk hmo hl
        refine lv_iload hx hb d_M_hasMore_5 (lv_at hl 4 rfl) ?_
        refine lv_iload_n hx hb d_M_hasMore_7 rfl (lv_at hl 2 rfl) ?_
        have hmb := azN_b tx (k - i0) i0
        refine wz_icmp_ge (tgt := 39) hx hb d_M_hasMore_8 (by decide) (by omega) (by omega) (by omega) (by omega) (fun c8 => ?_) (fun c8 => ?_)
        · refine lv_iload_n hx hb d_M_hasMore_39 rfl (lv_at hl 3 rfl) ?_
          rw [← hQ]
          exact pw_zret hx hb hr (nar_v (by omega)) hlocks hw (⟨by rw [hmo, show k = i9 by omega], rfl⟩) d_M_hasMore_40
        · have hc9 := hch k (by omega)
          refine lv_iload_n hx hb d_M_hasMore_11 rfl (lv_at hl 3 rfl) ?_
          refine wz_if_ne (tgt := 27) hx hb d_M_hasMore_12 (by decide) (by omega) (by omega) (fun c12 => ?_) (fun c12 => ?_)
          · refine wz_iconst (n := 1) hx hb d_M_hasMore_27 ?_
            refine lv_goto (tgt := 32) hx hb d_M_hasMore_28 (by decide) ?_
            refine lv_istore_n (lv' := [(3, .int (iI (1))), (0, .ref (ad (98))), (1, .int (iI ((i0 : Int)))), (2, .int (iI ((i9 : Int)))), (4, .int (iI ((k : Int))))]) hx hb d_M_hasMore_32 rfl hl (by decide) rfl (fun ls hl => ?_)
            refine wz_iinc (z := ((k + 1 : Nat) : Int)) (lv' := [(4, .int (iI (((k + 1 : Nat) : Int)))), (3, .int (iI (1))), (0, .ref (ad (98))), (1, .int (iI ((i0 : Int)))), (2, .int (iI ((i9 : Int))))]) hx hb d_M_hasMore_33 hl (k := 4) rfl (by omega) (by decide) rfl (fun ls hl => ?_)
            refine lv_goto (tgt := 5) hx hb d_M_hasMore_36 (by decide) ?_
            exact ih5 (k + 1) 1 ls (by omega) (by omega) (by rw [show k + 1 - i0 = (k - i0) + 1 by omega]; exact azN_1 (by rw [show i0 + (k - i0) = k by omega]; omega)) (lv_sub hl [2, 3, 4, 1, 0] rfl)
          · refine lv_aload_n hx hb d_M_hasMore_15 rfl (lv_at hl 0 rfl) ?_
            refine pw_get (ci := 6) (C := R_M) (T := T_M) (N := 8) hx hb hq i_M hown hw (by omega) hO rfl 4 (by decide) (hq _ fl_M_20) (fun _ h9 => h9) rfl d_M_hasMore_16 ?_
            refine lv_iload hx hb d_M_hasMore_19 (lv_at hl 4 rfl) ?_
            refine pw_iald (k := k) hx hb hw 0 (by omega) h102 rfl (iI_in (by omega) (by omega) (by omega)) ((iI_cl (by omega) (by omega)).trans (by omega)) d_M_hasMore_21 ?_
            refine lv_topi (fun x21 ex21 => ?_)
            obtain rfl : x21 = iI ((tx k : Int)) := ex21.trans (htt k (by omega))
            refine wz_bipush (n := 48) hx hb d_M_hasMore_22 (by decide) ?_
            refine wz_icmp_eq (tgt := 31) hx hb d_M_hasMore_24 (by decide) (by omega) (by omega) (by omega) (by omega) (fun c24 => ?_) (fun c24 => ?_)
            · refine wz_iconst (n := 0) hx hb d_M_hasMore_31 ?_
              refine lv_istore_n (lv' := [(3, .int (iI (0))), (0, .ref (ad (98))), (1, .int (iI ((i0 : Int)))), (2, .int (iI ((i9 : Int)))), (4, .int (iI ((k : Int))))]) hx hb d_M_hasMore_32 rfl hl (by decide) rfl (fun ls hl => ?_)
              refine wz_iinc (z := ((k + 1 : Nat) : Int)) (lv' := [(4, .int (iI (((k + 1 : Nat) : Int)))), (3, .int (iI (0))), (0, .ref (ad (98))), (1, .int (iI ((i0 : Int)))), (2, .int (iI ((i9 : Int))))]) hx hb d_M_hasMore_33 hl (k := 4) rfl (by omega) (by decide) rfl (fun ls hl => ?_)
              refine lv_goto (tgt := 5) hx hb d_M_hasMore_36 (by decide) ?_
              exact ih5 (k + 1) 0 ls (by omega) (by omega) (by rw [show k + 1 - i0 = (k - i0) + 1 by omega]; exact azN_z (by omega) (by rw [show i0 + (k - i0) = k by omega]; omega)) (lv_sub hl [2, 3, 4, 1, 0] rfl)
            · refine wz_iconst (n := 1) hx hb d_M_hasMore_27 ?_
              refine lv_goto (tgt := 32) hx hb d_M_hasMore_28 (by decide) ?_
              refine lv_istore_n (lv' := [(3, .int (iI (1))), (0, .ref (ad (98))), (1, .int (iI ((i0 : Int)))), (2, .int (iI ((i9 : Int)))), (4, .int (iI ((k : Int))))]) hx hb d_M_hasMore_32 rfl hl (by decide) rfl (fun ls hl => ?_)
              refine wz_iinc (z := ((k + 1 : Nat) : Int)) (lv' := [(4, .int (iI (((k + 1 : Nat) : Int)))), (3, .int (iI (1))), (0, .ref (ad (98))), (1, .int (iI ((i0 : Int)))), (2, .int (iI ((i9 : Int))))]) hx hb d_M_hasMore_33 hl (k := 4) rfl (by omega) (by decide) rfl (fun ls hl => ?_)
              refine lv_goto (tgt := 5) hx hb d_M_hasMore_36 (by decide) ?_
              exact ih5 (k + 1) 1 ls (by omega) (by omega) (by rw [show k + 1 - i0 = (k - i0) + 1 by omega]; exact azN_1 (by rw [show i0 + (k - i0) = k by omega]; omega)) (lv_sub hl [2, 3, 4, 1, 0] rfl)
    exact K5 _ i0 0 ls (Nat.lt_succ_self _) (by omega) (by rw [Nat.sub_self]; rfl) (lv_sub hl [2, 3, 4, 1, 0] rfl)
  rw [hH, hlo] at hgo
  exact hgo
set_option maxHeartbeats 4000000 in
set_option maxRecDepth 100000 in
/-- wipe() -/
theorem c_M_wipe (l : Launch) (D : va_G) (ty : Nat → ClassId) (ad : Nat → Nat) (M : Nat) (F : Nat → va_E) (sz : Nat) (hM : 103 < M) (g : Sg) (co : Int) (hMo : Mo ty ad F co g) (hok : okS g)  :
    CI l y_M_wipe w_M_wipe ({ frames := 0, cells := 0, slots := 0, locals := 0 } : Room) [.ref (ad (98))] D ty ad M F sz (fun r F1 => r = iI (nS g : Int) ∧ Mo ty ad F1 0 (zS g, bS g, 0, tS g, pS g) ∧ frP F F1) := by
  refine Met.ofW (cc := b_M_wipe) (maxL := 2) (ret := (some .int)) (by decide) rfl ?_
  intro p e s m args below meth c s₁ B hml hv
  obtain ⟨rfl, hsz, hP, hK, hD0⟩ := hv
  have hx := B.exec
  have hb := B.bytes
  have hr := B.returns
  have hts := atoms_spec (ws := w_M_wipe) B.pre
  have hq : ∀ w ∈ wT, w.before _ s = true := fun w h => hts w (List.mem_cons_of_mem _ h)
  have hown : s.vm.findClass R_M = some m.cls := findClass_of_methodNamed B.named
  have hlocks := B.notSynchronized
  subst hsz
  have hw := pw_start hP hK hD0
  have hl := lv_entry ([.ref (ad (98))]) (n := 2) (Nat.le_of_ble_eq_true rfl)
  rw [lg_entry_eq]
  generalize (lg_sl ([.ref (ad (98))]) ++ List.replicate (2 - (lg_sl ([.ref (ad (98))])).length) Slot.unset).toArray = ls at hl ⊢
  have hl : lv_has ls 2 [(0, .ref (ad (98)))] := hl
  change W p l e ({ frames := 0, cells := 0, slots := 0, locals := 0 } : Room) s m ([.ref (ad (98))]).toArray below meth c s.heap [] 0 0 (MQ below (va_Qi (fun r F1 => r = iI (nS g : Int) ∧ Mo ty ad F1 0 (zS g, bS g, 0, tS g, pS g) ∧ frP F F1) (pAt D classes (tysL ty) ad M (pA ad M s.heap.size)) (pA ad M s.heap.size)) ([.ref (ad (98))]).toArray s 0 0 (pA ad M s.heap.size)) (F0 m 0 ls [])
  generalize hQ : MQ below (va_Qi (fun r F1 => r = iI (nS g : Int) ∧ Mo ty ad F1 0 (zS g, bS g, 0, tS g, pS g) ∧ frP F F1) (pAt D classes (tysL ty) ad M (pA ad M s.heap.size)) (pA ad M s.heap.size)) ([.ref (ad (98))]).toArray s 0 0 (pA ad M s.heap.size) = Q
  obtain ⟨H, hH⟩ : ∃ H, H = s.heap := ⟨_, rfl⟩
  obtain ⟨locs, hlo⟩ : ∃ z : List Loc, z = [] := ⟨_, rfl⟩
  have hw : pw D classes (tysL ty) ad M F (pA ad M s.heap.size) s H locs := by rw [hH, hlo]; exact hw
  have hgo : W p l e ({ frames := 0, cells := 0, slots := 0, locals := 0 } : Room) s m ([.ref (ad (98))]).toArray below meth c H locs 0 0 Q (F0 m 0 ls []) := by
    obtain ⟨hO, hRn, tt, dd, h102, htt, h103⟩ := id hMo
    have N0 := (hRn 0 (by decide)).1
    have hn14 := hok.2.1
    refine lv_aload_n hx hb d_M_wipe_0 rfl (lv_at hl 0 rfl) ?_
    refine wz_iconst (n := 0) hx hb d_M_wipe_1 ?_
    refine pw_put (ci := 6) (C := R_M) (T := T_M) (N := 8) (ty := .int) (fs' := [.int (iI (0)), .ref (ad (99)), .ref (ad (100)), .ref (ad (101)), .ref (ad (102)), .int (iI ((nS g : Int))), .int (iI (pS g)), .ref (ad (103))]) hx hb hq i_M ft_M ft_M_ok n_M hown hw (by omega) hO rfl 0 (by decide) (hq _ fl_M_34) (fun _ h9 => h9) rfl (by decide +kernel) rfl rfl (Nat.le_of_ble_eq_true rfl) rfl d_M_wipe_2 (fun F2 H locs eF2 hw => ?_)
    have m2_98 : F2 (98) = .inr (6, [.int (iI (0)), .ref (ad (99)), .ref (ad (100)), .ref (ad (101)), .ref (ad (102)), .int (iI ((nS g : Int))), .int (iI (pS g)), .ref (ad (103))]) := by rw [eF2]; exact va_up_self ..
    have hRn_at_2 : Rn ty F2 (g) := hRn.m3 (show F2 (99) = F (99) from by rw [eF2]; exact va_up_ne _ _ (by omega)) (show F2 (100) = F (100) from by rw [eF2]; exact va_up_ne _ _ (by omega)) (show F2 (101) = F (101) from by rw [eF2]; exact va_up_ne _ _ (by omega))
    have N0_at_2 : Nm ty F2 (0) (zS g 0) := N0.m3 (show F2 (99) = F (99) from by rw [eF2]; exact va_up_ne _ _ (by omega)) (show F2 (100) = F (100) from by rw [eF2]; exact va_up_ne _ _ (by omega)) (show F2 (101) = F (101) from by rw [eF2]; exact va_up_ne _ _ (by omega))
    have h102_at_2 : F2 (102) = .inl (ty 0, 1400, .inl (tt)) := (show F2 (102) = F (102) from by rw [eF2]; exact va_up_ne _ _ (by omega)).trans h102
    have h103_at_2 : F2 (103) = .inl (ty 0, 700, .inl (dd)) := (show F2 (103) = F (103) from by rw [eF2]; exact va_up_ne _ _ (by omega)).trans h103
    refine lv_aload_n hx hb d_M_wipe_5 rfl (lv_at hl 0 rfl) ?_
    refine pw_get (ci := 6) (C := R_M) (T := T_M) (N := 8) hx hb hq i_M hown hw (by omega) m2_98 rfl 5 (by decide) (hq _ fl_M_125) (fun _ h9 => h9) rfl d_M_wipe_6 ?_
    refine lv_istore_n (lv' := [(1, .int (iI ((nS g : Int)))), (0, .ref (ad (98)))]) hx hb d_M_wipe_9 rfl hl (by decide) rfl (fun ls hl => ?_)
    refine lv_aload_n hx hb d_M_wipe_10 rfl (lv_at hl 1 rfl) ?_
    refine wz_iconst (n := 0) hx hb d_M_wipe_11 ?_
    refine pw_put (ci := 6) (C := R_M) (T := T_M) (N := 8) (ty := .int) (fs' := [.int (iI (0)), .ref (ad (99)), .ref (ad (100)), .ref (ad (101)), .ref (ad (102)), .int (iI (0)), .int (iI (pS g)), .ref (ad (103))]) hx hb hq i_M ft_M ft_M_ok n_M hown hw (by omega) m2_98 rfl 5 (by decide) (hq _ fl_M_125) (fun _ h9 => h9) rfl (by decide +kernel) rfl rfl (Nat.le_of_ble_eq_true rfl) rfl d_M_wipe_12 (fun F12 H locs eF12 hw => ?_)
    have m12_98 : F12 (98) = .inr (6, [.int (iI (0)), .ref (ad (99)), .ref (ad (100)), .ref (ad (101)), .ref (ad (102)), .int (iI (0)), .int (iI (pS g)), .ref (ad (103))]) := by rw [eF12]; exact va_up_self ..
    have hRn_at_12 : Rn ty F12 (g) := hRn_at_2.m3 (show F12 (99) = F2 (99) from by rw [eF12]; exact va_up_ne _ _ (by omega)) (show F12 (100) = F2 (100) from by rw [eF12]; exact va_up_ne _ _ (by omega)) (show F12 (101) = F2 (101) from by rw [eF12]; exact va_up_ne _ _ (by omega))
    have N0_at_12 : Nm ty F12 (0) (zS g 0) := N0_at_2.m3 (show F12 (99) = F2 (99) from by rw [eF12]; exact va_up_ne _ _ (by omega)) (show F12 (100) = F2 (100) from by rw [eF12]; exact va_up_ne _ _ (by omega)) (show F12 (101) = F2 (101) from by rw [eF12]; exact va_up_ne _ _ (by omega))
    have h102_at_12 : F12 (102) = .inl (ty 0, 1400, .inl (tt)) := (show F12 (102) = F2 (102) from by rw [eF12]; exact va_up_ne _ _ (by omega)).trans h102_at_2
    have h103_at_12 : F12 (103) = .inl (ty 0, 700, .inl (dd)) := (show F12 (103) = F2 (103) from by rw [eF12]; exact va_up_ne _ _ (by omega)).trans h103_at_2
    refine lv_iload_n hx hb d_M_wipe_15 rfl (lv_at hl 0 rfl) ?_
    rw [← hQ]
    exact pw_iret hx hb hr hlocks hw (⟨rfl, ⟨m12_98, hRn_at_12, _, _, h102_at_12, fun i hi => absurd hi (Nat.not_lt_zero _), h103_at_12⟩, fun y9 h1 => (show F12 (y9) = F2 (y9) from by rw [eF12]; exact va_up_ne _ _ (by omega)).trans (show F2 (y9) = F (y9) from by rw [eF2]; exact va_up_ne _ _ (by omega))⟩) d_M_wipe_16
  rw [hH, hlo] at hgo
  exact hgo
set_option maxHeartbeats 4000000 in
set_option maxRecDepth 100000 in
/-- place() -/
theorem c_M_place (l : Launch) (D : va_G) (ty : Nat → ClassId) (ad : Nat → Nat) (M : Nat) (F : Nat → va_E) (sz : Nat) (hM : 103 < M) (g : Sg) (co : Int) (hMo : Mo ty ad F co g) (hok : okS g)  :
    CI l y_M_place w_M_place ({ frames := 0, cells := 0, slots := 0, locals := 0 } : Room) [.ref (ad (98))] D ty ad M F sz (fun r F1 => r = iI (pS g) ∧ Mo ty ad F1 0 g ∧ frP F F1) := by
  refine Met.ofW (cc := b_M_place) (maxL := 1) (ret := (some .int)) (by decide) rfl ?_
  intro p e s m args below meth c s₁ B hml hv
  obtain ⟨rfl, hsz, hP, hK, hD0⟩ := hv
  have hx := B.exec
  have hb := B.bytes
  have hr := B.returns
  have hts := atoms_spec (ws := w_M_place) B.pre
  have hq : ∀ w ∈ wT, w.before _ s = true := fun w h => hts w (List.mem_cons_of_mem _ h)
  have hown : s.vm.findClass R_M = some m.cls := findClass_of_methodNamed B.named
  have hlocks := B.notSynchronized
  subst hsz
  have hw := pw_start hP hK hD0
  have hl := lv_entry ([.ref (ad (98))]) (n := 1) (Nat.le_of_ble_eq_true rfl)
  rw [lg_entry_eq]
  generalize (lg_sl ([.ref (ad (98))]) ++ List.replicate (1 - (lg_sl ([.ref (ad (98))])).length) Slot.unset).toArray = ls at hl ⊢
  have hl : lv_has ls 1 [(0, .ref (ad (98)))] := hl
  change W p l e ({ frames := 0, cells := 0, slots := 0, locals := 0 } : Room) s m ([.ref (ad (98))]).toArray below meth c s.heap [] 0 0 (MQ below (va_Qi (fun r F1 => r = iI (pS g) ∧ Mo ty ad F1 0 g ∧ frP F F1) (pAt D classes (tysL ty) ad M (pA ad M s.heap.size)) (pA ad M s.heap.size)) ([.ref (ad (98))]).toArray s 0 0 (pA ad M s.heap.size)) (F0 m 0 ls [])
  generalize hQ : MQ below (va_Qi (fun r F1 => r = iI (pS g) ∧ Mo ty ad F1 0 g ∧ frP F F1) (pAt D classes (tysL ty) ad M (pA ad M s.heap.size)) (pA ad M s.heap.size)) ([.ref (ad (98))]).toArray s 0 0 (pA ad M s.heap.size) = Q
  obtain ⟨H, hH⟩ : ∃ H, H = s.heap := ⟨_, rfl⟩
  obtain ⟨locs, hlo⟩ : ∃ z : List Loc, z = [] := ⟨_, rfl⟩
  have hw : pw D classes (tysL ty) ad M F (pA ad M s.heap.size) s H locs := by rw [hH, hlo]; exact hw
  have hgo : W p l e ({ frames := 0, cells := 0, slots := 0, locals := 0 } : Room) s m ([.ref (ad (98))]).toArray below meth c H locs 0 0 Q (F0 m 0 ls []) := by
    obtain ⟨hO, hRn, tt, dd, h102, htt, h103⟩ := id hMo
    have N0 := (hRn 0 (by decide)).1
    have hn14 := hok.2.1
    refine lv_aload_n hx hb d_M_place_0 rfl (lv_at hl 0 rfl) ?_
    refine wz_iconst (n := 0) hx hb d_M_place_1 ?_
    refine pw_put (ci := 6) (C := R_M) (T := T_M) (N := 8) (ty := .int) (fs' := [.int (iI (0)), .ref (ad (99)), .ref (ad (100)), .ref (ad (101)), .ref (ad (102)), .int (iI ((nS g : Int))), .int (iI (pS g)), .ref (ad (103))]) hx hb hq i_M ft_M ft_M_ok n_M hown hw (by omega) hO rfl 0 (by decide) (hq _ fl_M_34) (fun _ h9 => h9) rfl (by decide +kernel) rfl rfl (Nat.le_of_ble_eq_true rfl) rfl d_M_place_2 (fun F2 H locs eF2 hw => ?_)
    have m2_98 : F2 (98) = .inr (6, [.int (iI (0)), .ref (ad (99)), .ref (ad (100)), .ref (ad (101)), .ref (ad (102)), .int (iI ((nS g : Int))), .int (iI (pS g)), .ref (ad (103))]) := by rw [eF2]; exact va_up_self ..
    have hRn_at_2 : Rn ty F2 (g) := hRn.m3 (show F2 (99) = F (99) from by rw [eF2]; exact va_up_ne _ _ (by omega)) (show F2 (100) = F (100) from by rw [eF2]; exact va_up_ne _ _ (by omega)) (show F2 (101) = F (101) from by rw [eF2]; exact va_up_ne _ _ (by omega))
    have N0_at_2 : Nm ty F2 (0) (zS g 0) := N0.m3 (show F2 (99) = F (99) from by rw [eF2]; exact va_up_ne _ _ (by omega)) (show F2 (100) = F (100) from by rw [eF2]; exact va_up_ne _ _ (by omega)) (show F2 (101) = F (101) from by rw [eF2]; exact va_up_ne _ _ (by omega))
    have h102_at_2 : F2 (102) = .inl (ty 0, 1400, .inl (tt)) := (show F2 (102) = F (102) from by rw [eF2]; exact va_up_ne _ _ (by omega)).trans h102
    have h103_at_2 : F2 (103) = .inl (ty 0, 700, .inl (dd)) := (show F2 (103) = F (103) from by rw [eF2]; exact va_up_ne _ _ (by omega)).trans h103
    refine lv_aload_n hx hb d_M_place_5 rfl (lv_at hl 0 rfl) ?_
    refine pw_get (ci := 6) (C := R_M) (T := T_M) (N := 8) hx hb hq i_M hown hw (by omega) m2_98 rfl 6 (by decide) (hq _ fl_M_23) (fun _ h9 => h9) rfl d_M_place_6 ?_
    rw [← hQ]
    exact pw_iret hx hb hr hlocks hw (⟨rfl, Mo.mk' ⟨rfl, rfl, rfl⟩ m2_98 hRn_at_2 h102_at_2 htt h103_at_2, fun y9 h1 => show F2 (y9) = F (y9) from by rw [eF2]; exact va_up_ne _ _ (by omega)⟩) d_M_place_9
  rw [hH, hlo] at hgo
  exact hgo
set_option maxHeartbeats 4000000 in
set_option maxRecDepth 100000 in
/-- character(i) -/
theorem c_M_character (l : Launch) (D : va_G) (ty : Nat → ClassId) (ad : Nat → Nat) (M : Nat) (F : Nat → va_E) (sz : Nat) (hM : 103 < M) (g : Sg) (co : Int) (hMo : Mo ty ad F co g) (hok : okS g) (i : Int) (hi : -2147483648 ≤ i ∧ i < 2147483648) :
    CI l y_M_character w_M_character ({ frames := 0, cells := 0, slots := 0, locals := 0 } : Room) [.ref (ad (98)), .int (iI (i))] D ty ad M F sz (fun r F1 => r = iI (tat (tS g) (nS g) i) ∧ Mo ty ad F1 0 g ∧ frP F F1) := by
  refine Met.ofW (cc := b_M_character) (maxL := 2) (ret := (some .int)) (by decide) rfl ?_
  intro p e s m args below meth c s₁ B hml hv
  obtain ⟨rfl, hsz, hP, hK, hD0⟩ := hv
  have hx := B.exec
  have hb := B.bytes
  have hr := B.returns
  have hts := atoms_spec (ws := w_M_character) B.pre
  have hq : ∀ w ∈ wT, w.before _ s = true := fun w h => hts w (List.mem_cons_of_mem _ h)
  have hown : s.vm.findClass R_M = some m.cls := findClass_of_methodNamed B.named
  have hlocks := B.notSynchronized
  subst hsz
  have hw := pw_start hP hK hD0
  have hl := lv_entry ([.ref (ad (98)), .int (iI (i))]) (n := 2) (Nat.le_of_ble_eq_true rfl)
  rw [lg_entry_eq]
  generalize (lg_sl ([.ref (ad (98)), .int (iI (i))]) ++ List.replicate (2 - (lg_sl ([.ref (ad (98)), .int (iI (i))])).length) Slot.unset).toArray = ls at hl ⊢
  have hl : lv_has ls 2 [(0, .ref (ad (98))), (1, .int (iI (i)))] := hl
  change W p l e ({ frames := 0, cells := 0, slots := 0, locals := 0 } : Room) s m ([.ref (ad (98)), .int (iI (i))]).toArray below meth c s.heap [] 0 0 (MQ below (va_Qi (fun r F1 => r = iI (tat (tS g) (nS g) i) ∧ Mo ty ad F1 0 g ∧ frP F F1) (pAt D classes (tysL ty) ad M (pA ad M s.heap.size)) (pA ad M s.heap.size)) ([.ref (ad (98)), .int (iI (i))]).toArray s 0 0 (pA ad M s.heap.size)) (F0 m 0 ls [])
  generalize hQ : MQ below (va_Qi (fun r F1 => r = iI (tat (tS g) (nS g) i) ∧ Mo ty ad F1 0 g ∧ frP F F1) (pAt D classes (tysL ty) ad M (pA ad M s.heap.size)) (pA ad M s.heap.size)) ([.ref (ad (98)), .int (iI (i))]).toArray s 0 0 (pA ad M s.heap.size) = Q
  obtain ⟨H, hH⟩ : ∃ H, H = s.heap := ⟨_, rfl⟩
  obtain ⟨locs, hlo⟩ : ∃ z : List Loc, z = [] := ⟨_, rfl⟩
  have hw : pw D classes (tysL ty) ad M F (pA ad M s.heap.size) s H locs := by rw [hH, hlo]; exact hw
  have hgo : W p l e ({ frames := 0, cells := 0, slots := 0, locals := 0 } : Room) s m ([.ref (ad (98)), .int (iI (i))]).toArray below meth c H locs 0 0 Q (F0 m 0 ls []) := by
    obtain ⟨hO, hRn, tt, dd, h102, htt, h103⟩ := id hMo
    have N0 := (hRn 0 (by decide)).1
    have hn14 := hok.2.1
    refine lv_aload_n hx hb d_M_character_0 rfl (lv_at hl 0 rfl) ?_
    refine wz_iconst (n := 0) hx hb d_M_character_1 ?_
    refine pw_put (ci := 6) (C := R_M) (T := T_M) (N := 8) (ty := .int) (fs' := [.int (iI (0)), .ref (ad (99)), .ref (ad (100)), .ref (ad (101)), .ref (ad (102)), .int (iI ((nS g : Int))), .int (iI (pS g)), .ref (ad (103))]) hx hb hq i_M ft_M ft_M_ok n_M hown hw (by omega) hO rfl 0 (by decide) (hq _ fl_M_34) (fun _ h9 => h9) rfl (by decide +kernel) rfl rfl (Nat.le_of_ble_eq_true rfl) rfl d_M_character_2 (fun F2 H locs eF2 hw => ?_)
    have m2_98 : F2 (98) = .inr (6, [.int (iI (0)), .ref (ad (99)), .ref (ad (100)), .ref (ad (101)), .ref (ad (102)), .int (iI ((nS g : Int))), .int (iI (pS g)), .ref (ad (103))]) := by rw [eF2]; exact va_up_self ..
    have hRn_at_2 : Rn ty F2 (g) := hRn.m3 (show F2 (99) = F (99) from by rw [eF2]; exact va_up_ne _ _ (by omega)) (show F2 (100) = F (100) from by rw [eF2]; exact va_up_ne _ _ (by omega)) (show F2 (101) = F (101) from by rw [eF2]; exact va_up_ne _ _ (by omega))
    have N0_at_2 : Nm ty F2 (0) (zS g 0) := N0.m3 (show F2 (99) = F (99) from by rw [eF2]; exact va_up_ne _ _ (by omega)) (show F2 (100) = F (100) from by rw [eF2]; exact va_up_ne _ _ (by omega)) (show F2 (101) = F (101) from by rw [eF2]; exact va_up_ne _ _ (by omega))
    have h102_at_2 : F2 (102) = .inl (ty 0, 1400, .inl (tt)) := (show F2 (102) = F (102) from by rw [eF2]; exact va_up_ne _ _ (by omega)).trans h102
    have h103_at_2 : F2 (103) = .inl (ty 0, 700, .inl (dd)) := (show F2 (103) = F (103) from by rw [eF2]; exact va_up_ne _ _ (by omega)).trans h103
    refine lv_iload_n hx hb d_M_character_5 rfl (lv_at hl 1 rfl) ?_
    refine wz_if_lt (tgt := 26) hx hb d_M_character_6 (by decide) (by omega) (by omega) (fun c6 => ?_) (fun c6 => ?_)
    · refine wz_iconst (n := -1) hx hb d_M_character_26 ?_
      rw [← hQ]
      exact pw_iret hx hb hr hlocks hw (⟨by rw [tat, if_neg (by omega)], Mo.mk' ⟨rfl, rfl, rfl⟩ m2_98 hRn_at_2 h102_at_2 htt h103_at_2, fun y9 h1 => show F2 (y9) = F (y9) from by rw [eF2]; exact va_up_ne _ _ (by omega)⟩) d_M_character_27
    · refine lv_iload_n hx hb d_M_character_9 rfl (lv_at hl 1 rfl) ?_
      refine lv_aload_n hx hb d_M_character_10 rfl (lv_at hl 0 rfl) ?_
      refine pw_get (ci := 6) (C := R_M) (T := T_M) (N := 8) hx hb hq i_M hown hw (by omega) m2_98 rfl 5 (by decide) (hq _ fl_M_125) (fun _ h9 => h9) rfl d_M_character_11 ?_
      refine wz_icmp_ge (tgt := 26) hx hb d_M_character_14 (by decide) (by omega) (by omega) (by omega) (by omega) (fun c14 => ?_) (fun c14 => ?_)
      · refine wz_iconst (n := -1) hx hb d_M_character_26 ?_
        rw [← hQ]
        exact pw_iret hx hb hr hlocks hw (⟨by rw [tat, if_neg (by omega)], Mo.mk' ⟨rfl, rfl, rfl⟩ m2_98 hRn_at_2 h102_at_2 htt h103_at_2, fun y9 h1 => show F2 (y9) = F (y9) from by rw [eF2]; exact va_up_ne _ _ (by omega)⟩) d_M_character_27
      · refine lv_aload_n hx hb d_M_character_17 rfl (lv_at hl 0 rfl) ?_
        refine pw_get (ci := 6) (C := R_M) (T := T_M) (N := 8) hx hb hq i_M hown hw (by omega) m2_98 rfl 4 (by decide) (hq _ fl_M_20) (fun _ h9 => h9) rfl d_M_character_18 ?_
        refine lv_iload_n hx hb d_M_character_21 rfl (lv_at hl 1 rfl) ?_
        refine pw_iald (k := i.toNat) hx hb hw 0 (by omega) h102_at_2 rfl (iI_in (by omega) (by omega) (by omega)) ((iI_cl (by omega) (by omega)).trans (by omega)) d_M_character_22 ?_
        refine lv_topi (fun x22 ex22 => ?_)
        obtain rfl : x22 = iI ((tS g i.toNat : Int)) := ex22.trans (htt _ (by omega))
        refine lv_goto (tgt := 27) hx hb d_M_character_23 (by decide) ?_
        rw [← hQ]
        exact pw_iret hx hb hr hlocks hw (⟨by rw [tat, if_pos (by omega)], Mo.mk' ⟨rfl, rfl, rfl⟩ m2_98 hRn_at_2 h102_at_2 htt h103_at_2, fun y9 h1 => show F2 (y9) = F (y9) from by rw [eF2]; exact va_up_ne _ _ (by omega)⟩) d_M_character_27
  rw [hH, hlo] at hgo
  exact hgo
