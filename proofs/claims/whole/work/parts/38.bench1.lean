/-! Fraction; Bench: takings: by program -/
set_option maxHeartbeats 4000000 in
set_option maxRecDepth 100000 in
/-- Fraction.isWhole() -/
theorem c_F_isWhole (l : Launch) (D : va_G) (ty : Nat → ClassId) (ad : Nat → Nat) (M : Nat) (F : Nat → va_E) (sz : Nat) (x xt xb xs : Nat) (hMx : x + 4 < M) (hRx : Frc ty ad F x xt xb xs) :
    CI l y_F_isWhole w_F_isWhole ({ frames := 1, cells := 0, slots := 0, locals := 20 } : Room) [.ref (ad (x))] D ty ad M F sz (fun r F1 => r = iI (if xb = 1 then 1 else 0) ∧ F1 = F) := by
  refine Met.ofW (cc := b_F_isWhole) (maxL := 1) (ret := (some .boolean)) (by decide) rfl ?_
  intro p e s m args below meth c s₁ B hml hv
  obtain ⟨rfl, hsz, hP, hK, hD0⟩ := hv
  have hx := B.exec
  have hb := B.bytes
  have hr := B.returns
  have hts := atoms_spec (ws := w_F_isWhole) B.pre
  have hq : ∀ w ∈ wT, w.before _ s = true := fun w h => hts w (List.mem_cons_of_mem _ h)
  have hown : s.vm.findClass R_F = some m.cls := findClass_of_methodNamed B.named
  have hlocks := B.notSynchronized
  subst hsz
  have hw := pw_start hP hK hD0
  have hl := lv_entry ([.ref (ad (x))]) (n := 1) (Nat.le_of_ble_eq_true rfl)
  rw [lg_entry_eq]
  generalize (lg_sl ([.ref (ad (x))]) ++ List.replicate (1 - (lg_sl ([.ref (ad (x))])).length) Slot.unset).toArray = ls at hl ⊢
  have hl : lv_has ls 1 [(0, .ref (ad (x)))] := hl
  change W p l e ({ frames := 1, cells := 0, slots := 0, locals := 20 } : Room) s m ([.ref (ad (x))]).toArray below meth c s.heap [] 0 0 (MQ below (va_Qi (fun r F1 => r = iI (if xb = 1 then 1 else 0) ∧ F1 = F) (pAt D classes (tysL ty) ad M (pA ad M s.heap.size)) (pA ad M s.heap.size)) ([.ref (ad (x))]).toArray s 0 0 (pA ad M s.heap.size)) (F0 m 0 ls [])
  generalize hQ : MQ below (va_Qi (fun r F1 => r = iI (if xb = 1 then 1 else 0) ∧ F1 = F) (pAt D classes (tysL ty) ad M (pA ad M s.heap.size)) (pA ad M s.heap.size)) ([.ref (ad (x))]).toArray s 0 0 (pA ad M s.heap.size) = Q
  obtain ⟨H, hH⟩ : ∃ H, H = s.heap := ⟨_, rfl⟩
  obtain ⟨locs, hlo⟩ : ∃ z : List Loc, z = [] := ⟨_, rfl⟩
  have hw : pw D classes (tysL ty) ad M F (pA ad M s.heap.size) s H locs := by rw [hH, hlo]; exact hw
  have hgo : W p l e ({ frames := 1, cells := 0, slots := 0, locals := 20 } : Room) s m ([.ref (ad (x))]).toArray below meth c H locs 0 0 Q (F0 m 0 ls []) := by
    obtain ⟨hbx, hFx, wx1, wx3⟩ := hRx
    refine lv_aload_n hx hb d_F_isWhole_0 rfl (lv_at hl 0 rfl) ?_
    refine pw_get (ci := 1) (C := R_F) (T := T_F) (N := 3) hx hb hq i_F hown hw (by omega) hFx rfl 1 (by decide) (hq _ fl_F_18) (fun _ h9 => h9) rfl d_F_isWhole_1 ?_
    refine pw_calli hw (va_runV (As := []) (rest := []) ⟨hx, hb, hml, hown, hq⟩ (c_W_isOne l D ty ad M F H.size (x + 3) 67 (xb) (by omega) (by omega) wx3) (cwV 0 hq (gV ml_F_29 im_W_isOne se_W_isOne in_W m_W_isOne) rfl rfl rfl (by decide +kernel) ⟨Nat.le_of_ble_eq_true rfl, Nat.le_of_ble_eq_true rfl⟩) (pw_preWa hw (by omega) ((wx3).a)) rfl rfl hl.1 rfl (lv_room (Nat.le_of_ble_eq_true rfl)) d_F_isWhole_4 ⟨Nat.le_of_ble_eq_true rfl, Nat.le_of_ble_eq_true rfl⟩) (fun r4 F4 H locs q4 hw => ?_)
    obtain ⟨er4, eF4⟩ := q4
    rw [eF4] at hw
    clear eF4
    subst er4
    rw [← hQ]
    exact pw_zret hx hb hr (nar_if) hlocks hw (⟨rfl, rfl⟩) d_F_isWhole_7
  rw [hH, hlo] at hgo
  exact hgo
set_option maxHeartbeats 4000000 in
set_option maxRecDepth 100000 in
/-- Fraction.signum() -/
theorem c_F_signum (l : Launch) (D : va_G) (ty : Nat → ClassId) (ad : Nat → Nat) (M : Nat) (F : Nat → va_E) (sz : Nat) (x xt xb xs : Nat) (hMx : x + 4 < M) (hRx : Frc ty ad F x xt xb xs) :
    CI l y_F_signum w_F_signum ({ frames := 1, cells := 0, slots := 0, locals := 20 } : Room) [.ref (ad (x))] D ty ad M F sz (fun r F1 => r = iI (sgn xs xt) ∧ F1 = F) := by
  refine Met.ofW (cc := b_F_signum) (maxL := 1) (ret := (some .int)) (by decide) rfl ?_
  intro p e s m args below meth c s₁ B hml hv
  obtain ⟨rfl, hsz, hP, hK, hD0⟩ := hv
  have hx := B.exec
  have hb := B.bytes
  have hr := B.returns
  have hts := atoms_spec (ws := w_F_signum) B.pre
  have hq : ∀ w ∈ wT, w.before _ s = true := fun w h => hts w (List.mem_cons_of_mem _ h)
  have hown : s.vm.findClass R_F = some m.cls := findClass_of_methodNamed B.named
  have hlocks := B.notSynchronized
  subst hsz
  have hw := pw_start hP hK hD0
  have hl := lv_entry ([.ref (ad (x))]) (n := 1) (Nat.le_of_ble_eq_true rfl)
  rw [lg_entry_eq]
  generalize (lg_sl ([.ref (ad (x))]) ++ List.replicate (1 - (lg_sl ([.ref (ad (x))])).length) Slot.unset).toArray = ls at hl ⊢
  have hl : lv_has ls 1 [(0, .ref (ad (x)))] := hl
  change W p l e ({ frames := 1, cells := 0, slots := 0, locals := 20 } : Room) s m ([.ref (ad (x))]).toArray below meth c s.heap [] 0 0 (MQ below (va_Qi (fun r F1 => r = iI (sgn xs xt) ∧ F1 = F) (pAt D classes (tysL ty) ad M (pA ad M s.heap.size)) (pA ad M s.heap.size)) ([.ref (ad (x))]).toArray s 0 0 (pA ad M s.heap.size)) (F0 m 0 ls [])
  generalize hQ : MQ below (va_Qi (fun r F1 => r = iI (sgn xs xt) ∧ F1 = F) (pAt D classes (tysL ty) ad M (pA ad M s.heap.size)) (pA ad M s.heap.size)) ([.ref (ad (x))]).toArray s 0 0 (pA ad M s.heap.size) = Q
  obtain ⟨H, hH⟩ : ∃ H, H = s.heap := ⟨_, rfl⟩
  obtain ⟨locs, hlo⟩ : ∃ z : List Loc, z = [] := ⟨_, rfl⟩
  have hw : pw D classes (tysL ty) ad M F (pA ad M s.heap.size) s H locs := by rw [hH, hlo]; exact hw
  have hgo : W p l e ({ frames := 1, cells := 0, slots := 0, locals := 20 } : Room) s m ([.ref (ad (x))]).toArray below meth c H locs 0 0 Q (F0 m 0 ls []) := by
    obtain ⟨hbx, hFx, wx1, wx3⟩ := hRx
    refine lv_aload_n hx hb d_F_signum_0 rfl (lv_at hl 0 rfl) ?_
    refine pw_get (ci := 1) (C := R_F) (T := T_F) (N := 3) hx hb hq i_F hown hw (by omega) hFx rfl 0 (by decide) (hq _ fl_F_14) (fun _ h9 => h9) rfl d_F_signum_1 ?_
    refine pw_calli hw (va_runV (As := []) (rest := []) ⟨hx, hb, hml, hown, hq⟩ (c_W_isZero l D ty ad M F H.size (x + 1) 67 (xt) (by omega) (by omega) wx1) (cwV 0 hq (gV ml_F_33 im_W_isZero se_W_isZero in_W m_W_isZero) rfl rfl rfl (by decide +kernel) ⟨Nat.le_of_ble_eq_true rfl, Nat.le_of_ble_eq_true rfl⟩) (pw_preWa hw (by omega) ((wx1).a)) rfl rfl hl.1 rfl (lv_room (Nat.le_of_ble_eq_true rfl)) d_F_signum_4 ⟨Nat.le_of_ble_eq_true rfl, Nat.le_of_ble_eq_true rfl⟩) (fun r4 F4 H locs q4 hw => ?_)
    obtain ⟨er4, eF4⟩ := q4
    rw [eF4] at hw
    clear eF4
    subst er4
    refine wz_if_eq (tgt := 12) hx hb d_F_signum_7 (by decide) (by split <;> omega) (by split <;> omega) (fun c7 => ?_) (fun c7 => ?_)
    · have hz := ite_z.mp c7
      refine lv_aload_n hx hb d_F_signum_12 rfl (lv_at hl 0 rfl) ?_
      refine pw_get (ci := 1) (C := R_F) (T := T_F) (N := 3) hx hb hq i_F hown hw (by omega) hFx rfl 2 (by decide) (hq _ fl_F_25) (fun _ h9 => h9) rfl d_F_signum_13 ?_
      refine wz_if_eq (tgt := 23) hx hb d_F_signum_16 (by decide) (by omega) (by omega) (fun c16 => ?_) (fun c16 => ?_)
      · refine wz_iconst (n := 1) hx hb d_F_signum_23 ?_
        rw [← hQ]
        exact pw_iret hx hb hr hlocks hw (⟨by rw [sgn, if_neg hz, if_neg (by omega)], rfl⟩) d_F_signum_24
      · refine wz_iconst (n := -1) hx hb d_F_signum_19 ?_
        refine lv_goto (tgt := 24) hx hb d_F_signum_20 (by decide) ?_
        rw [← hQ]
        exact pw_iret hx hb hr hlocks hw (⟨by rw [sgn, if_neg hz, if_pos (by omega)], rfl⟩) d_F_signum_24
    · have hz := ite_nz.mp c7
      refine wz_iconst (n := 0) hx hb d_F_signum_10 ?_
      rw [← hQ]
      exact pw_iret hx hb hr hlocks hw (⟨by rw [sgn, if_pos hz], rfl⟩) d_F_signum_11
  rw [hH, hlo] at hgo
  exact hgo
set_option maxHeartbeats 4000000 in
set_option maxRecDepth 100000 in
/-- Bench.takeParts(top, bottom, below) -/
theorem c_B_takeParts (l : Launch) (D : va_G) (ty : Nat → ClassId) (ad : Nat → Nat) (M : Nat) (F : Nat → va_E) (sz : Nat) (hM : 97 < M) (a b Na Nb ta tb s0 bb : Nat) (hs0 : s0 ≤ 1) (hMa : a + 1 < M) (hMb : b + 1 < M) (hNa : Na < 1000) (hNb : Nb < 1000) (haa : a < 82 ∧ a + 1 < 82 ∨ 86 < a) (hbb : b < 82 ∧ b + 1 < 82 ∨ 86 < b) (hta : ta < 2147483648 ^ 136) (htb : tb < 2147483648 ^ 136) (hB : F 82 = oB ad bb) (w83 : Wa ty ad F 83 136) (w85 : Wa ty ad F 85 136) (wa_ : Wv ty ad F a Na ta) (wb_ : Wv ty ad F b Nb tb) :
    CV l y_B_takeParts w_B_takeParts ({ frames := 3, cells := 0, slots := 0, locals := 82 } : Room) [.ref (ad (82)), .ref (ad (a)), .ref (ad (b)), .int (iI ((s0 : Int)))] D ty ad M F sz (fun F1 => F1 82 = oB ad s0 ∧ Wv ty ad F1 83 136 ta ∧ Wv ty ad F1 85 136 tb ∧ ∀ y, y < 82 ∨ 86 < y → F1 y = F y) := by
  refine Met.ofW (cc := b_B_takeParts) (maxL := 4) (ret := none) (by decide) rfl ?_
  intro p e s m args below meth c s₁ B hml hv
  obtain ⟨rfl, hsz, hP, hK, hD0⟩ := hv
  have hx := B.exec
  have hb := B.bytes
  have hr := B.returns
  have hts := atoms_spec (ws := w_B_takeParts) B.pre
  have hq : ∀ w ∈ wT, w.before _ s = true := fun w h => hts w (List.mem_cons_of_mem _ h)
  have hown : s.vm.findClass R_B = some m.cls := findClass_of_methodNamed B.named
  have hlocks := B.notSynchronized
  subst hsz
  have hw := pw_start hP hK hD0
  have hl := lv_entry ([.ref (ad (82)), .ref (ad (a)), .ref (ad (b)), .int (iI ((s0 : Int)))]) (n := 4) (Nat.le_of_ble_eq_true rfl)
  rw [lg_entry_eq]
  generalize (lg_sl ([.ref (ad (82)), .ref (ad (a)), .ref (ad (b)), .int (iI ((s0 : Int)))]) ++ List.replicate (4 - (lg_sl ([.ref (ad (82)), .ref (ad (a)), .ref (ad (b)), .int (iI ((s0 : Int)))])).length) Slot.unset).toArray = ls at hl ⊢
  have hl : lv_has ls 4 [(0, .ref (ad (82))), (1, .ref (ad (a))), (2, .ref (ad (b))), (3, .int (iI ((s0 : Int))))] := hl
  change W p l e ({ frames := 3, cells := 0, slots := 0, locals := 82 } : Room) s m ([.ref (ad (82)), .ref (ad (a)), .ref (ad (b)), .int (iI ((s0 : Int)))]).toArray below meth c s.heap [] 0 0 (MQ below (va_Qv (fun F1 => F1 82 = oB ad s0 ∧ Wv ty ad F1 83 136 ta ∧ Wv ty ad F1 85 136 tb ∧ ∀ y, y < 82 ∨ 86 < y → F1 y = F y) (pAt D classes (tysL ty) ad M (pA ad M s.heap.size)) (pA ad M s.heap.size)) ([.ref (ad (82)), .ref (ad (a)), .ref (ad (b)), .int (iI ((s0 : Int)))]).toArray s 0 0 (pA ad M s.heap.size)) (F0 m 0 ls [])
  generalize hQ : MQ below (va_Qv (fun F1 => F1 82 = oB ad s0 ∧ Wv ty ad F1 83 136 ta ∧ Wv ty ad F1 85 136 tb ∧ ∀ y, y < 82 ∨ 86 < y → F1 y = F y) (pAt D classes (tysL ty) ad M (pA ad M s.heap.size)) (pA ad M s.heap.size)) ([.ref (ad (82)), .ref (ad (a)), .ref (ad (b)), .int (iI ((s0 : Int)))]).toArray s 0 0 (pA ad M s.heap.size) = Q
  obtain ⟨H, hH⟩ : ∃ H, H = s.heap := ⟨_, rfl⟩
  obtain ⟨locs, hlo⟩ : ∃ z : List Loc, z = [] := ⟨_, rfl⟩
  have hw : pw D classes (tysL ty) ad M F (pA ad M s.heap.size) s H locs := by rw [hH, hlo]; exact hw
  have hgo : W p l e ({ frames := 3, cells := 0, slots := 0, locals := 82 } : Room) s m ([.ref (ad (82)), .ref (ad (a)), .ref (ad (b)), .int (iI ((s0 : Int)))]).toArray below meth c H locs 0 0 Q (F0 m 0 ls []) := by
    refine lv_aload_n hx hb d_B_takeParts_0 rfl (lv_at hl 0 rfl) ?_
    refine pw_get (ci := 4) (C := R_B) (T := T_B) (N := 7) hx hb hq i_B hown hw (by omega) hB rfl 0 (by decide) (hq _ fl_B_16) (fun _ h9 => h9) rfl d_B_takeParts_1 ?_
    refine lv_aload_n hx hb d_B_takeParts_4 rfl (lv_at hl 1 rfl) ?_
    refine pw_callv hw (va_runV (As := [.ref (ad (a))]) (rest := []) ⟨hx, hb, hml, hown, hq⟩ (c_W_become l D ty ad M F H.size (83) (a) 136 Na (ta) (by omega) (by omega) (by omega) (by omega) (by omega) (hta) w83 wa_) (cwV 1 hq (gV ml_B_47 im_W_become se_W_become in_W m_W_become) rfl rfl rfl (by decide +kernel) ⟨Nat.le_of_ble_eq_true rfl, Nat.le_of_ble_eq_true rfl⟩) (pw_preWa hw (by omega) w83) rfl rfl hl.1 rfl (lv_room (Nat.le_of_ble_eq_true rfl)) d_B_takeParts_5 ⟨Nat.le_of_ble_eq_true rfl, Nat.le_of_ble_eq_true rfl⟩) (fun F5 H locs q5 hw => ?_)
    obtain ⟨w83, hf5⟩ := q5
    have hB_at_5 : F5 (82) = .inr (4, [.ref (ad (83)), .ref (ad (85)), .ref (ad (87)), .ref (ad (89)), .ref (ad (91)), .ref (ad (93)), .int (iI ((bb : Int)))]) := (hf5 (82) (by omega) (by omega)).trans hB
    have w85_at_5 : Wa ty ad F5 (85) 136 := Wa.mv w85 (hf5 (85) (by omega) (by omega)) (hf5 (85 + 1) (by omega) (by omega))
    have wa__at_5 : Wv ty ad F5 (a) Na (ta) := Wv.mv wa_ (hf5 (a) (by omega) (by omega)) (hf5 (a + 1) (by omega) (by omega))
    have wb__at_5 : Wv ty ad F5 (b) Nb (tb) := Wv.mv wb_ (hf5 (b) (by omega) (by omega)) (hf5 (b + 1) (by omega) (by omega))
    refine lv_aload_n hx hb d_B_takeParts_8 rfl (lv_at hl 0 rfl) ?_
    refine pw_get (ci := 4) (C := R_B) (T := T_B) (N := 7) hx hb hq i_B hown hw (by omega) hB_at_5 rfl 1 (by decide) (hq _ fl_B_20) (fun _ h9 => h9) rfl d_B_takeParts_9 ?_
    refine lv_aload_n hx hb d_B_takeParts_12 rfl (lv_at hl 2 rfl) ?_
    refine pw_callv hw (va_runV (As := [.ref (ad (b))]) (rest := []) ⟨hx, hb, hml, hown, hq⟩ (c_W_become l D ty ad M F5 H.size (85) (b) 136 Nb (tb) (by omega) (by omega) (by omega) (by omega) (by omega) (htb) w85_at_5 wb__at_5) (cwV 1 hq (gV ml_B_47 im_W_become se_W_become in_W m_W_become) rfl rfl rfl (by decide +kernel) ⟨Nat.le_of_ble_eq_true rfl, Nat.le_of_ble_eq_true rfl⟩) (pw_preWa hw (by omega) w85_at_5) rfl rfl hl.1 rfl (lv_room (Nat.le_of_ble_eq_true rfl)) d_B_takeParts_13 ⟨Nat.le_of_ble_eq_true rfl, Nat.le_of_ble_eq_true rfl⟩) (fun F13 H locs q13 hw => ?_)
    obtain ⟨w85, hf13⟩ := q13
    have hB_at_13 : F13 (82) = .inr (4, [.ref (ad (83)), .ref (ad (85)), .ref (ad (87)), .ref (ad (89)), .ref (ad (91)), .ref (ad (93)), .int (iI ((bb : Int)))]) := (hf13 (82) (by omega) (by omega)).trans hB_at_5
    have wa__at_13 : Wv ty ad F13 (a) Na (ta) := Wv.mv wa__at_5 (hf13 (a) (by omega) (by omega)) (hf13 (a + 1) (by omega) (by omega))
    have wb__at_13 : Wv ty ad F13 (b) Nb (tb) := Wv.mv wb__at_5 (hf13 (b) (by omega) (by omega)) (hf13 (b + 1) (by omega) (by omega))
    have w83_at_13 : Wv ty ad F13 (83) 136 (ta) := Wv.mv w83 (hf13 (83) (by omega) (by omega)) (hf13 (83 + 1) (by omega) (by omega))
    refine lv_aload_n hx hb d_B_takeParts_16 rfl (lv_at hl 0 rfl) ?_
    refine lv_iload_n hx hb d_B_takeParts_17 rfl (lv_at hl 3 rfl) ?_
    refine pw_put (ci := 4) (C := R_B) (T := T_B) (N := 7) (ty := .boolean) (fs' := [.ref (ad (83)), .ref (ad (85)), .ref (ad (87)), .ref (ad (89)), .ref (ad (91)), .ref (ad (93)), .int (iI ((s0 : Int)))]) hx hb hq i_B ft_B ft_B_ok n_B hown hw (by omega) hB_at_13 rfl 6 (by decide) (hq _ fl_B_39) (fun _ h9 => h9) rfl (by decide +kernel) (nar_bb hs0) (fit_bb hs0) (Nat.le_of_ble_eq_true rfl) rfl d_B_takeParts_18 (fun F18 H locs eF18 hw => ?_)
    have m18_82 : F18 (82) = .inr (4, [.ref (ad (83)), .ref (ad (85)), .ref (ad (87)), .ref (ad (89)), .ref (ad (91)), .ref (ad (93)), .int (iI ((s0 : Int)))]) := by rw [eF18]; exact va_up_self ..
    have wa__at_18 : Wv ty ad F18 (a) Na (ta) := Wv.mv wa__at_13 (show F18 (a) = F13 (a) from by rw [eF18]; exact va_up_ne _ _ (by omega)) (show F18 (a + 1) = F13 (a + 1) from by rw [eF18]; exact va_up_ne _ _ (by omega))
    have wb__at_18 : Wv ty ad F18 (b) Nb (tb) := Wv.mv wb__at_13 (show F18 (b) = F13 (b) from by rw [eF18]; exact va_up_ne _ _ (by omega)) (show F18 (b + 1) = F13 (b + 1) from by rw [eF18]; exact va_up_ne _ _ (by omega))
    have w83_at_18 : Wv ty ad F18 (83) 136 (ta) := Wv.mv w83_at_13 (show F18 (83) = F13 (83) from by rw [eF18]; exact va_up_ne _ _ (by omega)) (show F18 (83 + 1) = F13 (83 + 1) from by rw [eF18]; exact va_up_ne _ _ (by omega))
    have w85_at_18 : Wv ty ad F18 (85) 136 (tb) := Wv.mv w85 (show F18 (85) = F13 (85) from by rw [eF18]; exact va_up_ne _ _ (by omega)) (show F18 (85 + 1) = F13 (85 + 1) from by rw [eF18]; exact va_up_ne _ _ (by omega))
    rw [← hQ]
    exact pw_vret hx hb hr hlocks hw (⟨m18_82, w83_at_18, w85_at_18, fun y h1 => by rw [eF18, va_up_ne _ _ (by omega), hf13 y (by omega) (by omega), hf5 y (by omega) (by omega)]⟩) d_B_takeParts_21
  rw [hH, hlo] at hgo
  exact hgo
set_option maxHeartbeats 4000000 in
set_option maxRecDepth 100000 in
/-- Bench.take(x) -/
theorem c_B_take (l : Launch) (D : va_G) (ty : Nat → ClassId) (ad : Nat → Nat) (M : Nat) (F : Nat → va_E) (sz : Nat) (hM : 97 < M) (bb : Nat) (x xt xb xs : Nat) (hMx : x + 4 < M) (hRx : Frc ty ad F x xt xb xs) (hx82 : x + 4 < 82) (hxt : sm xt) (hxb : sm xb) (hB : F 82 = oB ad bb) (w83 : Wa ty ad F 83 136) (w85 : Wa ty ad F 85 136) :
    CV l y_B_take w_B_take ({ frames := 4, cells := 0, slots := 0, locals := 105 } : Room) [.ref (ad (82)), .ref (ad (x))] D ty ad M F sz (fun F1 => F1 82 = oB ad xs ∧ Wv ty ad F1 83 136 xt ∧ Wv ty ad F1 85 136 xb ∧ ∀ y, y < 82 ∨ 86 < y → F1 y = F y) := by
  refine Met.ofW (cc := b_B_take) (maxL := 2) (ret := none) (by decide) rfl ?_
  intro p e s m args below meth c s₁ B hml hv
  obtain ⟨rfl, hsz, hP, hK, hD0⟩ := hv
  have hx := B.exec
  have hb := B.bytes
  have hr := B.returns
  have hts := atoms_spec (ws := w_B_take) B.pre
  have hq : ∀ w ∈ wT, w.before _ s = true := fun w h => hts w (List.mem_cons_of_mem _ h)
  have hown : s.vm.findClass R_B = some m.cls := findClass_of_methodNamed B.named
  have hlocks := B.notSynchronized
  subst hsz
  have hw := pw_start hP hK hD0
  have hl := lv_entry ([.ref (ad (82)), .ref (ad (x))]) (n := 2) (Nat.le_of_ble_eq_true rfl)
  rw [lg_entry_eq]
  generalize (lg_sl ([.ref (ad (82)), .ref (ad (x))]) ++ List.replicate (2 - (lg_sl ([.ref (ad (82)), .ref (ad (x))])).length) Slot.unset).toArray = ls at hl ⊢
  have hl : lv_has ls 2 [(0, .ref (ad (82))), (1, .ref (ad (x)))] := hl
  change W p l e ({ frames := 4, cells := 0, slots := 0, locals := 105 } : Room) s m ([.ref (ad (82)), .ref (ad (x))]).toArray below meth c s.heap [] 0 0 (MQ below (va_Qv (fun F1 => F1 82 = oB ad xs ∧ Wv ty ad F1 83 136 xt ∧ Wv ty ad F1 85 136 xb ∧ ∀ y, y < 82 ∨ 86 < y → F1 y = F y) (pAt D classes (tysL ty) ad M (pA ad M s.heap.size)) (pA ad M s.heap.size)) ([.ref (ad (82)), .ref (ad (x))]).toArray s 0 0 (pA ad M s.heap.size)) (F0 m 0 ls [])
  generalize hQ : MQ below (va_Qv (fun F1 => F1 82 = oB ad xs ∧ Wv ty ad F1 83 136 xt ∧ Wv ty ad F1 85 136 xb ∧ ∀ y, y < 82 ∨ 86 < y → F1 y = F y) (pAt D classes (tysL ty) ad M (pA ad M s.heap.size)) (pA ad M s.heap.size)) ([.ref (ad (82)), .ref (ad (x))]).toArray s 0 0 (pA ad M s.heap.size) = Q
  obtain ⟨H, hH⟩ : ∃ H, H = s.heap := ⟨_, rfl⟩
  obtain ⟨locs, hlo⟩ : ∃ z : List Loc, z = [] := ⟨_, rfl⟩
  have hw : pw D classes (tysL ty) ad M F (pA ad M s.heap.size) s H locs := by rw [hH, hlo]; exact hw
  have hgo : W p l e ({ frames := 4, cells := 0, slots := 0, locals := 105 } : Room) s m ([.ref (ad (82)), .ref (ad (x))]).toArray below meth c H locs 0 0 Q (F0 m 0 ls []) := by
    obtain ⟨hbx, hFx, wx1, wx3⟩ := hRx
    refine lv_aload_n hx hb d_B_take_0 rfl (lv_at hl 0 rfl) ?_
    refine lv_aload_n hx hb d_B_take_1 rfl (lv_at hl 1 rfl) ?_
    refine pw_get (ci := 1) (C := R_F) (T := T_F) (N := 3) hx hb hq i_F hown hw (by omega) hFx rfl 0 (by decide) (hq _ fl_B_69) (fun _ h9 => h9) rfl d_B_take_2 ?_
    refine lv_aload_n hx hb d_B_take_5 rfl (lv_at hl 1 rfl) ?_
    refine pw_get (ci := 1) (C := R_F) (T := T_F) (N := 3) hx hb hq i_F hown hw (by omega) hFx rfl 1 (by decide) (hq _ fl_B_72) (fun _ h9 => h9) rfl d_B_take_6 ?_
    refine lv_aload_n hx hb d_B_take_9 rfl (lv_at hl 1 rfl) ?_
    refine pw_get (ci := 1) (C := R_F) (T := T_F) (N := 3) hx hb hq i_F hown hw (by omega) hFx rfl 2 (by decide) (hq _ fl_B_76) (fun _ h9 => h9) rfl d_B_take_10 ?_
    refine pw_callv hw (va_runV (As := [.ref (ad (x + 1)), .ref (ad (x + 3)), .int (iI ((xs : Int)))]) (rest := []) ⟨hx, hb, hml, hown, hq⟩ (c_B_takeParts l D ty ad M F H.size hM (x + 1) (x + 3) 67 67 xt xb xs bb hbx (by omega) (by omega) (by omega) (by omega) (by omega) (by omega) hxt.f136 hxb.f136 hB w83 w85 wx1 wx3) (cwV 3 hq (gV ml_B_105 im_B_takeParts se_B_takeParts in_B m_B_takeParts) rfl rfl rfl (by decide +kernel) ⟨Nat.le_of_ble_eq_true rfl, Nat.le_of_ble_eq_true rfl⟩) (pw_preV hw (by omega) hB rfl) rfl rfl hl.1 rfl (lv_room (Nat.le_of_ble_eq_true rfl)) d_B_take_13 ⟨Nat.le_of_ble_eq_true rfl, Nat.le_of_ble_eq_true rfl⟩) (fun F13 H locs q13 hw => ?_)
    rw [← hQ]
    exact pw_vret hx hb hr hlocks hw (q13) d_B_take_16
  rw [hH, hlo] at hgo
  exact hgo
set_option maxHeartbeats 4000000 in
set_option maxRecDepth 100000 in
/-- Bench.takeWhole(number, below) -/
theorem c_B_takeWhole (l : Launch) (D : va_G) (ty : Nat → ClassId) (ad : Nat → Nat) (M : Nat) (F : Nat → va_E) (sz : Nat) (hM : 97 < M) (a Na ta s0 bb : Nat) (hs0 : s0 ≤ 1) (hMa : a + 1 < M) (hNa : Na < 1000) (haa : a < 82 ∧ a + 1 < 82 ∨ 86 < a) (hta : ta < 2147483648 ^ 136) (hB : F 82 = oB ad bb) (w83 : Wa ty ad F 83 136) (w85 : Wa ty ad F 85 136) (wa_ : Wv ty ad F a Na ta) :
    CV l y_B_takeWhole w_B_takeWhole ({ frames := 3, cells := 0, slots := 0, locals := 82 } : Room) [.ref (ad (82)), .ref (ad (a)), .int (iI ((s0 : Int)))] D ty ad M F sz (fun F1 => F1 82 = oB ad s0 ∧ Wv ty ad F1 83 136 ta ∧ Wv ty ad F1 85 136 1 ∧ ∀ y, y < 82 ∨ 86 < y → F1 y = F y) := by
  refine Met.ofW (cc := b_B_takeWhole) (maxL := 3) (ret := none) (by decide) rfl ?_
  intro p e s m args below meth c s₁ B hml hv
  obtain ⟨rfl, hsz, hP, hK, hD0⟩ := hv
  have hx := B.exec
  have hb := B.bytes
  have hr := B.returns
  have hts := atoms_spec (ws := w_B_takeWhole) B.pre
  have hq : ∀ w ∈ wT, w.before _ s = true := fun w h => hts w (List.mem_cons_of_mem _ h)
  have hown : s.vm.findClass R_B = some m.cls := findClass_of_methodNamed B.named
  have hlocks := B.notSynchronized
  subst hsz
  have hw := pw_start hP hK hD0
  have hl := lv_entry ([.ref (ad (82)), .ref (ad (a)), .int (iI ((s0 : Int)))]) (n := 3) (Nat.le_of_ble_eq_true rfl)
  rw [lg_entry_eq]
  generalize (lg_sl ([.ref (ad (82)), .ref (ad (a)), .int (iI ((s0 : Int)))]) ++ List.replicate (3 - (lg_sl ([.ref (ad (82)), .ref (ad (a)), .int (iI ((s0 : Int)))])).length) Slot.unset).toArray = ls at hl ⊢
  have hl : lv_has ls 3 [(0, .ref (ad (82))), (1, .ref (ad (a))), (2, .int (iI ((s0 : Int))))] := hl
  change W p l e ({ frames := 3, cells := 0, slots := 0, locals := 82 } : Room) s m ([.ref (ad (82)), .ref (ad (a)), .int (iI ((s0 : Int)))]).toArray below meth c s.heap [] 0 0 (MQ below (va_Qv (fun F1 => F1 82 = oB ad s0 ∧ Wv ty ad F1 83 136 ta ∧ Wv ty ad F1 85 136 1 ∧ ∀ y, y < 82 ∨ 86 < y → F1 y = F y) (pAt D classes (tysL ty) ad M (pA ad M s.heap.size)) (pA ad M s.heap.size)) ([.ref (ad (82)), .ref (ad (a)), .int (iI ((s0 : Int)))]).toArray s 0 0 (pA ad M s.heap.size)) (F0 m 0 ls [])
  generalize hQ : MQ below (va_Qv (fun F1 => F1 82 = oB ad s0 ∧ Wv ty ad F1 83 136 ta ∧ Wv ty ad F1 85 136 1 ∧ ∀ y, y < 82 ∨ 86 < y → F1 y = F y) (pAt D classes (tysL ty) ad M (pA ad M s.heap.size)) (pA ad M s.heap.size)) ([.ref (ad (82)), .ref (ad (a)), .int (iI ((s0 : Int)))]).toArray s 0 0 (pA ad M s.heap.size) = Q
  obtain ⟨H, hH⟩ : ∃ H, H = s.heap := ⟨_, rfl⟩
  obtain ⟨locs, hlo⟩ : ∃ z : List Loc, z = [] := ⟨_, rfl⟩
  have hw : pw D classes (tysL ty) ad M F (pA ad M s.heap.size) s H locs := by rw [hH, hlo]; exact hw
  have hgo : W p l e ({ frames := 3, cells := 0, slots := 0, locals := 82 } : Room) s m ([.ref (ad (82)), .ref (ad (a)), .int (iI ((s0 : Int)))]).toArray below meth c H locs 0 0 Q (F0 m 0 ls []) := by
    refine lv_aload_n hx hb d_B_takeWhole_0 rfl (lv_at hl 0 rfl) ?_
    refine pw_get (ci := 4) (C := R_B) (T := T_B) (N := 7) hx hb hq i_B hown hw (by omega) hB rfl 0 (by decide) (hq _ fl_B_16) (fun _ h9 => h9) rfl d_B_takeWhole_1 ?_
    refine lv_aload_n hx hb d_B_takeWhole_4 rfl (lv_at hl 1 rfl) ?_
    refine pw_callv hw (va_runV (As := [.ref (ad (a))]) (rest := []) ⟨hx, hb, hml, hown, hq⟩ (c_W_become l D ty ad M F H.size (83) (a) 136 Na (ta) (by omega) (by omega) (by omega) (by omega) (by omega) (hta) w83 wa_) (cwV 1 hq (gV ml_B_47 im_W_become se_W_become in_W m_W_become) rfl rfl rfl (by decide +kernel) ⟨Nat.le_of_ble_eq_true rfl, Nat.le_of_ble_eq_true rfl⟩) (pw_preWa hw (by omega) w83) rfl rfl hl.1 rfl (lv_room (Nat.le_of_ble_eq_true rfl)) d_B_takeWhole_5 ⟨Nat.le_of_ble_eq_true rfl, Nat.le_of_ble_eq_true rfl⟩) (fun F5 H locs q5 hw => ?_)
    obtain ⟨w83, hf5⟩ := q5
    have hB_at_5 : F5 (82) = .inr (4, [.ref (ad (83)), .ref (ad (85)), .ref (ad (87)), .ref (ad (89)), .ref (ad (91)), .ref (ad (93)), .int (iI ((bb : Int)))]) := (hf5 (82) (by omega) (by omega)).trans hB
    have w85_at_5 : Wa ty ad F5 (85) 136 := Wa.mv w85 (hf5 (85) (by omega) (by omega)) (hf5 (85 + 1) (by omega) (by omega))
    have wa__at_5 : Wv ty ad F5 (a) Na (ta) := Wv.mv wa_ (hf5 (a) (by omega) (by omega)) (hf5 (a + 1) (by omega) (by omega))
    refine lv_aload_n hx hb d_B_takeWhole_8 rfl (lv_at hl 0 rfl) ?_
    refine pw_get (ci := 4) (C := R_B) (T := T_B) (N := 7) hx hb hq i_B hown hw (by omega) hB_at_5 rfl 1 (by decide) (hq _ fl_B_20) (fun _ h9 => h9) rfl d_B_takeWhole_9 ?_
    refine lv_lconst (v := iL 1) hx hb d_B_takeWhole_12 (by decide) ?_
    refine pw_callv hw (va_runV (As := [.long (iL (1))]) (rest := []) ⟨hx, hb, hml, hown, hq⟩ (c_W_becomeLong l D ty ad M F5 H.size (85) 136 (1) (by omega) (by omega) (by omega) (by omega) w85_at_5) (cwV 1 hq (gV ml_B_83 im_W_becomeLong se_W_becomeLong in_W m_W_becomeLong) rfl rfl rfl (by decide +kernel) ⟨Nat.le_of_ble_eq_true rfl, Nat.le_of_ble_eq_true rfl⟩) (pw_preWa hw (by omega) w85_at_5) rfl rfl hl.1 rfl (lv_room (Nat.le_of_ble_eq_true rfl)) d_B_takeWhole_13 ⟨Nat.le_of_ble_eq_true rfl, Nat.le_of_ble_eq_true rfl⟩) (fun F13 H locs q13 hw => ?_)
    obtain ⟨w85, hf13⟩ := q13
    have hB_at_13 : F13 (82) = .inr (4, [.ref (ad (83)), .ref (ad (85)), .ref (ad (87)), .ref (ad (89)), .ref (ad (91)), .ref (ad (93)), .int (iI ((bb : Int)))]) := (hf13 (82) (by omega) (by omega)).trans hB_at_5
    have wa__at_13 : Wv ty ad F13 (a) Na (ta) := Wv.mv wa__at_5 (hf13 (a) (by omega) (by omega)) (hf13 (a + 1) (by omega) (by omega))
    have w83_at_13 : Wv ty ad F13 (83) 136 (ta) := Wv.mv w83 (hf13 (83) (by omega) (by omega)) (hf13 (83 + 1) (by omega) (by omega))
    refine lv_aload_n hx hb d_B_takeWhole_16 rfl (lv_at hl 0 rfl) ?_
    refine lv_iload_n hx hb d_B_takeWhole_17 rfl (lv_at hl 2 rfl) ?_
    refine pw_put (ci := 4) (C := R_B) (T := T_B) (N := 7) (ty := .boolean) (fs' := [.ref (ad (83)), .ref (ad (85)), .ref (ad (87)), .ref (ad (89)), .ref (ad (91)), .ref (ad (93)), .int (iI ((s0 : Int)))]) hx hb hq i_B ft_B ft_B_ok n_B hown hw (by omega) hB_at_13 rfl 6 (by decide) (hq _ fl_B_39) (fun _ h9 => h9) rfl (by decide +kernel) (nar_bb hs0) (fit_bb hs0) (Nat.le_of_ble_eq_true rfl) rfl d_B_takeWhole_18 (fun F18 H locs eF18 hw => ?_)
    have m18_82 : F18 (82) = .inr (4, [.ref (ad (83)), .ref (ad (85)), .ref (ad (87)), .ref (ad (89)), .ref (ad (91)), .ref (ad (93)), .int (iI ((s0 : Int)))]) := by rw [eF18]; exact va_up_self ..
    have wa__at_18 : Wv ty ad F18 (a) Na (ta) := Wv.mv wa__at_13 (show F18 (a) = F13 (a) from by rw [eF18]; exact va_up_ne _ _ (by omega)) (show F18 (a + 1) = F13 (a + 1) from by rw [eF18]; exact va_up_ne _ _ (by omega))
    have w83_at_18 : Wv ty ad F18 (83) 136 (ta) := Wv.mv w83_at_13 (show F18 (83) = F13 (83) from by rw [eF18]; exact va_up_ne _ _ (by omega)) (show F18 (83 + 1) = F13 (83 + 1) from by rw [eF18]; exact va_up_ne _ _ (by omega))
    have w85_at_18 : Wv ty ad F18 (85) 136 (1) := Wv.mv w85 (show F18 (85) = F13 (85) from by rw [eF18]; exact va_up_ne _ _ (by omega)) (show F18 (85 + 1) = F13 (85 + 1) from by rw [eF18]; exact va_up_ne _ _ (by omega))
    rw [← hQ]
    exact pw_vret hx hb hr hlocks hw (⟨m18_82, w83_at_18, w85_at_18, fun y h1 => by rw [eF18, va_up_ne _ _ (by omega), hf13 y (by omega) (by omega), hf5 y (by omega) (by omega)]⟩) d_B_takeWhole_21
  rw [hH, hlo] at hgo
  exact hgo
set_option maxHeartbeats 4000000 in
set_option maxRecDepth 100000 in
/-- Bench.copyOf(number) -/
theorem c_B_copyOf (l : Launch) (D : va_G) (ty : Nat → ClassId) (ad : Nat → Nat) (M : Nat) (F : Nat → va_E) (sz : Nat) (hM : 97 < M) (a Na ta bb : Nat) (hMa : a + 1 < M) (hNa : Na < 1000) (haa : a < 82 ∧ a + 1 < 82) (hta : ta < 2147483648 ^ 136) (hB : F 82 = oB ad bb) (w91 : Wa ty ad F 91 136) (wa_ : Wv ty ad F a Na ta) :
    CR l y_B_copyOf w_B_copyOf ({ frames := 3, cells := 0, slots := 0, locals := 82 } : Room) [.ref (ad (82)), .ref (ad (a))] D ty ad M F sz (fun u => u.1 = 91 ∧ Wv ty ad u.2 91 136 ta ∧ ∀ y, y < 91 ∨ 92 < y → u.2 y = F y) := by
  refine Met.ofW (cc := b_B_copyOf) (maxL := 2) (ret := (some (.object "FractionDesk$Whole"))) (by decide) rfl ?_
  intro p e s m args below meth c s₁ B hml hv
  obtain ⟨rfl, hsz, hP, hK, hD0⟩ := hv
  have hx := B.exec
  have hb := B.bytes
  have hr := B.returns
  have hts := atoms_spec (ws := w_B_copyOf) B.pre
  have hq : ∀ w ∈ wT, w.before _ s = true := fun w h => hts w (List.mem_cons_of_mem _ h)
  have hown : s.vm.findClass R_B = some m.cls := findClass_of_methodNamed B.named
  have hlocks := B.notSynchronized
  subst hsz
  have hw := pw_start hP hK hD0
  have hl := lv_entry ([.ref (ad (82)), .ref (ad (a))]) (n := 2) (Nat.le_of_ble_eq_true rfl)
  rw [lg_entry_eq]
  generalize (lg_sl ([.ref (ad (82)), .ref (ad (a))]) ++ List.replicate (2 - (lg_sl ([.ref (ad (82)), .ref (ad (a))])).length) Slot.unset).toArray = ls at hl ⊢
  have hl : lv_has ls 2 [(0, .ref (ad (82))), (1, .ref (ad (a)))] := hl
  change W p l e ({ frames := 3, cells := 0, slots := 0, locals := 82 } : Room) s m ([.ref (ad (82)), .ref (ad (a))]).toArray below meth c s.heap [] 0 0 (MQ below (va_Qr (fun u => u.1 = 91 ∧ Wv ty ad u.2 91 136 ta ∧ ∀ y, y < 91 ∨ 92 < y → u.2 y = F y) (pAtR D classes (tysL ty) ad M (pA ad M s.heap.size)) (pA ad M s.heap.size)) ([.ref (ad (82)), .ref (ad (a))]).toArray s 0 0 (pA ad M s.heap.size)) (F0 m 0 ls [])
  generalize hQ : MQ below (va_Qr (fun u => u.1 = 91 ∧ Wv ty ad u.2 91 136 ta ∧ ∀ y, y < 91 ∨ 92 < y → u.2 y = F y) (pAtR D classes (tysL ty) ad M (pA ad M s.heap.size)) (pA ad M s.heap.size)) ([.ref (ad (82)), .ref (ad (a))]).toArray s 0 0 (pA ad M s.heap.size) = Q
  obtain ⟨H, hH⟩ : ∃ H, H = s.heap := ⟨_, rfl⟩
  obtain ⟨locs, hlo⟩ : ∃ z : List Loc, z = [] := ⟨_, rfl⟩
  have hw : pw D classes (tysL ty) ad M F (pA ad M s.heap.size) s H locs := by rw [hH, hlo]; exact hw
  have hgo : W p l e ({ frames := 3, cells := 0, slots := 0, locals := 82 } : Room) s m ([.ref (ad (82)), .ref (ad (a))]).toArray below meth c H locs 0 0 Q (F0 m 0 ls []) := by
    refine lv_aload_n hx hb d_B_copyOf_0 rfl (lv_at hl 0 rfl) ?_
    refine pw_get (ci := 4) (C := R_B) (T := T_B) (N := 7) hx hb hq i_B hown hw (by omega) hB rfl 4 (by decide) (hq _ fl_B_29) (fun _ h9 => h9) rfl d_B_copyOf_1 ?_
    refine lv_aload_n hx hb d_B_copyOf_4 rfl (lv_at hl 1 rfl) ?_
    refine pw_callv hw (va_runV (As := [.ref (ad (a))]) (rest := []) ⟨hx, hb, hml, hown, hq⟩ (c_W_become l D ty ad M F H.size (91) (a) 136 Na (ta) (by omega) (by omega) (by omega) (by omega) (by omega) (hta) w91 wa_) (cwV 1 hq (gV ml_B_47 im_W_become se_W_become in_W m_W_become) rfl rfl rfl (by decide +kernel) ⟨Nat.le_of_ble_eq_true rfl, Nat.le_of_ble_eq_true rfl⟩) (pw_preWa hw (by omega) w91) rfl rfl hl.1 rfl (lv_room (Nat.le_of_ble_eq_true rfl)) d_B_copyOf_5 ⟨Nat.le_of_ble_eq_true rfl, Nat.le_of_ble_eq_true rfl⟩) (fun F5 H locs q5 hw => ?_)
    obtain ⟨w91, hf5⟩ := q5
    have hB_at_5 : F5 (82) = .inr (4, [.ref (ad (83)), .ref (ad (85)), .ref (ad (87)), .ref (ad (89)), .ref (ad (91)), .ref (ad (93)), .int (iI ((bb : Int)))]) := (hf5 (82) (by omega) (by omega)).trans hB
    have wa__at_5 : Wv ty ad F5 (a) Na (ta) := Wv.mv wa_ (hf5 (a) (by omega) (by omega)) (hf5 (a + 1) (by omega) (by omega))
    refine lv_aload_n hx hb d_B_copyOf_8 rfl (lv_at hl 0 rfl) ?_
    refine pw_get (ci := 4) (C := R_B) (T := T_B) (N := 7) hx hb hq i_B hown hw (by omega) hB_at_5 rfl 4 (by decide) (hq _ fl_B_29) (fun _ h9 => h9) rfl d_B_copyOf_9 ?_
    rw [← hQ]
    exact pw_aret hx hb hr (Or.inl ⟨_, rfl⟩) hlocks hw (⟨rfl, w91, fun y h1 => hf5 y (by omega) (by omega)⟩) d_B_copyOf_12
  rw [hH, hlo] at hgo
  exact hgo
set_option maxHeartbeats 4000000 in
set_option maxRecDepth 100000 in
/-- Bench.cross(x, y) -/
theorem c_B_cross (l : Launch) (D : va_G) (ty : Nat → ClassId) (ad : Nat → Nat) (M : Nat) (F : Nat → va_E) (sz : Nat) (hM : 97 < M) (bb : Nat) (x xt xb xs : Nat) (hMx : x + 4 < M) (hRx : Frc ty ad F x xt xb xs)(y yt yb ys : Nat) (hMy : y + 4 < M) (hRy : Frc ty ad F y yt yb ys) (hx82 : x + 4 < 82) (hy82 : y + 4 < 82) (hxt : sm xt) (hxb : sm xb) (hyt : sm yt) (hyb : sm yb) (hB : F 82 = oB ad bb) (w87 : Wa ty ad F 87 136) (w89 : Wa ty ad F 89 136) :
    CV l y_B_cross w_B_cross ({ frames := 3, cells := 0, slots := 0, locals := 77 } : Room) [.ref (ad (82)), .ref (ad (x)), .ref (ad (y))] D ty ad M F sz (fun F1 => Wv ty ad F1 87 136 (xt * yb) ∧ Wv ty ad F1 89 136 (yt * xb) ∧ ∀ z, z < 87 ∨ 90 < z → F1 z = F z) := by
  refine Met.ofW (cc := b_B_cross) (maxL := 3) (ret := none) (by decide) rfl ?_
  intro p e s m args below meth c s₁ B hml hv
  obtain ⟨rfl, hsz, hP, hK, hD0⟩ := hv
  have hx := B.exec
  have hb := B.bytes
  have hr := B.returns
  have hts := atoms_spec (ws := w_B_cross) B.pre
  have hq : ∀ w ∈ wT, w.before _ s = true := fun w h => hts w (List.mem_cons_of_mem _ h)
  have hown : s.vm.findClass R_B = some m.cls := findClass_of_methodNamed B.named
  have hlocks := B.notSynchronized
  subst hsz
  have hw := pw_start hP hK hD0
  have hl := lv_entry ([.ref (ad (82)), .ref (ad (x)), .ref (ad (y))]) (n := 3) (Nat.le_of_ble_eq_true rfl)
  rw [lg_entry_eq]
  generalize (lg_sl ([.ref (ad (82)), .ref (ad (x)), .ref (ad (y))]) ++ List.replicate (3 - (lg_sl ([.ref (ad (82)), .ref (ad (x)), .ref (ad (y))])).length) Slot.unset).toArray = ls at hl ⊢
  have hl : lv_has ls 3 [(0, .ref (ad (82))), (1, .ref (ad (x))), (2, .ref (ad (y)))] := hl
  change W p l e ({ frames := 3, cells := 0, slots := 0, locals := 77 } : Room) s m ([.ref (ad (82)), .ref (ad (x)), .ref (ad (y))]).toArray below meth c s.heap [] 0 0 (MQ below (va_Qv (fun F1 => Wv ty ad F1 87 136 (xt * yb) ∧ Wv ty ad F1 89 136 (yt * xb) ∧ ∀ z, z < 87 ∨ 90 < z → F1 z = F z) (pAt D classes (tysL ty) ad M (pA ad M s.heap.size)) (pA ad M s.heap.size)) ([.ref (ad (82)), .ref (ad (x)), .ref (ad (y))]).toArray s 0 0 (pA ad M s.heap.size)) (F0 m 0 ls [])
  generalize hQ : MQ below (va_Qv (fun F1 => Wv ty ad F1 87 136 (xt * yb) ∧ Wv ty ad F1 89 136 (yt * xb) ∧ ∀ z, z < 87 ∨ 90 < z → F1 z = F z) (pAt D classes (tysL ty) ad M (pA ad M s.heap.size)) (pA ad M s.heap.size)) ([.ref (ad (82)), .ref (ad (x)), .ref (ad (y))]).toArray s 0 0 (pA ad M s.heap.size) = Q
  obtain ⟨H, hH⟩ : ∃ H, H = s.heap := ⟨_, rfl⟩
  obtain ⟨locs, hlo⟩ : ∃ z : List Loc, z = [] := ⟨_, rfl⟩
  have hw : pw D classes (tysL ty) ad M F (pA ad M s.heap.size) s H locs := by rw [hH, hlo]; exact hw
  have hgo : W p l e ({ frames := 3, cells := 0, slots := 0, locals := 77 } : Room) s m ([.ref (ad (82)), .ref (ad (x)), .ref (ad (y))]).toArray below meth c H locs 0 0 Q (F0 m 0 ls []) := by
    obtain ⟨hbx, hFx, wx1, wx3⟩ := hRx
    obtain ⟨hby, hFy, wy1, wy3⟩ := hRy
    refine lv_aload_n hx hb d_B_cross_0 rfl (lv_at hl 0 rfl) ?_
    refine pw_get (ci := 4) (C := R_B) (T := T_B) (N := 7) hx hb hq i_B hown hw (by omega) hB rfl 2 (by decide) (hq _ fl_B_23) (fun _ h9 => h9) rfl d_B_cross_1 ?_
    refine lv_aload_n hx hb d_B_cross_4 rfl (lv_at hl 1 rfl) ?_
    refine pw_get (ci := 1) (C := R_F) (T := T_F) (N := 3) hx hb hq i_F hown hw (by omega) hFx rfl 0 (by decide) (hq _ fl_B_69) (fun _ h9 => h9) rfl d_B_cross_5 ?_
    refine lv_aload_n hx hb d_B_cross_8 rfl (lv_at hl 2 rfl) ?_
    refine pw_get (ci := 1) (C := R_F) (T := T_F) (N := 3) hx hb hq i_F hown hw (by omega) hFy rfl 1 (by decide) (hq _ fl_B_72) (fun _ h9 => h9) rfl d_B_cross_9 ?_
    refine pw_callv hw (va_runV (As := [.ref (ad (x + 1)), .ref (ad (y + 3))]) (rest := []) ⟨hx, hb, hml, hown, hq⟩ (c_W_becomeProduct l D ty ad M F H.size (87) (x + 1) (y + 3) 136 67 67 (xt) (yb) 67 67 (by omega) (by omega) (by omega) (by omega) (by omega) (by omega) (by omega) (by omega) (hxt.f67) (hyb.f67) (by omega) w87 wx1 wy3) (cwV 2 hq (gV ml_B_109 im_W_becomeProduct se_W_becomeProduct in_W m_W_becomeProduct) rfl rfl rfl (by decide +kernel) ⟨Nat.le_of_ble_eq_true rfl, Nat.le_of_ble_eq_true rfl⟩) (pw_preWa hw (by omega) w87) rfl rfl hl.1 rfl (lv_room (Nat.le_of_ble_eq_true rfl)) d_B_cross_12 ⟨Nat.le_of_ble_eq_true rfl, Nat.le_of_ble_eq_true rfl⟩) (fun F12 H locs q12 hw => ?_)
    obtain ⟨w87, hf12⟩ := q12
    have hB_at_12 : F12 (82) = .inr (4, [.ref (ad (83)), .ref (ad (85)), .ref (ad (87)), .ref (ad (89)), .ref (ad (91)), .ref (ad (93)), .int (iI ((bb : Int)))]) := (hf12 (82) (by omega) (by omega)).trans hB
    have w89_at_12 : Wa ty ad F12 (89) 136 := Wa.mv w89 (hf12 (89) (by omega) (by omega)) (hf12 (89 + 1) (by omega) (by omega))
    have hFx_at_12 : F12 (x) = .inr (1, [.ref (ad (x + 1)), .ref (ad (x + 3)), .int (iI ((xs : Int)))]) := (hf12 (x) (by omega) (by omega)).trans hFx
    have wx1_at_12 : Wv ty ad F12 (x + 1) 67 (xt) := Wv.mv wx1 (hf12 (x + 1) (by omega) (by omega)) (hf12 (x + 1 + 1) (by omega) (by omega))
    have wx3_at_12 : Wv ty ad F12 (x + 3) 67 (xb) := Wv.mv wx3 (hf12 (x + 3) (by omega) (by omega)) (hf12 (x + 3 + 1) (by omega) (by omega))
    have hFy_at_12 : F12 (y) = .inr (1, [.ref (ad (y + 1)), .ref (ad (y + 3)), .int (iI ((ys : Int)))]) := (hf12 (y) (by omega) (by omega)).trans hFy
    have wy1_at_12 : Wv ty ad F12 (y + 1) 67 (yt) := Wv.mv wy1 (hf12 (y + 1) (by omega) (by omega)) (hf12 (y + 1 + 1) (by omega) (by omega))
    have wy3_at_12 : Wv ty ad F12 (y + 3) 67 (yb) := Wv.mv wy3 (hf12 (y + 3) (by omega) (by omega)) (hf12 (y + 3 + 1) (by omega) (by omega))
    refine lv_aload_n hx hb d_B_cross_15 rfl (lv_at hl 0 rfl) ?_
    refine pw_get (ci := 4) (C := R_B) (T := T_B) (N := 7) hx hb hq i_B hown hw (by omega) hB_at_12 rfl 3 (by decide) (hq _ fl_B_26) (fun _ h9 => h9) rfl d_B_cross_16 ?_
    refine lv_aload_n hx hb d_B_cross_19 rfl (lv_at hl 2 rfl) ?_
    refine pw_get (ci := 1) (C := R_F) (T := T_F) (N := 3) hx hb hq i_F hown hw (by omega) hFy_at_12 rfl 0 (by decide) (hq _ fl_B_69) (fun _ h9 => h9) rfl d_B_cross_20 ?_
    refine lv_aload_n hx hb d_B_cross_23 rfl (lv_at hl 1 rfl) ?_
    refine pw_get (ci := 1) (C := R_F) (T := T_F) (N := 3) hx hb hq i_F hown hw (by omega) hFx_at_12 rfl 1 (by decide) (hq _ fl_B_72) (fun _ h9 => h9) rfl d_B_cross_24 ?_
    refine pw_callv hw (va_runV (As := [.ref (ad (y + 1)), .ref (ad (x + 3))]) (rest := []) ⟨hx, hb, hml, hown, hq⟩ (c_W_becomeProduct l D ty ad M F12 H.size (89) (y + 1) (x + 3) 136 67 67 (yt) (xb) 67 67 (by omega) (by omega) (by omega) (by omega) (by omega) (by omega) (by omega) (by omega) (hyt.f67) (hxb.f67) (by omega) w89_at_12 wy1_at_12 wx3_at_12) (cwV 2 hq (gV ml_B_109 im_W_becomeProduct se_W_becomeProduct in_W m_W_becomeProduct) rfl rfl rfl (by decide +kernel) ⟨Nat.le_of_ble_eq_true rfl, Nat.le_of_ble_eq_true rfl⟩) (pw_preWa hw (by omega) w89_at_12) rfl rfl hl.1 rfl (lv_room (Nat.le_of_ble_eq_true rfl)) d_B_cross_27 ⟨Nat.le_of_ble_eq_true rfl, Nat.le_of_ble_eq_true rfl⟩) (fun F27 H locs q27 hw => ?_)
    obtain ⟨w89, hf27⟩ := q27
    have hB_at_27 : F27 (82) = .inr (4, [.ref (ad (83)), .ref (ad (85)), .ref (ad (87)), .ref (ad (89)), .ref (ad (91)), .ref (ad (93)), .int (iI ((bb : Int)))]) := (hf27 (82) (by omega) (by omega)).trans hB_at_12
    have hFx_at_27 : F27 (x) = .inr (1, [.ref (ad (x + 1)), .ref (ad (x + 3)), .int (iI ((xs : Int)))]) := (hf27 (x) (by omega) (by omega)).trans hFx_at_12
    have wx1_at_27 : Wv ty ad F27 (x + 1) 67 (xt) := Wv.mv wx1_at_12 (hf27 (x + 1) (by omega) (by omega)) (hf27 (x + 1 + 1) (by omega) (by omega))
    have wx3_at_27 : Wv ty ad F27 (x + 3) 67 (xb) := Wv.mv wx3_at_12 (hf27 (x + 3) (by omega) (by omega)) (hf27 (x + 3 + 1) (by omega) (by omega))
    have hFy_at_27 : F27 (y) = .inr (1, [.ref (ad (y + 1)), .ref (ad (y + 3)), .int (iI ((ys : Int)))]) := (hf27 (y) (by omega) (by omega)).trans hFy_at_12
    have wy1_at_27 : Wv ty ad F27 (y + 1) 67 (yt) := Wv.mv wy1_at_12 (hf27 (y + 1) (by omega) (by omega)) (hf27 (y + 1 + 1) (by omega) (by omega))
    have wy3_at_27 : Wv ty ad F27 (y + 3) 67 (yb) := Wv.mv wy3_at_12 (hf27 (y + 3) (by omega) (by omega)) (hf27 (y + 3 + 1) (by omega) (by omega))
    have w87_at_27 : Wv ty ad F27 (87) 136 (xt * yb) := Wv.mv w87 (hf27 (87) (by omega) (by omega)) (hf27 (87 + 1) (by omega) (by omega))
    rw [← hQ]
    exact pw_vret hx hb hr hlocks hw (⟨w87_at_27, w89, fun z h1 => by rw [hf27 z (by omega) (by omega), hf12 z (by omega) (by omega)]⟩) d_B_cross_30
  rw [hH, hlo] at hgo
  exact hgo
