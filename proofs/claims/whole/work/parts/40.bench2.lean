/-! Bench: compareFractions, multiply, divide, add: by program -/
set_option maxHeartbeats 4000000 in
set_option maxRecDepth 100000 in
/-- Bench.compareFractions(x, y) -/
theorem c_B_compareFractions (l : Launch) (D : va_G) (ty : Nat → ClassId) (ad : Nat → Nat) (M : Nat) (F : Nat → va_E) (sz : Nat) (hM : 97 < M) (hBn : Bn ty ad F)(x xt xb xs : Nat) (hMx : x + 4 < M) (hRx : Frc ty ad F x xt xb xs) (hx82 : x + 4 < 82) (hxt : sm xt) (hxb : sm xb) (y yt yb ys : Nat) (hMy : y + 4 < M) (hRy : Frc ty ad F y yt yb ys) (hy82 : y + 4 < 82) (hyt : sm yt) (hyb : sm yb) (hcx : xs = 1 → xt ≠ 0) (hcy : ys = 1 → yt ≠ 0) (hxb0 : 0 < xb) (hyb0 : 0 < yb) :
    CI l y_B_compareFractions w_B_compareFractions ({ frames := 4, cells := 0, slots := 0, locals := 99 } : Room) [.ref (ad (82)), .ref (ad (x)), .ref (ad (y))] D ty ad M F sz (fun r F1 => r = iI (cmpZ (sg xs (xt * yb)) (sg ys (yt * xb))) ∧ Bn ty ad F1 ∧ frB F F1) := by
  refine Met.ofW (cc := b_B_compareFractions) (maxL := 6) (ret := (some .int)) (by decide) rfl ?_
  intro p e s m args below meth c s₁ B hml hv
  obtain ⟨rfl, hsz, hP, hK, hD0⟩ := hv
  have hx := B.exec
  have hb := B.bytes
  have hr := B.returns
  have hts := atoms_spec (ws := w_B_compareFractions) B.pre
  have hq : ∀ w ∈ wT, w.before _ s = true := fun w h => hts w (List.mem_cons_of_mem _ h)
  have hown : s.vm.findClass R_B = some m.cls := findClass_of_methodNamed B.named
  have hlocks := B.notSynchronized
  subst hsz
  have hw := pw_start hP hK hD0
  have hl := lv_entry ([.ref (ad (82)), .ref (ad (x)), .ref (ad (y))]) (n := 6) (Nat.le_of_ble_eq_true rfl)
  rw [lg_entry_eq]
  generalize (lg_sl ([.ref (ad (82)), .ref (ad (x)), .ref (ad (y))]) ++ List.replicate (6 - (lg_sl ([.ref (ad (82)), .ref (ad (x)), .ref (ad (y))])).length) Slot.unset).toArray = ls at hl ⊢
  have hl : lv_has ls 6 [(0, .ref (ad (82))), (1, .ref (ad (x))), (2, .ref (ad (y)))] := hl
  change W p l e ({ frames := 4, cells := 0, slots := 0, locals := 99 } : Room) s m ([.ref (ad (82)), .ref (ad (x)), .ref (ad (y))]).toArray below meth c s.heap [] 0 0 (MQ below (va_Qi (fun r F1 => r = iI (cmpZ (sg xs (xt * yb)) (sg ys (yt * xb))) ∧ Bn ty ad F1 ∧ frB F F1) (pAt D classes (tysL ty) ad M (pA ad M s.heap.size)) (pA ad M s.heap.size)) ([.ref (ad (82)), .ref (ad (x)), .ref (ad (y))]).toArray s 0 0 (pA ad M s.heap.size)) (F0 m 0 ls [])
  generalize hQ : MQ below (va_Qi (fun r F1 => r = iI (cmpZ (sg xs (xt * yb)) (sg ys (yt * xb))) ∧ Bn ty ad F1 ∧ frB F F1) (pAt D classes (tysL ty) ad M (pA ad M s.heap.size)) (pA ad M s.heap.size)) ([.ref (ad (82)), .ref (ad (x)), .ref (ad (y))]).toArray s 0 0 (pA ad M s.heap.size) = Q
  obtain ⟨H, hH⟩ : ∃ H, H = s.heap := ⟨_, rfl⟩
  obtain ⟨locs, hlo⟩ : ∃ z : List Loc, z = [] := ⟨_, rfl⟩
  have hw : pw D classes (tysL ty) ad M F (pA ad M s.heap.size) s H locs := by rw [hH, hlo]; exact hw
  have hgo : W p l e ({ frames := 4, cells := 0, slots := 0, locals := 99 } : Room) s m ([.ref (ad (82)), .ref (ad (x)), .ref (ad (y))]).toArray below meth c H locs 0 0 Q (F0 m 0 ls []) := by
    obtain ⟨⟨bb, hbb, hB⟩, w83, w85, w87, w89, w91, ⟨f0, g0, h0, k0, hD⟩, w94⟩ := hBn
    obtain ⟨hbx, hFx, wx1, wx3⟩ := hRx
    obtain ⟨hby, hFy, wy1, wy3⟩ := hRy
    have hs1 := sgn_b xs xt
    have hs2 := sgn_b ys yt
    have hne9 := cf_ne hbx hby hcx hcy hxb0 hyb0
    refine lv_aload_n hx hb d_B_compareFractions_0 rfl (lv_at hl 1 rfl) ?_
    refine pw_calli hw (va_runV (As := []) (rest := []) ⟨hx, hb, hml, hown, hq⟩ (c_F_signum l D ty ad M F H.size x xt xb xs (by omega) ⟨hbx, hFx, wx1, wx3⟩) (cwV 0 hq (gV ml_B_112 im_F_signum se_F_signum in_F m_F_signum) rfl rfl rfl (by decide +kernel) ⟨Nat.le_of_ble_eq_true rfl, Nat.le_of_ble_eq_true rfl⟩) (pw_preV hw (by omega) hFx rfl) rfl rfl hl.1 rfl (lv_room (Nat.le_of_ble_eq_true rfl)) d_B_compareFractions_1 ⟨Nat.le_of_ble_eq_true rfl, Nat.le_of_ble_eq_true rfl⟩) (fun r1 F1 H locs q1 hw => ?_)
    obtain ⟨er1, eF1⟩ := q1
    rw [eF1] at hw
    clear eF1
    subst er1
    refine lv_istore_n (lv' := [(3, .int (iI (sgn xs xt))), (0, .ref (ad (82))), (1, .ref (ad (x))), (2, .ref (ad (y)))]) hx hb d_B_compareFractions_4 rfl hl (by decide) rfl (fun ls hl => ?_)
    refine lv_aload_n hx hb d_B_compareFractions_5 rfl (lv_at hl 3 rfl) ?_
    refine pw_calli hw (va_runV (As := []) (rest := []) ⟨hx, hb, hml, hown, hq⟩ (c_F_signum l D ty ad M F H.size y yt yb ys (by omega) ⟨hby, hFy, wy1, wy3⟩) (cwV 0 hq (gV ml_B_112 im_F_signum se_F_signum in_F m_F_signum) rfl rfl rfl (by decide +kernel) ⟨Nat.le_of_ble_eq_true rfl, Nat.le_of_ble_eq_true rfl⟩) (pw_preV hw (by omega) hFy rfl) rfl rfl hl.1 rfl (lv_room (Nat.le_of_ble_eq_true rfl)) d_B_compareFractions_6 ⟨Nat.le_of_ble_eq_true rfl, Nat.le_of_ble_eq_true rfl⟩) (fun r6 F6 H locs q6 hw => ?_)
    obtain ⟨er6, eF6⟩ := q6
    rw [eF6] at hw
    clear eF6
    subst er6
    refine lv_istore (lv' := [(4, .int (iI (sgn ys yt))), (3, .int (iI (sgn xs xt))), (0, .ref (ad (82))), (1, .ref (ad (x))), (2, .ref (ad (y)))]) hx hb d_B_compareFractions_9 hl (by decide) rfl (fun ls hl => ?_)
    refine lv_iload_n hx hb d_B_compareFractions_11 rfl (lv_at hl 1 rfl) ?_
    refine lv_iload hx hb d_B_compareFractions_12 (lv_at hl 0 rfl) ?_
    refine wz_icmp_eq (tgt := 29) hx hb d_B_compareFractions_14 (by decide) (by omega) (by omega) (by omega) (by omega) (fun c14 => ?_) (fun c14 => ?_)
    · have heq9 := cf_eq hbx hby hcx hcy hxb0 hyb0 c14
      have hc9 := cmpI_b (xt * yb) (yt * xb)
      refine lv_aload_n hx hb d_B_compareFractions_29 rfl (lv_at hl 2 rfl) ?_
      refine lv_aload_n hx hb d_B_compareFractions_30 rfl (lv_at hl 3 rfl) ?_
      refine lv_aload_n hx hb d_B_compareFractions_31 rfl (lv_at hl 4 rfl) ?_
      refine pw_callv hw (va_runV (As := [.ref (ad (x)), .ref (ad (y))]) (rest := []) ⟨hx, hb, hml, hown, hq⟩ (c_B_cross l D ty ad M F H.size hM bb x xt xb xs (by omega) ⟨hbx, hFx, wx1, wx3⟩ y yt yb ys (by omega) ⟨hby, hFy, wy1, wy3⟩ hx82 hy82 hxt hxb hyt hyb hB w87 w89) (cwV 2 hq (gV ml_B_115 im_B_cross se_B_cross in_B m_B_cross) rfl rfl rfl (by decide +kernel) ⟨Nat.le_of_ble_eq_true rfl, Nat.le_of_ble_eq_true rfl⟩) (pw_preV hw (by omega) hB rfl) rfl rfl hl.1 rfl (lv_room (Nat.le_of_ble_eq_true rfl)) d_B_compareFractions_32 ⟨Nat.le_of_ble_eq_true rfl, Nat.le_of_ble_eq_true rfl⟩) (fun F32 H locs q32 hw => ?_)
      obtain ⟨w87, w89, hf32⟩ := q32
      have hB_at_32 : F32 (82) = .inr (4, [.ref (ad (83)), .ref (ad (85)), .ref (ad (87)), .ref (ad (89)), .ref (ad (91)), .ref (ad (93)), .int (iI ((bb : Int)))]) := (hf32 (82) (by omega)).trans hB
      have w83_at_32 : Wa ty ad F32 (83) 136 := Wa.mv w83 (hf32 (83) (by omega)) (hf32 (83 + 1) (by omega))
      have w85_at_32 : Wa ty ad F32 (85) 136 := Wa.mv w85 (hf32 (85) (by omega)) (hf32 (85 + 1) (by omega))
      have w91_at_32 : Wa ty ad F32 (91) 136 := Wa.mv w91 (hf32 (91) (by omega)) (hf32 (91 + 1) (by omega))
      have hD_at_32 : F32 (93) = .inr (3, [.ref (ad (93 + 1)), .long (f0), .long (g0), .long (h0), .long (k0)]) := (hf32 (93) (by omega)).trans hD
      have w94_at_32 : Wa ty ad F32 (93 + 1) 136 := Wa.mv w94 (hf32 (93 + 1) (by omega)) (hf32 (93 + 1 + 1) (by omega))
      have hFx_at_32 : F32 (x) = .inr (1, [.ref (ad (x + 1)), .ref (ad (x + 3)), .int (iI ((xs : Int)))]) := (hf32 (x) (by omega)).trans hFx
      have wx1_at_32 : Wv ty ad F32 (x + 1) 67 (xt) := Wv.mv wx1 (hf32 (x + 1) (by omega)) (hf32 (x + 1 + 1) (by omega))
      have wx3_at_32 : Wv ty ad F32 (x + 3) 67 (xb) := Wv.mv wx3 (hf32 (x + 3) (by omega)) (hf32 (x + 3 + 1) (by omega))
      have hFy_at_32 : F32 (y) = .inr (1, [.ref (ad (y + 1)), .ref (ad (y + 3)), .int (iI ((ys : Int)))]) := (hf32 (y) (by omega)).trans hFy
      have wy1_at_32 : Wv ty ad F32 (y + 1) 67 (yt) := Wv.mv wy1 (hf32 (y + 1) (by omega)) (hf32 (y + 1 + 1) (by omega))
      have wy3_at_32 : Wv ty ad F32 (y + 3) 67 (yb) := Wv.mv wy3 (hf32 (y + 3) (by omega)) (hf32 (y + 3 + 1) (by omega))
      refine lv_aload_n hx hb d_B_compareFractions_35 rfl (lv_at hl 2 rfl) ?_
      refine pw_get (ci := 4) (C := R_B) (T := T_B) (N := 7) hx hb hq i_B hown hw (by omega) hB_at_32 rfl 2 (by decide) (hq _ fl_B_23) (fun _ h9 => h9) rfl d_B_compareFractions_36 ?_
      refine lv_aload_n hx hb d_B_compareFractions_39 rfl (lv_at hl 2 rfl) ?_
      refine pw_get (ci := 4) (C := R_B) (T := T_B) (N := 7) hx hb hq i_B hown hw (by omega) hB_at_32 rfl 3 (by decide) (hq _ fl_B_26) (fun _ h9 => h9) rfl d_B_compareFractions_40 ?_
      refine pw_calli hw (va_runS (As := [.ref (ad (87)), .ref (ad (89))]) (rest := []) ⟨hx, hb, hml, hown, hq⟩ (c_W_compare l D ty ad M F32 H.size (87) (89) 136 136 (xt * yb) (yt * xb) (by omega) (by omega) (by omega) (by omega) w87 w89) (va_cwS 2 hq (gS ml_B_119 st_W_compare in_W m_W_compare) rfl rfl rfl (by decide +kernel) ⟨Nat.le_of_ble_eq_true rfl, Nat.le_of_ble_eq_true rfl⟩) (pw_preS hw) rfl rfl hl.1 rfl (lv_room (Nat.le_of_ble_eq_true rfl)) d_B_compareFractions_43 ⟨Nat.le_of_ble_eq_true rfl, Nat.le_of_ble_eq_true rfl⟩) (fun r43 F43 H locs q43 hw => ?_)
      obtain ⟨er43, eF43⟩ := q43
      rw [eF43] at hw
      clear eF43
      subst er43
      refine lv_istore (lv' := [(5, .int (iI (cmpI (xt * yb) (yt * xb)))), (4, .int (iI (sgn ys yt))), (3, .int (iI (sgn xs xt))), (0, .ref (ad (82))), (1, .ref (ad (x))), (2, .ref (ad (y)))]) hx hb d_B_compareFractions_46 hl (by decide) rfl (fun ls hl => ?_)
      refine lv_iload_n hx hb d_B_compareFractions_48 rfl (lv_at hl 2 rfl) ?_
      refine wz_if_ge (tgt := 58) hx hb d_B_compareFractions_49 (by decide) (by omega) (by omega) (fun c49 => ?_) (fun c49 => ?_)
      · refine lv_iload hx hb d_B_compareFractions_58 (lv_at hl 0 rfl) ?_
        rw [← hQ]
        exact pw_iret hx hb hr hlocks hw (⟨by rw [heq9.2 (by omega)], ⟨⟨bb, hbb, hB_at_32⟩, w83_at_32, w85_at_32, (w87).a, (w89).a, w91_at_32, ⟨_, _, _, _, hD_at_32⟩, w94_at_32⟩, fun y9 h9 => hf32 (y9) (by omega)⟩) d_B_compareFractions_60
      · refine lv_iload hx hb d_B_compareFractions_52 (lv_at hl 0 rfl) ?_
        refine wz_ineg (z := -cmpI (xt * yb) (yt * xb)) hx hb d_B_compareFractions_54 (rfl) ?_
        refine lv_goto (tgt := 60) hx hb d_B_compareFractions_55 (by decide) ?_
        rw [← hQ]
        exact pw_iret hx hb hr hlocks hw (⟨by rw [heq9.1 (by omega)], ⟨⟨bb, hbb, hB_at_32⟩, w83_at_32, w85_at_32, (w87).a, (w89).a, w91_at_32, ⟨_, _, _, _, hD_at_32⟩, w94_at_32⟩, fun y9 h9 => hf32 (y9) (by omega)⟩) d_B_compareFractions_60
    · refine lv_iload_n hx hb d_B_compareFractions_17 rfl (lv_at hl 1 rfl) ?_
      refine lv_iload hx hb d_B_compareFractions_18 (lv_at hl 0 rfl) ?_
      refine wz_icmp_ge (tgt := 27) hx hb d_B_compareFractions_20 (by decide) (by omega) (by omega) (by omega) (by omega) (fun c20 => ?_) (fun c20 => ?_)
      · refine wz_iconst (n := 1) hx hb d_B_compareFractions_27 ?_
        rw [← hQ]
        exact pw_iret hx hb hr hlocks hw (⟨by rw [hne9.2 (by omega)], ⟨⟨bb, hbb, hB⟩, w83, w85, w87, w89, w91, ⟨_, _, _, _, hD⟩, w94⟩, fun y9 h9 => rfl⟩) d_B_compareFractions_28
      · refine wz_iconst (n := -1) hx hb d_B_compareFractions_23 ?_
        refine lv_goto (tgt := 28) hx hb d_B_compareFractions_24 (by decide) ?_
        rw [← hQ]
        exact pw_iret hx hb hr hlocks hw (⟨by rw [hne9.1 (by omega)], ⟨⟨bb, hbb, hB⟩, w83, w85, w87, w89, w91, ⟨_, _, _, _, hD⟩, w94⟩, fun y9 h9 => rfl⟩) d_B_compareFractions_28
  rw [hH, hlo] at hgo
  exact hgo
set_option maxHeartbeats 4000000 in
set_option maxRecDepth 100000 in
/-- Bench.multiply(x, y) -/
theorem c_B_multiply (l : Launch) (D : va_G) (ty : Nat → ClassId) (ad : Nat → Nat) (M : Nat) (F : Nat → va_E) (sz : Nat) (hM : 97 < M) (hBn : Bn ty ad F)(x xt xb xs : Nat) (hMx : x + 4 < M) (hRx : Frc ty ad F x xt xb xs) (hx82 : x + 4 < 82) (hxt : sm xt) (hxb : sm xb) (y yt yb ys : Nat) (hMy : y + 4 < M) (hRy : Frc ty ad F y yt yb ys) (hy82 : y + 4 < 82) (hyt : sm yt) (hyb : sm yb)  :
    CV l y_B_multiply w_B_multiply ({ frames := 3, cells := 0, slots := 0, locals := 77 } : Room) [.ref (ad (82)), .ref (ad (x)), .ref (ad (y))] D ty ad M F sz (fun F1 => BnT ty ad F1 (xt * yt) (xb * yb) (if xs = ys then 0 else 1) ∧ frB F F1) := by
  refine Met.ofW (cc := b_B_multiply) (maxL := 3) (ret := none) (by decide) rfl ?_
  intro p e s m args below meth c s₁ B hml hv
  obtain ⟨rfl, hsz, hP, hK, hD0⟩ := hv
  have hx := B.exec
  have hb := B.bytes
  have hr := B.returns
  have hts := atoms_spec (ws := w_B_multiply) B.pre
  have hq : ∀ w ∈ wT, w.before _ s = true := fun w h => hts w (List.mem_cons_of_mem _ h)
  have hown : s.vm.findClass R_B = some m.cls := findClass_of_methodNamed B.named
  have hlocks := B.notSynchronized
  subst hsz
  have hw := pw_start hP hK hD0
  have hl := lv_entry ([.ref (ad (82)), .ref (ad (x)), .ref (ad (y))]) (n := 3) (Nat.le_of_ble_eq_true rfl)
  rw [lg_entry_eq]
  generalize (lg_sl ([.ref (ad (82)), .ref (ad (x)), .ref (ad (y))]) ++ List.replicate (3 - (lg_sl ([.ref (ad (82)), .ref (ad (x)), .ref (ad (y))])).length) Slot.unset).toArray = ls at hl ⊢
  have hl : lv_has ls 3 [(0, .ref (ad (82))), (1, .ref (ad (x))), (2, .ref (ad (y)))] := hl
  change W p l e ({ frames := 3, cells := 0, slots := 0, locals := 77 } : Room) s m ([.ref (ad (82)), .ref (ad (x)), .ref (ad (y))]).toArray below meth c s.heap [] 0 0 (MQ below (va_Qv (fun F1 => BnT ty ad F1 (xt * yt) (xb * yb) (if xs = ys then 0 else 1) ∧ frB F F1) (pAt D classes (tysL ty) ad M (pA ad M s.heap.size)) (pA ad M s.heap.size)) ([.ref (ad (82)), .ref (ad (x)), .ref (ad (y))]).toArray s 0 0 (pA ad M s.heap.size)) (F0 m 0 ls [])
  generalize hQ : MQ below (va_Qv (fun F1 => BnT ty ad F1 (xt * yt) (xb * yb) (if xs = ys then 0 else 1) ∧ frB F F1) (pAt D classes (tysL ty) ad M (pA ad M s.heap.size)) (pA ad M s.heap.size)) ([.ref (ad (82)), .ref (ad (x)), .ref (ad (y))]).toArray s 0 0 (pA ad M s.heap.size) = Q
  obtain ⟨H, hH⟩ : ∃ H, H = s.heap := ⟨_, rfl⟩
  obtain ⟨locs, hlo⟩ : ∃ z : List Loc, z = [] := ⟨_, rfl⟩
  have hw : pw D classes (tysL ty) ad M F (pA ad M s.heap.size) s H locs := by rw [hH, hlo]; exact hw
  have hgo : W p l e ({ frames := 3, cells := 0, slots := 0, locals := 77 } : Room) s m ([.ref (ad (82)), .ref (ad (x)), .ref (ad (y))]).toArray below meth c H locs 0 0 Q (F0 m 0 ls []) := by
    obtain ⟨⟨bb, hbb, hB⟩, w83, w85, w87, w89, w91, ⟨f0, g0, h0, k0, hD⟩, w94⟩ := hBn
    obtain ⟨hbx, hFx, wx1, wx3⟩ := hRx
    obtain ⟨hby, hFy, wy1, wy3⟩ := hRy
    refine lv_aload_n hx hb d_B_multiply_0 rfl (lv_at hl 0 rfl) ?_
    refine pw_get (ci := 4) (C := R_B) (T := T_B) (N := 7) hx hb hq i_B hown hw (by omega) hB rfl 0 (by decide) (hq _ fl_B_16) (fun _ h9 => h9) rfl d_B_multiply_1 ?_
    refine lv_aload_n hx hb d_B_multiply_4 rfl (lv_at hl 1 rfl) ?_
    refine pw_get (ci := 1) (C := R_F) (T := T_F) (N := 3) hx hb hq i_F hown hw (by omega) hFx rfl 0 (by decide) (hq _ fl_B_69) (fun _ h9 => h9) rfl d_B_multiply_5 ?_
    refine lv_aload_n hx hb d_B_multiply_8 rfl (lv_at hl 2 rfl) ?_
    refine pw_get (ci := 1) (C := R_F) (T := T_F) (N := 3) hx hb hq i_F hown hw (by omega) hFy rfl 0 (by decide) (hq _ fl_B_69) (fun _ h9 => h9) rfl d_B_multiply_9 ?_
    refine pw_callv hw (va_runV (As := [.ref (ad (x + 1)), .ref (ad (y + 1))]) (rest := []) ⟨hx, hb, hml, hown, hq⟩ (c_W_becomeProduct l D ty ad M F H.size (83) (x + 1) (y + 1) 136 67 67 (xt) (yt) 67 67 (by omega) (by omega) (by omega) (by omega) (by omega) (by omega) (by omega) (by omega) (hxt.f67) (hyt.f67) (by omega) w83 wx1 wy1) (cwV 2 hq (gV ml_B_109 im_W_becomeProduct se_W_becomeProduct in_W m_W_becomeProduct) rfl rfl rfl (by decide +kernel) ⟨Nat.le_of_ble_eq_true rfl, Nat.le_of_ble_eq_true rfl⟩) (pw_preWa hw (by omega) w83) rfl rfl hl.1 rfl (lv_room (Nat.le_of_ble_eq_true rfl)) d_B_multiply_12 ⟨Nat.le_of_ble_eq_true rfl, Nat.le_of_ble_eq_true rfl⟩) (fun F12 H locs q12 hw => ?_)
    obtain ⟨w83, hf12⟩ := q12
    have hB_at_12 : F12 (82) = .inr (4, [.ref (ad (83)), .ref (ad (85)), .ref (ad (87)), .ref (ad (89)), .ref (ad (91)), .ref (ad (93)), .int (iI ((bb : Int)))]) := (hf12 (82) (by omega) (by omega)).trans hB
    have w85_at_12 : Wa ty ad F12 (85) 136 := Wa.mv w85 (hf12 (85) (by omega) (by omega)) (hf12 (85 + 1) (by omega) (by omega))
    have w87_at_12 : Wa ty ad F12 (87) 136 := Wa.mv w87 (hf12 (87) (by omega) (by omega)) (hf12 (87 + 1) (by omega) (by omega))
    have w89_at_12 : Wa ty ad F12 (89) 136 := Wa.mv w89 (hf12 (89) (by omega) (by omega)) (hf12 (89 + 1) (by omega) (by omega))
    have w91_at_12 : Wa ty ad F12 (91) 136 := Wa.mv w91 (hf12 (91) (by omega) (by omega)) (hf12 (91 + 1) (by omega) (by omega))
    have hD_at_12 : F12 (93) = .inr (3, [.ref (ad (93 + 1)), .long (f0), .long (g0), .long (h0), .long (k0)]) := (hf12 (93) (by omega) (by omega)).trans hD
    have w94_at_12 : Wa ty ad F12 (93 + 1) 136 := Wa.mv w94 (hf12 (93 + 1) (by omega) (by omega)) (hf12 (93 + 1 + 1) (by omega) (by omega))
    have hFx_at_12 : F12 (x) = .inr (1, [.ref (ad (x + 1)), .ref (ad (x + 3)), .int (iI ((xs : Int)))]) := (hf12 (x) (by omega) (by omega)).trans hFx
    have wx1_at_12 : Wv ty ad F12 (x + 1) 67 (xt) := Wv.mv wx1 (hf12 (x + 1) (by omega) (by omega)) (hf12 (x + 1 + 1) (by omega) (by omega))
    have wx3_at_12 : Wv ty ad F12 (x + 3) 67 (xb) := Wv.mv wx3 (hf12 (x + 3) (by omega) (by omega)) (hf12 (x + 3 + 1) (by omega) (by omega))
    have hFy_at_12 : F12 (y) = .inr (1, [.ref (ad (y + 1)), .ref (ad (y + 3)), .int (iI ((ys : Int)))]) := (hf12 (y) (by omega) (by omega)).trans hFy
    have wy1_at_12 : Wv ty ad F12 (y + 1) 67 (yt) := Wv.mv wy1 (hf12 (y + 1) (by omega) (by omega)) (hf12 (y + 1 + 1) (by omega) (by omega))
    have wy3_at_12 : Wv ty ad F12 (y + 3) 67 (yb) := Wv.mv wy3 (hf12 (y + 3) (by omega) (by omega)) (hf12 (y + 3 + 1) (by omega) (by omega))
    refine lv_aload_n hx hb d_B_multiply_15 rfl (lv_at hl 0 rfl) ?_
    refine pw_get (ci := 4) (C := R_B) (T := T_B) (N := 7) hx hb hq i_B hown hw (by omega) hB_at_12 rfl 1 (by decide) (hq _ fl_B_20) (fun _ h9 => h9) rfl d_B_multiply_16 ?_
    refine lv_aload_n hx hb d_B_multiply_19 rfl (lv_at hl 1 rfl) ?_
    refine pw_get (ci := 1) (C := R_F) (T := T_F) (N := 3) hx hb hq i_F hown hw (by omega) hFx_at_12 rfl 1 (by decide) (hq _ fl_B_72) (fun _ h9 => h9) rfl d_B_multiply_20 ?_
    refine lv_aload_n hx hb d_B_multiply_23 rfl (lv_at hl 2 rfl) ?_
    refine pw_get (ci := 1) (C := R_F) (T := T_F) (N := 3) hx hb hq i_F hown hw (by omega) hFy_at_12 rfl 1 (by decide) (hq _ fl_B_72) (fun _ h9 => h9) rfl d_B_multiply_24 ?_
    refine pw_callv hw (va_runV (As := [.ref (ad (x + 3)), .ref (ad (y + 3))]) (rest := []) ⟨hx, hb, hml, hown, hq⟩ (c_W_becomeProduct l D ty ad M F12 H.size (85) (x + 3) (y + 3) 136 67 67 (xb) (yb) 67 67 (by omega) (by omega) (by omega) (by omega) (by omega) (by omega) (by omega) (by omega) (hxb.f67) (hyb.f67) (by omega) w85_at_12 wx3_at_12 wy3_at_12) (cwV 2 hq (gV ml_B_109 im_W_becomeProduct se_W_becomeProduct in_W m_W_becomeProduct) rfl rfl rfl (by decide +kernel) ⟨Nat.le_of_ble_eq_true rfl, Nat.le_of_ble_eq_true rfl⟩) (pw_preWa hw (by omega) w85_at_12) rfl rfl hl.1 rfl (lv_room (Nat.le_of_ble_eq_true rfl)) d_B_multiply_27 ⟨Nat.le_of_ble_eq_true rfl, Nat.le_of_ble_eq_true rfl⟩) (fun F27 H locs q27 hw => ?_)
    obtain ⟨w85, hf27⟩ := q27
    have hB_at_27 : F27 (82) = .inr (4, [.ref (ad (83)), .ref (ad (85)), .ref (ad (87)), .ref (ad (89)), .ref (ad (91)), .ref (ad (93)), .int (iI ((bb : Int)))]) := (hf27 (82) (by omega) (by omega)).trans hB_at_12
    have w87_at_27 : Wa ty ad F27 (87) 136 := Wa.mv w87_at_12 (hf27 (87) (by omega) (by omega)) (hf27 (87 + 1) (by omega) (by omega))
    have w89_at_27 : Wa ty ad F27 (89) 136 := Wa.mv w89_at_12 (hf27 (89) (by omega) (by omega)) (hf27 (89 + 1) (by omega) (by omega))
    have w91_at_27 : Wa ty ad F27 (91) 136 := Wa.mv w91_at_12 (hf27 (91) (by omega) (by omega)) (hf27 (91 + 1) (by omega) (by omega))
    have hD_at_27 : F27 (93) = .inr (3, [.ref (ad (93 + 1)), .long (f0), .long (g0), .long (h0), .long (k0)]) := (hf27 (93) (by omega) (by omega)).trans hD_at_12
    have w94_at_27 : Wa ty ad F27 (93 + 1) 136 := Wa.mv w94_at_12 (hf27 (93 + 1) (by omega) (by omega)) (hf27 (93 + 1 + 1) (by omega) (by omega))
    have hFx_at_27 : F27 (x) = .inr (1, [.ref (ad (x + 1)), .ref (ad (x + 3)), .int (iI ((xs : Int)))]) := (hf27 (x) (by omega) (by omega)).trans hFx_at_12
    have wx1_at_27 : Wv ty ad F27 (x + 1) 67 (xt) := Wv.mv wx1_at_12 (hf27 (x + 1) (by omega) (by omega)) (hf27 (x + 1 + 1) (by omega) (by omega))
    have wx3_at_27 : Wv ty ad F27 (x + 3) 67 (xb) := Wv.mv wx3_at_12 (hf27 (x + 3) (by omega) (by omega)) (hf27 (x + 3 + 1) (by omega) (by omega))
    have hFy_at_27 : F27 (y) = .inr (1, [.ref (ad (y + 1)), .ref (ad (y + 3)), .int (iI ((ys : Int)))]) := (hf27 (y) (by omega) (by omega)).trans hFy_at_12
    have wy1_at_27 : Wv ty ad F27 (y + 1) 67 (yt) := Wv.mv wy1_at_12 (hf27 (y + 1) (by omega) (by omega)) (hf27 (y + 1 + 1) (by omega) (by omega))
    have wy3_at_27 : Wv ty ad F27 (y + 3) 67 (yb) := Wv.mv wy3_at_12 (hf27 (y + 3) (by omega) (by omega)) (hf27 (y + 3 + 1) (by omega) (by omega))
    have w83_at_27 : Wv ty ad F27 (83) 136 (xt * yt) := Wv.mv w83 (hf27 (83) (by omega) (by omega)) (hf27 (83 + 1) (by omega) (by omega))
    refine lv_aload_n hx hb d_B_multiply_30 rfl (lv_at hl 0 rfl) ?_
    refine lv_aload_n hx hb d_B_multiply_31 rfl (lv_at hl 1 rfl) ?_
    refine pw_get (ci := 1) (C := R_F) (T := T_F) (N := 3) hx hb hq i_F hown hw (by omega) hFx_at_27 rfl 2 (by decide) (hq _ fl_B_76) (fun _ h9 => h9) rfl d_B_multiply_32 ?_
    refine lv_aload_n hx hb d_B_multiply_35 rfl (lv_at hl 2 rfl) ?_
    refine pw_get (ci := 1) (C := R_F) (T := T_F) (N := 3) hx hb hq i_F hown hw (by omega) hFy_at_27 rfl 2 (by decide) (hq _ fl_B_76) (fun _ h9 => h9) rfl d_B_multiply_36 ?_
    refine wz_icmp_eq (tgt := 46) hx hb d_B_multiply_39 (by decide) (by omega) (by omega) (by omega) (by omega) (fun c39 => ?_) (fun c39 => ?_)
    · refine wz_iconst (n := 0) hx hb d_B_multiply_46 ?_
      refine pw_put (ci := 4) (C := R_B) (T := T_B) (N := 7) (ty := .boolean) (fs' := [.ref (ad (83)), .ref (ad (85)), .ref (ad (87)), .ref (ad (89)), .ref (ad (91)), .ref (ad (93)), .int (iI (0))]) hx hb hq i_B ft_B ft_B_ok n_B hown hw (by omega) hB_at_27 rfl 6 (by decide) (hq _ fl_B_39) (fun _ h9 => h9) rfl (by decide +kernel) rfl rfl (Nat.le_of_ble_eq_true rfl) rfl d_B_multiply_47 (fun F47 H locs eF47 hw => ?_)
      have m47_82 : F47 (82) = .inr (4, [.ref (ad (83)), .ref (ad (85)), .ref (ad (87)), .ref (ad (89)), .ref (ad (91)), .ref (ad (93)), .int (iI (0))]) := by rw [eF47]; exact va_up_self ..
      have w87_at_47 : Wa ty ad F47 (87) 136 := Wa.mv w87_at_27 (show F47 (87) = F27 (87) from by rw [eF47]; exact va_up_ne _ _ (by omega)) (show F47 (87 + 1) = F27 (87 + 1) from by rw [eF47]; exact va_up_ne _ _ (by omega))
      have w89_at_47 : Wa ty ad F47 (89) 136 := Wa.mv w89_at_27 (show F47 (89) = F27 (89) from by rw [eF47]; exact va_up_ne _ _ (by omega)) (show F47 (89 + 1) = F27 (89 + 1) from by rw [eF47]; exact va_up_ne _ _ (by omega))
      have w91_at_47 : Wa ty ad F47 (91) 136 := Wa.mv w91_at_27 (show F47 (91) = F27 (91) from by rw [eF47]; exact va_up_ne _ _ (by omega)) (show F47 (91 + 1) = F27 (91 + 1) from by rw [eF47]; exact va_up_ne _ _ (by omega))
      have hD_at_47 : F47 (93) = .inr (3, [.ref (ad (93 + 1)), .long (f0), .long (g0), .long (h0), .long (k0)]) := (show F47 (93) = F27 (93) from by rw [eF47]; exact va_up_ne _ _ (by omega)).trans hD_at_27
      have w94_at_47 : Wa ty ad F47 (93 + 1) 136 := Wa.mv w94_at_27 (show F47 (93 + 1) = F27 (93 + 1) from by rw [eF47]; exact va_up_ne _ _ (by omega)) (show F47 (93 + 1 + 1) = F27 (93 + 1 + 1) from by rw [eF47]; exact va_up_ne _ _ (by omega))
      have hFx_at_47 : F47 (x) = .inr (1, [.ref (ad (x + 1)), .ref (ad (x + 3)), .int (iI ((xs : Int)))]) := (show F47 (x) = F27 (x) from by rw [eF47]; exact va_up_ne _ _ (by omega)).trans hFx_at_27
      have wx1_at_47 : Wv ty ad F47 (x + 1) 67 (xt) := Wv.mv wx1_at_27 (show F47 (x + 1) = F27 (x + 1) from by rw [eF47]; exact va_up_ne _ _ (by omega)) (show F47 (x + 1 + 1) = F27 (x + 1 + 1) from by rw [eF47]; exact va_up_ne _ _ (by omega))
      have wx3_at_47 : Wv ty ad F47 (x + 3) 67 (xb) := Wv.mv wx3_at_27 (show F47 (x + 3) = F27 (x + 3) from by rw [eF47]; exact va_up_ne _ _ (by omega)) (show F47 (x + 3 + 1) = F27 (x + 3 + 1) from by rw [eF47]; exact va_up_ne _ _ (by omega))
      have hFy_at_47 : F47 (y) = .inr (1, [.ref (ad (y + 1)), .ref (ad (y + 3)), .int (iI ((ys : Int)))]) := (show F47 (y) = F27 (y) from by rw [eF47]; exact va_up_ne _ _ (by omega)).trans hFy_at_27
      have wy1_at_47 : Wv ty ad F47 (y + 1) 67 (yt) := Wv.mv wy1_at_27 (show F47 (y + 1) = F27 (y + 1) from by rw [eF47]; exact va_up_ne _ _ (by omega)) (show F47 (y + 1 + 1) = F27 (y + 1 + 1) from by rw [eF47]; exact va_up_ne _ _ (by omega))
      have wy3_at_47 : Wv ty ad F47 (y + 3) 67 (yb) := Wv.mv wy3_at_27 (show F47 (y + 3) = F27 (y + 3) from by rw [eF47]; exact va_up_ne _ _ (by omega)) (show F47 (y + 3 + 1) = F27 (y + 3 + 1) from by rw [eF47]; exact va_up_ne _ _ (by omega))
      have w83_at_47 : Wv ty ad F47 (83) 136 (xt * yt) := Wv.mv w83_at_27 (show F47 (83) = F27 (83) from by rw [eF47]; exact va_up_ne _ _ (by omega)) (show F47 (83 + 1) = F27 (83 + 1) from by rw [eF47]; exact va_up_ne _ _ (by omega))
      have w85_at_47 : Wv ty ad F47 (85) 136 (xb * yb) := Wv.mv w85 (show F47 (85) = F27 (85) from by rw [eF47]; exact va_up_ne _ _ (by omega)) (show F47 (85 + 1) = F27 (85 + 1) from by rw [eF47]; exact va_up_ne _ _ (by omega))
      rw [← hQ]
      exact pw_vret hx hb hr hlocks hw (⟨⟨by rw [if_pos (by omega)]; omega, by rw [if_pos (by omega)]; exact m47_82, w83_at_47, w85_at_47, w87_at_47, w89_at_47, w91_at_47, ⟨_, _, _, _, hD_at_47⟩, w94_at_47⟩, fun y9 h9 => (show F47 (y9) = F27 (y9) from by rw [eF47]; exact va_up_ne _ _ (by omega)).trans ((hf27 (y9) (by omega) (by omega)).trans (hf12 (y9) (by omega) (by omega)))⟩) d_B_multiply_50
    · refine wz_iconst (n := 1) hx hb d_B_multiply_42 ?_
      refine lv_goto (tgt := 47) hx hb d_B_multiply_43 (by decide) ?_
      refine pw_put (ci := 4) (C := R_B) (T := T_B) (N := 7) (ty := .boolean) (fs' := [.ref (ad (83)), .ref (ad (85)), .ref (ad (87)), .ref (ad (89)), .ref (ad (91)), .ref (ad (93)), .int (iI (1))]) hx hb hq i_B ft_B ft_B_ok n_B hown hw (by omega) hB_at_27 rfl 6 (by decide) (hq _ fl_B_39) (fun _ h9 => h9) rfl (by decide +kernel) rfl rfl (Nat.le_of_ble_eq_true rfl) rfl d_B_multiply_47 (fun F47 H locs eF47 hw => ?_)
      have m47_82 : F47 (82) = .inr (4, [.ref (ad (83)), .ref (ad (85)), .ref (ad (87)), .ref (ad (89)), .ref (ad (91)), .ref (ad (93)), .int (iI (1))]) := by rw [eF47]; exact va_up_self ..
      have w87_at_47 : Wa ty ad F47 (87) 136 := Wa.mv w87_at_27 (show F47 (87) = F27 (87) from by rw [eF47]; exact va_up_ne _ _ (by omega)) (show F47 (87 + 1) = F27 (87 + 1) from by rw [eF47]; exact va_up_ne _ _ (by omega))
      have w89_at_47 : Wa ty ad F47 (89) 136 := Wa.mv w89_at_27 (show F47 (89) = F27 (89) from by rw [eF47]; exact va_up_ne _ _ (by omega)) (show F47 (89 + 1) = F27 (89 + 1) from by rw [eF47]; exact va_up_ne _ _ (by omega))
      have w91_at_47 : Wa ty ad F47 (91) 136 := Wa.mv w91_at_27 (show F47 (91) = F27 (91) from by rw [eF47]; exact va_up_ne _ _ (by omega)) (show F47 (91 + 1) = F27 (91 + 1) from by rw [eF47]; exact va_up_ne _ _ (by omega))
      have hD_at_47 : F47 (93) = .inr (3, [.ref (ad (93 + 1)), .long (f0), .long (g0), .long (h0), .long (k0)]) := (show F47 (93) = F27 (93) from by rw [eF47]; exact va_up_ne _ _ (by omega)).trans hD_at_27
      have w94_at_47 : Wa ty ad F47 (93 + 1) 136 := Wa.mv w94_at_27 (show F47 (93 + 1) = F27 (93 + 1) from by rw [eF47]; exact va_up_ne _ _ (by omega)) (show F47 (93 + 1 + 1) = F27 (93 + 1 + 1) from by rw [eF47]; exact va_up_ne _ _ (by omega))
      have hFx_at_47 : F47 (x) = .inr (1, [.ref (ad (x + 1)), .ref (ad (x + 3)), .int (iI ((xs : Int)))]) := (show F47 (x) = F27 (x) from by rw [eF47]; exact va_up_ne _ _ (by omega)).trans hFx_at_27
      have wx1_at_47 : Wv ty ad F47 (x + 1) 67 (xt) := Wv.mv wx1_at_27 (show F47 (x + 1) = F27 (x + 1) from by rw [eF47]; exact va_up_ne _ _ (by omega)) (show F47 (x + 1 + 1) = F27 (x + 1 + 1) from by rw [eF47]; exact va_up_ne _ _ (by omega))
      have wx3_at_47 : Wv ty ad F47 (x + 3) 67 (xb) := Wv.mv wx3_at_27 (show F47 (x + 3) = F27 (x + 3) from by rw [eF47]; exact va_up_ne _ _ (by omega)) (show F47 (x + 3 + 1) = F27 (x + 3 + 1) from by rw [eF47]; exact va_up_ne _ _ (by omega))
      have hFy_at_47 : F47 (y) = .inr (1, [.ref (ad (y + 1)), .ref (ad (y + 3)), .int (iI ((ys : Int)))]) := (show F47 (y) = F27 (y) from by rw [eF47]; exact va_up_ne _ _ (by omega)).trans hFy_at_27
      have wy1_at_47 : Wv ty ad F47 (y + 1) 67 (yt) := Wv.mv wy1_at_27 (show F47 (y + 1) = F27 (y + 1) from by rw [eF47]; exact va_up_ne _ _ (by omega)) (show F47 (y + 1 + 1) = F27 (y + 1 + 1) from by rw [eF47]; exact va_up_ne _ _ (by omega))
      have wy3_at_47 : Wv ty ad F47 (y + 3) 67 (yb) := Wv.mv wy3_at_27 (show F47 (y + 3) = F27 (y + 3) from by rw [eF47]; exact va_up_ne _ _ (by omega)) (show F47 (y + 3 + 1) = F27 (y + 3 + 1) from by rw [eF47]; exact va_up_ne _ _ (by omega))
      have w83_at_47 : Wv ty ad F47 (83) 136 (xt * yt) := Wv.mv w83_at_27 (show F47 (83) = F27 (83) from by rw [eF47]; exact va_up_ne _ _ (by omega)) (show F47 (83 + 1) = F27 (83 + 1) from by rw [eF47]; exact va_up_ne _ _ (by omega))
      have w85_at_47 : Wv ty ad F47 (85) 136 (xb * yb) := Wv.mv w85 (show F47 (85) = F27 (85) from by rw [eF47]; exact va_up_ne _ _ (by omega)) (show F47 (85 + 1) = F27 (85 + 1) from by rw [eF47]; exact va_up_ne _ _ (by omega))
      rw [← hQ]
      exact pw_vret hx hb hr hlocks hw (⟨⟨by rw [if_neg (by omega)]; omega, by rw [if_neg (by omega)]; exact m47_82, w83_at_47, w85_at_47, w87_at_47, w89_at_47, w91_at_47, ⟨_, _, _, _, hD_at_47⟩, w94_at_47⟩, fun y9 h9 => (show F47 (y9) = F27 (y9) from by rw [eF47]; exact va_up_ne _ _ (by omega)).trans ((hf27 (y9) (by omega) (by omega)).trans (hf12 (y9) (by omega) (by omega)))⟩) d_B_multiply_50
  rw [hH, hlo] at hgo
  exact hgo
set_option maxHeartbeats 4000000 in
set_option maxRecDepth 100000 in
/-- Bench.divide(x, y) -/
theorem c_B_divide (l : Launch) (D : va_G) (ty : Nat → ClassId) (ad : Nat → Nat) (M : Nat) (F : Nat → va_E) (sz : Nat) (hM : 97 < M) (hBn : Bn ty ad F)(x xt xb xs : Nat) (hMx : x + 4 < M) (hRx : Frc ty ad F x xt xb xs) (hx82 : x + 4 < 82) (hxt : sm xt) (hxb : sm xb) (y yt yb ys : Nat) (hMy : y + 4 < M) (hRy : Frc ty ad F y yt yb ys) (hy82 : y + 4 < 82) (hyt : sm yt) (hyb : sm yb)  :
    CV l y_B_divide w_B_divide ({ frames := 4, cells := 0, slots := 0, locals := 105 } : Room) [.ref (ad (82)), .ref (ad (x)), .ref (ad (y))] D ty ad M F sz (fun F1 => BnT ty ad F1 (xt * yb) (yt * xb) (if xs = ys then 0 else 1) ∧ frB F F1) := by
  refine Met.ofW (cc := b_B_divide) (maxL := 3) (ret := none) (by decide) rfl ?_
  intro p e s m args below meth c s₁ B hml hv
  obtain ⟨rfl, hsz, hP, hK, hD0⟩ := hv
  have hx := B.exec
  have hb := B.bytes
  have hr := B.returns
  have hts := atoms_spec (ws := w_B_divide) B.pre
  have hq : ∀ w ∈ wT, w.before _ s = true := fun w h => hts w (List.mem_cons_of_mem _ h)
  have hown : s.vm.findClass R_B = some m.cls := findClass_of_methodNamed B.named
  have hlocks := B.notSynchronized
  subst hsz
  have hw := pw_start hP hK hD0
  have hl := lv_entry ([.ref (ad (82)), .ref (ad (x)), .ref (ad (y))]) (n := 3) (Nat.le_of_ble_eq_true rfl)
  rw [lg_entry_eq]
  generalize (lg_sl ([.ref (ad (82)), .ref (ad (x)), .ref (ad (y))]) ++ List.replicate (3 - (lg_sl ([.ref (ad (82)), .ref (ad (x)), .ref (ad (y))])).length) Slot.unset).toArray = ls at hl ⊢
  have hl : lv_has ls 3 [(0, .ref (ad (82))), (1, .ref (ad (x))), (2, .ref (ad (y)))] := hl
  change W p l e ({ frames := 4, cells := 0, slots := 0, locals := 105 } : Room) s m ([.ref (ad (82)), .ref (ad (x)), .ref (ad (y))]).toArray below meth c s.heap [] 0 0 (MQ below (va_Qv (fun F1 => BnT ty ad F1 (xt * yb) (yt * xb) (if xs = ys then 0 else 1) ∧ frB F F1) (pAt D classes (tysL ty) ad M (pA ad M s.heap.size)) (pA ad M s.heap.size)) ([.ref (ad (82)), .ref (ad (x)), .ref (ad (y))]).toArray s 0 0 (pA ad M s.heap.size)) (F0 m 0 ls [])
  generalize hQ : MQ below (va_Qv (fun F1 => BnT ty ad F1 (xt * yb) (yt * xb) (if xs = ys then 0 else 1) ∧ frB F F1) (pAt D classes (tysL ty) ad M (pA ad M s.heap.size)) (pA ad M s.heap.size)) ([.ref (ad (82)), .ref (ad (x)), .ref (ad (y))]).toArray s 0 0 (pA ad M s.heap.size) = Q
  obtain ⟨H, hH⟩ : ∃ H, H = s.heap := ⟨_, rfl⟩
  obtain ⟨locs, hlo⟩ : ∃ z : List Loc, z = [] := ⟨_, rfl⟩
  have hw : pw D classes (tysL ty) ad M F (pA ad M s.heap.size) s H locs := by rw [hH, hlo]; exact hw
  have hgo : W p l e ({ frames := 4, cells := 0, slots := 0, locals := 105 } : Room) s m ([.ref (ad (82)), .ref (ad (x)), .ref (ad (y))]).toArray below meth c H locs 0 0 Q (F0 m 0 ls []) := by
    obtain ⟨⟨bb, hbb, hB⟩, w83, w85, w87, w89, w91, ⟨f0, g0, h0, k0, hD⟩, w94⟩ := hBn
    obtain ⟨hbx, hFx, wx1, wx3⟩ := hRx
    obtain ⟨hby, hFy, wy1, wy3⟩ := hRy
    refine lv_aload_n hx hb d_B_divide_0 rfl (lv_at hl 0 rfl) ?_
    refine lv_aload_n hx hb d_B_divide_1 rfl (lv_at hl 1 rfl) ?_
    refine lv_aload_n hx hb d_B_divide_2 rfl (lv_at hl 2 rfl) ?_
    refine pw_callv hw (va_runV (As := [.ref (ad (x)), .ref (ad (y))]) (rest := []) ⟨hx, hb, hml, hown, hq⟩ (c_B_cross l D ty ad M F H.size hM bb x xt xb xs (by omega) ⟨hbx, hFx, wx1, wx3⟩ y yt yb ys (by omega) ⟨hby, hFy, wy1, wy3⟩ hx82 hy82 hxt hxb hyt hyb hB w87 w89) (cwV 2 hq (gV ml_B_115 im_B_cross se_B_cross in_B m_B_cross) rfl rfl rfl (by decide +kernel) ⟨Nat.le_of_ble_eq_true rfl, Nat.le_of_ble_eq_true rfl⟩) (pw_preV hw (by omega) hB rfl) rfl rfl hl.1 rfl (lv_room (Nat.le_of_ble_eq_true rfl)) d_B_divide_3 ⟨Nat.le_of_ble_eq_true rfl, Nat.le_of_ble_eq_true rfl⟩) (fun F3 H locs q3 hw => ?_)
    obtain ⟨w87, w89, hf3⟩ := q3
    have hB_at_3 : F3 (82) = .inr (4, [.ref (ad (83)), .ref (ad (85)), .ref (ad (87)), .ref (ad (89)), .ref (ad (91)), .ref (ad (93)), .int (iI ((bb : Int)))]) := (hf3 (82) (by omega)).trans hB
    have w83_at_3 : Wa ty ad F3 (83) 136 := Wa.mv w83 (hf3 (83) (by omega)) (hf3 (83 + 1) (by omega))
    have w85_at_3 : Wa ty ad F3 (85) 136 := Wa.mv w85 (hf3 (85) (by omega)) (hf3 (85 + 1) (by omega))
    have w91_at_3 : Wa ty ad F3 (91) 136 := Wa.mv w91 (hf3 (91) (by omega)) (hf3 (91 + 1) (by omega))
    have hD_at_3 : F3 (93) = .inr (3, [.ref (ad (93 + 1)), .long (f0), .long (g0), .long (h0), .long (k0)]) := (hf3 (93) (by omega)).trans hD
    have w94_at_3 : Wa ty ad F3 (93 + 1) 136 := Wa.mv w94 (hf3 (93 + 1) (by omega)) (hf3 (93 + 1 + 1) (by omega))
    have hFx_at_3 : F3 (x) = .inr (1, [.ref (ad (x + 1)), .ref (ad (x + 3)), .int (iI ((xs : Int)))]) := (hf3 (x) (by omega)).trans hFx
    have wx1_at_3 : Wv ty ad F3 (x + 1) 67 (xt) := Wv.mv wx1 (hf3 (x + 1) (by omega)) (hf3 (x + 1 + 1) (by omega))
    have wx3_at_3 : Wv ty ad F3 (x + 3) 67 (xb) := Wv.mv wx3 (hf3 (x + 3) (by omega)) (hf3 (x + 3 + 1) (by omega))
    have hFy_at_3 : F3 (y) = .inr (1, [.ref (ad (y + 1)), .ref (ad (y + 3)), .int (iI ((ys : Int)))]) := (hf3 (y) (by omega)).trans hFy
    have wy1_at_3 : Wv ty ad F3 (y + 1) 67 (yt) := Wv.mv wy1 (hf3 (y + 1) (by omega)) (hf3 (y + 1 + 1) (by omega))
    have wy3_at_3 : Wv ty ad F3 (y + 3) 67 (yb) := Wv.mv wy3 (hf3 (y + 3) (by omega)) (hf3 (y + 3 + 1) (by omega))
    refine lv_aload_n hx hb d_B_divide_6 rfl (lv_at hl 0 rfl) ?_
    refine lv_aload_n hx hb d_B_divide_7 rfl (lv_at hl 0 rfl) ?_
    refine pw_get (ci := 4) (C := R_B) (T := T_B) (N := 7) hx hb hq i_B hown hw (by omega) hB_at_3 rfl 2 (by decide) (hq _ fl_B_23) (fun _ h9 => h9) rfl d_B_divide_8 ?_
    refine lv_aload_n hx hb d_B_divide_11 rfl (lv_at hl 0 rfl) ?_
    refine pw_get (ci := 4) (C := R_B) (T := T_B) (N := 7) hx hb hq i_B hown hw (by omega) hB_at_3 rfl 3 (by decide) (hq _ fl_B_26) (fun _ h9 => h9) rfl d_B_divide_12 ?_
    refine lv_aload_n hx hb d_B_divide_15 rfl (lv_at hl 1 rfl) ?_
    refine pw_get (ci := 1) (C := R_F) (T := T_F) (N := 3) hx hb hq i_F hown hw (by omega) hFx_at_3 rfl 2 (by decide) (hq _ fl_B_76) (fun _ h9 => h9) rfl d_B_divide_16 ?_
    refine lv_aload_n hx hb d_B_divide_19 rfl (lv_at hl 2 rfl) ?_
    refine pw_get (ci := 1) (C := R_F) (T := T_F) (N := 3) hx hb hq i_F hown hw (by omega) hFy_at_3 rfl 2 (by decide) (hq _ fl_B_76) (fun _ h9 => h9) rfl d_B_divide_20 ?_
    refine wz_icmp_eq (tgt := 30) hx hb d_B_divide_23 (by decide) (by omega) (by omega) (by omega) (by omega) (fun c23 => ?_) (fun c23 => ?_)
    · refine wz_iconst (n := 0) hx hb d_B_divide_30 ?_
      refine pw_callv hw (va_runV (As := [.ref (ad (87)), .ref (ad (89)), .int (iI (0))]) (rest := []) ⟨hx, hb, hml, hown, hq⟩ (c_B_takeParts l D ty ad M F3 H.size hM (87) (89) 136 136 (xt * yb) (yt * xb) 0 bb (by omega) (by omega) (by omega) (by omega) (by omega) (by omega) (by omega) (w87).ltN (w89).ltN hB_at_3 w83_at_3 w85_at_3 w87 w89) (cwV 3 hq (gV ml_B_105 im_B_takeParts se_B_takeParts in_B m_B_takeParts) rfl rfl rfl (by decide +kernel) ⟨Nat.le_of_ble_eq_true rfl, Nat.le_of_ble_eq_true rfl⟩) (pw_preV hw (by omega) hB_at_3 rfl) rfl rfl hl.1 rfl (lv_room (Nat.le_of_ble_eq_true rfl)) d_B_divide_31 ⟨Nat.le_of_ble_eq_true rfl, Nat.le_of_ble_eq_true rfl⟩) (fun F31 H locs q31 hw => ?_)
      obtain ⟨hB31, w83, w85, hf31⟩ := q31
      have w91_at_31 : Wa ty ad F31 (91) 136 := Wa.mv w91_at_3 (hf31 (91) (by omega)) (hf31 (91 + 1) (by omega))
      have hD_at_31 : F31 (93) = .inr (3, [.ref (ad (93 + 1)), .long (f0), .long (g0), .long (h0), .long (k0)]) := (hf31 (93) (by omega)).trans hD_at_3
      have w94_at_31 : Wa ty ad F31 (93 + 1) 136 := Wa.mv w94_at_3 (hf31 (93 + 1) (by omega)) (hf31 (93 + 1 + 1) (by omega))
      have hFx_at_31 : F31 (x) = .inr (1, [.ref (ad (x + 1)), .ref (ad (x + 3)), .int (iI ((xs : Int)))]) := (hf31 (x) (by omega)).trans hFx_at_3
      have wx1_at_31 : Wv ty ad F31 (x + 1) 67 (xt) := Wv.mv wx1_at_3 (hf31 (x + 1) (by omega)) (hf31 (x + 1 + 1) (by omega))
      have wx3_at_31 : Wv ty ad F31 (x + 3) 67 (xb) := Wv.mv wx3_at_3 (hf31 (x + 3) (by omega)) (hf31 (x + 3 + 1) (by omega))
      have hFy_at_31 : F31 (y) = .inr (1, [.ref (ad (y + 1)), .ref (ad (y + 3)), .int (iI ((ys : Int)))]) := (hf31 (y) (by omega)).trans hFy_at_3
      have wy1_at_31 : Wv ty ad F31 (y + 1) 67 (yt) := Wv.mv wy1_at_3 (hf31 (y + 1) (by omega)) (hf31 (y + 1 + 1) (by omega))
      have wy3_at_31 : Wv ty ad F31 (y + 3) 67 (yb) := Wv.mv wy3_at_3 (hf31 (y + 3) (by omega)) (hf31 (y + 3 + 1) (by omega))
      have w87_at_31 : Wv ty ad F31 (87) 136 (xt * yb) := Wv.mv w87 (hf31 (87) (by omega)) (hf31 (87 + 1) (by omega))
      have w89_at_31 : Wv ty ad F31 (89) 136 (yt * xb) := Wv.mv w89 (hf31 (89) (by omega)) (hf31 (89 + 1) (by omega))
      rw [← hQ]
      exact pw_vret hx hb hr hlocks hw (⟨⟨by rw [if_pos (by omega)]; omega, by rw [if_pos (by omega)]; exact hB31, w83, w85, (w87_at_31).a, (w89_at_31).a, w91_at_31, ⟨_, _, _, _, hD_at_31⟩, w94_at_31⟩, fun y9 h9 => (hf31 (y9) (by omega)).trans (hf3 (y9) (by omega))⟩) d_B_divide_34
    · refine wz_iconst (n := 1) hx hb d_B_divide_26 ?_
      refine lv_goto (tgt := 31) hx hb d_B_divide_27 (by decide) ?_
      refine pw_callv hw (va_runV (As := [.ref (ad (87)), .ref (ad (89)), .int (iI (1))]) (rest := []) ⟨hx, hb, hml, hown, hq⟩ (c_B_takeParts l D ty ad M F3 H.size hM (87) (89) 136 136 (xt * yb) (yt * xb) 1 bb (by omega) (by omega) (by omega) (by omega) (by omega) (by omega) (by omega) (w87).ltN (w89).ltN hB_at_3 w83_at_3 w85_at_3 w87 w89) (cwV 3 hq (gV ml_B_105 im_B_takeParts se_B_takeParts in_B m_B_takeParts) rfl rfl rfl (by decide +kernel) ⟨Nat.le_of_ble_eq_true rfl, Nat.le_of_ble_eq_true rfl⟩) (pw_preV hw (by omega) hB_at_3 rfl) rfl rfl hl.1 rfl (lv_room (Nat.le_of_ble_eq_true rfl)) d_B_divide_31 ⟨Nat.le_of_ble_eq_true rfl, Nat.le_of_ble_eq_true rfl⟩) (fun F31 H locs q31 hw => ?_)
      obtain ⟨hB31, w83, w85, hf31⟩ := q31
      have w91_at_31 : Wa ty ad F31 (91) 136 := Wa.mv w91_at_3 (hf31 (91) (by omega)) (hf31 (91 + 1) (by omega))
      have hD_at_31 : F31 (93) = .inr (3, [.ref (ad (93 + 1)), .long (f0), .long (g0), .long (h0), .long (k0)]) := (hf31 (93) (by omega)).trans hD_at_3
      have w94_at_31 : Wa ty ad F31 (93 + 1) 136 := Wa.mv w94_at_3 (hf31 (93 + 1) (by omega)) (hf31 (93 + 1 + 1) (by omega))
      have hFx_at_31 : F31 (x) = .inr (1, [.ref (ad (x + 1)), .ref (ad (x + 3)), .int (iI ((xs : Int)))]) := (hf31 (x) (by omega)).trans hFx_at_3
      have wx1_at_31 : Wv ty ad F31 (x + 1) 67 (xt) := Wv.mv wx1_at_3 (hf31 (x + 1) (by omega)) (hf31 (x + 1 + 1) (by omega))
      have wx3_at_31 : Wv ty ad F31 (x + 3) 67 (xb) := Wv.mv wx3_at_3 (hf31 (x + 3) (by omega)) (hf31 (x + 3 + 1) (by omega))
      have hFy_at_31 : F31 (y) = .inr (1, [.ref (ad (y + 1)), .ref (ad (y + 3)), .int (iI ((ys : Int)))]) := (hf31 (y) (by omega)).trans hFy_at_3
      have wy1_at_31 : Wv ty ad F31 (y + 1) 67 (yt) := Wv.mv wy1_at_3 (hf31 (y + 1) (by omega)) (hf31 (y + 1 + 1) (by omega))
      have wy3_at_31 : Wv ty ad F31 (y + 3) 67 (yb) := Wv.mv wy3_at_3 (hf31 (y + 3) (by omega)) (hf31 (y + 3 + 1) (by omega))
      have w87_at_31 : Wv ty ad F31 (87) 136 (xt * yb) := Wv.mv w87 (hf31 (87) (by omega)) (hf31 (87 + 1) (by omega))
      have w89_at_31 : Wv ty ad F31 (89) 136 (yt * xb) := Wv.mv w89 (hf31 (89) (by omega)) (hf31 (89 + 1) (by omega))
      rw [← hQ]
      exact pw_vret hx hb hr hlocks hw (⟨⟨by rw [if_neg (by omega)]; omega, by rw [if_neg (by omega)]; exact hB31, w83, w85, (w87_at_31).a, (w89_at_31).a, w91_at_31, ⟨_, _, _, _, hD_at_31⟩, w94_at_31⟩, fun y9 h9 => (hf31 (y9) (by omega)).trans (hf3 (y9) (by omega))⟩) d_B_divide_34
  rw [hH, hlo] at hgo
  exact hgo
set_option maxHeartbeats 4000000 in
set_option maxRecDepth 100000 in
/-- Bench.add(x, y, yBelow) -/
theorem c_B_add (l : Launch) (D : va_G) (ty : Nat → ClassId) (ad : Nat → Nat) (M : Nat) (F : Nat → va_E) (sz : Nat) (hM : 97 < M) (hBn : Bn ty ad F)(x xt xb xs : Nat) (hMx : x + 4 < M) (hRx : Frc ty ad F x xt xb xs) (hx82 : x + 4 < 82) (hxt : sm xt) (hxb : sm xb) (y yt yb ys : Nat) (hMy : y + 4 < M) (hRy : Frc ty ad F y yt yb ys) (hy82 : y + 4 < 82) (hyt : sm yt) (hyb : sm yb) (s0 : Nat) (hs0 : s0 ≤ 1) :
    CV l y_B_add w_B_add ({ frames := 4, cells := 0, slots := 0, locals := 99 } : Room) [.ref (ad (82)), .ref (ad (x)), .ref (ad (y)), .int (iI ((s0 : Int)))] D ty ad M F sz (fun F1 => (∃ tv sv : Nat, BnT ty ad F1 tv (xb * yb) sv ∧ sg sv tv = sg xs (xt * yb) + sg s0 (yt * xb) ∧ md tv) ∧ frB F F1) := by
  refine Met.ofW (cc := b_B_add) (maxL := 4) (ret := none) (by decide) rfl ?_
  intro p e s m args below meth c s₁ B hml hv
  obtain ⟨rfl, hsz, hP, hK, hD0⟩ := hv
  have hx := B.exec
  have hb := B.bytes
  have hr := B.returns
  have hts := atoms_spec (ws := w_B_add) B.pre
  have hq : ∀ w ∈ wT, w.before _ s = true := fun w h => hts w (List.mem_cons_of_mem _ h)
  have hown : s.vm.findClass R_B = some m.cls := findClass_of_methodNamed B.named
  have hlocks := B.notSynchronized
  subst hsz
  have hw := pw_start hP hK hD0
  have hl := lv_entry ([.ref (ad (82)), .ref (ad (x)), .ref (ad (y)), .int (iI ((s0 : Int)))]) (n := 4) (Nat.le_of_ble_eq_true rfl)
  rw [lg_entry_eq]
  generalize (lg_sl ([.ref (ad (82)), .ref (ad (x)), .ref (ad (y)), .int (iI ((s0 : Int)))]) ++ List.replicate (4 - (lg_sl ([.ref (ad (82)), .ref (ad (x)), .ref (ad (y)), .int (iI ((s0 : Int)))])).length) Slot.unset).toArray = ls at hl ⊢
  have hl : lv_has ls 4 [(0, .ref (ad (82))), (1, .ref (ad (x))), (2, .ref (ad (y))), (3, .int (iI ((s0 : Int))))] := hl
  change W p l e ({ frames := 4, cells := 0, slots := 0, locals := 99 } : Room) s m ([.ref (ad (82)), .ref (ad (x)), .ref (ad (y)), .int (iI ((s0 : Int)))]).toArray below meth c s.heap [] 0 0 (MQ below (va_Qv (fun F1 => (∃ tv sv : Nat, BnT ty ad F1 tv (xb * yb) sv ∧ sg sv tv = sg xs (xt * yb) + sg s0 (yt * xb) ∧ md tv) ∧ frB F F1) (pAt D classes (tysL ty) ad M (pA ad M s.heap.size)) (pA ad M s.heap.size)) ([.ref (ad (82)), .ref (ad (x)), .ref (ad (y)), .int (iI ((s0 : Int)))]).toArray s 0 0 (pA ad M s.heap.size)) (F0 m 0 ls [])
  generalize hQ : MQ below (va_Qv (fun F1 => (∃ tv sv : Nat, BnT ty ad F1 tv (xb * yb) sv ∧ sg sv tv = sg xs (xt * yb) + sg s0 (yt * xb) ∧ md tv) ∧ frB F F1) (pAt D classes (tysL ty) ad M (pA ad M s.heap.size)) (pA ad M s.heap.size)) ([.ref (ad (82)), .ref (ad (x)), .ref (ad (y)), .int (iI ((s0 : Int)))]).toArray s 0 0 (pA ad M s.heap.size) = Q
  obtain ⟨H, hH⟩ : ∃ H, H = s.heap := ⟨_, rfl⟩
  obtain ⟨locs, hlo⟩ : ∃ z : List Loc, z = [] := ⟨_, rfl⟩
  have hw : pw D classes (tysL ty) ad M F (pA ad M s.heap.size) s H locs := by rw [hH, hlo]; exact hw
  have hgo : W p l e ({ frames := 4, cells := 0, slots := 0, locals := 99 } : Room) s m ([.ref (ad (82)), .ref (ad (x)), .ref (ad (y)), .int (iI ((s0 : Int)))]).toArray below meth c H locs 0 0 Q (F0 m 0 ls []) := by
    obtain ⟨⟨bb, hbb, hB⟩, w83, w85, w87, w89, w91, ⟨f0, g0, h0, k0, hD⟩, w94⟩ := hBn
    obtain ⟨hbx, hFx, wx1, wx3⟩ := hRx
    obtain ⟨hby, hFy, wy1, wy3⟩ := hRy
    have hcm := @cmpI_neg (xt * yb) (yt * xb)
    have hcb := cmpI_b (xt * yb) (yt * xb)
    refine lv_aload_n hx hb d_B_add_0 rfl (lv_at hl 0 rfl) ?_
    refine lv_aload_n hx hb d_B_add_1 rfl (lv_at hl 1 rfl) ?_
    refine lv_aload_n hx hb d_B_add_2 rfl (lv_at hl 2 rfl) ?_
    refine pw_callv hw (va_runV (As := [.ref (ad (x)), .ref (ad (y))]) (rest := []) ⟨hx, hb, hml, hown, hq⟩ (c_B_cross l D ty ad M F H.size hM bb x xt xb xs (by omega) ⟨hbx, hFx, wx1, wx3⟩ y yt yb ys (by omega) ⟨hby, hFy, wy1, wy3⟩ hx82 hy82 hxt hxb hyt hyb hB w87 w89) (cwV 2 hq (gV ml_B_115 im_B_cross se_B_cross in_B m_B_cross) rfl rfl rfl (by decide +kernel) ⟨Nat.le_of_ble_eq_true rfl, Nat.le_of_ble_eq_true rfl⟩) (pw_preV hw (by omega) hB rfl) rfl rfl hl.1 rfl (lv_room (Nat.le_of_ble_eq_true rfl)) d_B_add_3 ⟨Nat.le_of_ble_eq_true rfl, Nat.le_of_ble_eq_true rfl⟩) (fun F3 H locs q3 hw => ?_)
    obtain ⟨w87, w89, hf3⟩ := q3
    have hB_at_3 : F3 (82) = .inr (4, [.ref (ad (83)), .ref (ad (85)), .ref (ad (87)), .ref (ad (89)), .ref (ad (91)), .ref (ad (93)), .int (iI ((bb : Int)))]) := (hf3 (82) (by omega)).trans hB
    have w83_at_3 : Wa ty ad F3 (83) 136 := Wa.mv w83 (hf3 (83) (by omega)) (hf3 (83 + 1) (by omega))
    have w85_at_3 : Wa ty ad F3 (85) 136 := Wa.mv w85 (hf3 (85) (by omega)) (hf3 (85 + 1) (by omega))
    have w91_at_3 : Wa ty ad F3 (91) 136 := Wa.mv w91 (hf3 (91) (by omega)) (hf3 (91 + 1) (by omega))
    have hD_at_3 : F3 (93) = .inr (3, [.ref (ad (93 + 1)), .long (f0), .long (g0), .long (h0), .long (k0)]) := (hf3 (93) (by omega)).trans hD
    have w94_at_3 : Wa ty ad F3 (93 + 1) 136 := Wa.mv w94 (hf3 (93 + 1) (by omega)) (hf3 (93 + 1 + 1) (by omega))
    have hFx_at_3 : F3 (x) = .inr (1, [.ref (ad (x + 1)), .ref (ad (x + 3)), .int (iI ((xs : Int)))]) := (hf3 (x) (by omega)).trans hFx
    have wx1_at_3 : Wv ty ad F3 (x + 1) 67 (xt) := Wv.mv wx1 (hf3 (x + 1) (by omega)) (hf3 (x + 1 + 1) (by omega))
    have wx3_at_3 : Wv ty ad F3 (x + 3) 67 (xb) := Wv.mv wx3 (hf3 (x + 3) (by omega)) (hf3 (x + 3 + 1) (by omega))
    have hFy_at_3 : F3 (y) = .inr (1, [.ref (ad (y + 1)), .ref (ad (y + 3)), .int (iI ((ys : Int)))]) := (hf3 (y) (by omega)).trans hFy
    have wy1_at_3 : Wv ty ad F3 (y + 1) 67 (yt) := Wv.mv wy1 (hf3 (y + 1) (by omega)) (hf3 (y + 1 + 1) (by omega))
    have wy3_at_3 : Wv ty ad F3 (y + 3) 67 (yb) := Wv.mv wy3 (hf3 (y + 3) (by omega)) (hf3 (y + 3 + 1) (by omega))
    refine lv_aload_n hx hb d_B_add_6 rfl (lv_at hl 0 rfl) ?_
    refine pw_get (ci := 4) (C := R_B) (T := T_B) (N := 7) hx hb hq i_B hown hw (by omega) hB_at_3 rfl 1 (by decide) (hq _ fl_B_20) (fun _ h9 => h9) rfl d_B_add_7 ?_
    refine lv_aload_n hx hb d_B_add_10 rfl (lv_at hl 1 rfl) ?_
    refine pw_get (ci := 1) (C := R_F) (T := T_F) (N := 3) hx hb hq i_F hown hw (by omega) hFx_at_3 rfl 1 (by decide) (hq _ fl_B_72) (fun _ h9 => h9) rfl d_B_add_11 ?_
    refine lv_aload_n hx hb d_B_add_14 rfl (lv_at hl 2 rfl) ?_
    refine pw_get (ci := 1) (C := R_F) (T := T_F) (N := 3) hx hb hq i_F hown hw (by omega) hFy_at_3 rfl 1 (by decide) (hq _ fl_B_72) (fun _ h9 => h9) rfl d_B_add_15 ?_
    refine pw_callv hw (va_runV (As := [.ref (ad (x + 3)), .ref (ad (y + 3))]) (rest := []) ⟨hx, hb, hml, hown, hq⟩ (c_W_becomeProduct l D ty ad M F3 H.size (85) (x + 3) (y + 3) 136 67 67 (xb) (yb) 67 67 (by omega) (by omega) (by omega) (by omega) (by omega) (by omega) (by omega) (by omega) (hxb.f67) (hyb.f67) (by omega) w85_at_3 wx3_at_3 wy3_at_3) (cwV 2 hq (gV ml_B_109 im_W_becomeProduct se_W_becomeProduct in_W m_W_becomeProduct) rfl rfl rfl (by decide +kernel) ⟨Nat.le_of_ble_eq_true rfl, Nat.le_of_ble_eq_true rfl⟩) (pw_preWa hw (by omega) w85_at_3) rfl rfl hl.1 rfl (lv_room (Nat.le_of_ble_eq_true rfl)) d_B_add_18 ⟨Nat.le_of_ble_eq_true rfl, Nat.le_of_ble_eq_true rfl⟩) (fun F18 H locs q18 hw => ?_)
    obtain ⟨w85, hf18⟩ := q18
    have hB_at_18 : F18 (82) = .inr (4, [.ref (ad (83)), .ref (ad (85)), .ref (ad (87)), .ref (ad (89)), .ref (ad (91)), .ref (ad (93)), .int (iI ((bb : Int)))]) := (hf18 (82) (by omega) (by omega)).trans hB_at_3
    have w83_at_18 : Wa ty ad F18 (83) 136 := Wa.mv w83_at_3 (hf18 (83) (by omega) (by omega)) (hf18 (83 + 1) (by omega) (by omega))
    have w91_at_18 : Wa ty ad F18 (91) 136 := Wa.mv w91_at_3 (hf18 (91) (by omega) (by omega)) (hf18 (91 + 1) (by omega) (by omega))
    have hD_at_18 : F18 (93) = .inr (3, [.ref (ad (93 + 1)), .long (f0), .long (g0), .long (h0), .long (k0)]) := (hf18 (93) (by omega) (by omega)).trans hD_at_3
    have w94_at_18 : Wa ty ad F18 (93 + 1) 136 := Wa.mv w94_at_3 (hf18 (93 + 1) (by omega) (by omega)) (hf18 (93 + 1 + 1) (by omega) (by omega))
    have hFx_at_18 : F18 (x) = .inr (1, [.ref (ad (x + 1)), .ref (ad (x + 3)), .int (iI ((xs : Int)))]) := (hf18 (x) (by omega) (by omega)).trans hFx_at_3
    have wx1_at_18 : Wv ty ad F18 (x + 1) 67 (xt) := Wv.mv wx1_at_3 (hf18 (x + 1) (by omega) (by omega)) (hf18 (x + 1 + 1) (by omega) (by omega))
    have wx3_at_18 : Wv ty ad F18 (x + 3) 67 (xb) := Wv.mv wx3_at_3 (hf18 (x + 3) (by omega) (by omega)) (hf18 (x + 3 + 1) (by omega) (by omega))
    have hFy_at_18 : F18 (y) = .inr (1, [.ref (ad (y + 1)), .ref (ad (y + 3)), .int (iI ((ys : Int)))]) := (hf18 (y) (by omega) (by omega)).trans hFy_at_3
    have wy1_at_18 : Wv ty ad F18 (y + 1) 67 (yt) := Wv.mv wy1_at_3 (hf18 (y + 1) (by omega) (by omega)) (hf18 (y + 1 + 1) (by omega) (by omega))
    have wy3_at_18 : Wv ty ad F18 (y + 3) 67 (yb) := Wv.mv wy3_at_3 (hf18 (y + 3) (by omega) (by omega)) (hf18 (y + 3 + 1) (by omega) (by omega))
    have w87_at_18 : Wv ty ad F18 (87) 136 (xt * yb) := Wv.mv w87 (hf18 (87) (by omega) (by omega)) (hf18 (87 + 1) (by omega) (by omega))
    have w89_at_18 : Wv ty ad F18 (89) 136 (yt * xb) := Wv.mv w89 (hf18 (89) (by omega) (by omega)) (hf18 (89 + 1) (by omega) (by omega))
    refine lv_aload_n hx hb d_B_add_21 rfl (lv_at hl 0 rfl) ?_
    refine lv_aload_n hx hb d_B_add_22 rfl (lv_at hl 1 rfl) ?_
    refine pw_get (ci := 1) (C := R_F) (T := T_F) (N := 3) hx hb hq i_F hown hw (by omega) hFx_at_18 rfl 2 (by decide) (hq _ fl_B_76) (fun _ h9 => h9) rfl d_B_add_23 ?_
    refine pw_put (ci := 4) (C := R_B) (T := T_B) (N := 7) (ty := .boolean) (fs' := [.ref (ad (83)), .ref (ad (85)), .ref (ad (87)), .ref (ad (89)), .ref (ad (91)), .ref (ad (93)), .int (iI ((xs : Int)))]) hx hb hq i_B ft_B ft_B_ok n_B hown hw (by omega) hB_at_18 rfl 6 (by decide) (hq _ fl_B_39) (fun _ h9 => h9) rfl (by decide +kernel) (nar_bb hbx) (fit_bb hbx) (Nat.le_of_ble_eq_true rfl) rfl d_B_add_26 (fun F26 H locs eF26 hw => ?_)
    have m26_82 : F26 (82) = .inr (4, [.ref (ad (83)), .ref (ad (85)), .ref (ad (87)), .ref (ad (89)), .ref (ad (91)), .ref (ad (93)), .int (iI ((xs : Int)))]) := by rw [eF26]; exact va_up_self ..
    have w83_at_26 : Wa ty ad F26 (83) 136 := Wa.mv w83_at_18 (show F26 (83) = F18 (83) from by rw [eF26]; exact va_up_ne _ _ (by omega)) (show F26 (83 + 1) = F18 (83 + 1) from by rw [eF26]; exact va_up_ne _ _ (by omega))
    have w91_at_26 : Wa ty ad F26 (91) 136 := Wa.mv w91_at_18 (show F26 (91) = F18 (91) from by rw [eF26]; exact va_up_ne _ _ (by omega)) (show F26 (91 + 1) = F18 (91 + 1) from by rw [eF26]; exact va_up_ne _ _ (by omega))
    have hD_at_26 : F26 (93) = .inr (3, [.ref (ad (93 + 1)), .long (f0), .long (g0), .long (h0), .long (k0)]) := (show F26 (93) = F18 (93) from by rw [eF26]; exact va_up_ne _ _ (by omega)).trans hD_at_18
    have w94_at_26 : Wa ty ad F26 (93 + 1) 136 := Wa.mv w94_at_18 (show F26 (93 + 1) = F18 (93 + 1) from by rw [eF26]; exact va_up_ne _ _ (by omega)) (show F26 (93 + 1 + 1) = F18 (93 + 1 + 1) from by rw [eF26]; exact va_up_ne _ _ (by omega))
    have hFx_at_26 : F26 (x) = .inr (1, [.ref (ad (x + 1)), .ref (ad (x + 3)), .int (iI ((xs : Int)))]) := (show F26 (x) = F18 (x) from by rw [eF26]; exact va_up_ne _ _ (by omega)).trans hFx_at_18
    have wx1_at_26 : Wv ty ad F26 (x + 1) 67 (xt) := Wv.mv wx1_at_18 (show F26 (x + 1) = F18 (x + 1) from by rw [eF26]; exact va_up_ne _ _ (by omega)) (show F26 (x + 1 + 1) = F18 (x + 1 + 1) from by rw [eF26]; exact va_up_ne _ _ (by omega))
    have wx3_at_26 : Wv ty ad F26 (x + 3) 67 (xb) := Wv.mv wx3_at_18 (show F26 (x + 3) = F18 (x + 3) from by rw [eF26]; exact va_up_ne _ _ (by omega)) (show F26 (x + 3 + 1) = F18 (x + 3 + 1) from by rw [eF26]; exact va_up_ne _ _ (by omega))
    have hFy_at_26 : F26 (y) = .inr (1, [.ref (ad (y + 1)), .ref (ad (y + 3)), .int (iI ((ys : Int)))]) := (show F26 (y) = F18 (y) from by rw [eF26]; exact va_up_ne _ _ (by omega)).trans hFy_at_18
    have wy1_at_26 : Wv ty ad F26 (y + 1) 67 (yt) := Wv.mv wy1_at_18 (show F26 (y + 1) = F18 (y + 1) from by rw [eF26]; exact va_up_ne _ _ (by omega)) (show F26 (y + 1 + 1) = F18 (y + 1 + 1) from by rw [eF26]; exact va_up_ne _ _ (by omega))
    have wy3_at_26 : Wv ty ad F26 (y + 3) 67 (yb) := Wv.mv wy3_at_18 (show F26 (y + 3) = F18 (y + 3) from by rw [eF26]; exact va_up_ne _ _ (by omega)) (show F26 (y + 3 + 1) = F18 (y + 3 + 1) from by rw [eF26]; exact va_up_ne _ _ (by omega))
    have w87_at_26 : Wv ty ad F26 (87) 136 (xt * yb) := Wv.mv w87_at_18 (show F26 (87) = F18 (87) from by rw [eF26]; exact va_up_ne _ _ (by omega)) (show F26 (87 + 1) = F18 (87 + 1) from by rw [eF26]; exact va_up_ne _ _ (by omega))
    have w89_at_26 : Wv ty ad F26 (89) 136 (yt * xb) := Wv.mv w89_at_18 (show F26 (89) = F18 (89) from by rw [eF26]; exact va_up_ne _ _ (by omega)) (show F26 (89 + 1) = F18 (89 + 1) from by rw [eF26]; exact va_up_ne _ _ (by omega))
    have w85_at_26 : Wv ty ad F26 (85) 136 (xb * yb) := Wv.mv w85 (show F26 (85) = F18 (85) from by rw [eF26]; exact va_up_ne _ _ (by omega)) (show F26 (85 + 1) = F18 (85 + 1) from by rw [eF26]; exact va_up_ne _ _ (by omega))
    refine lv_aload_n hx hb d_B_add_29 rfl (lv_at hl 1 rfl) ?_
    refine pw_get (ci := 1) (C := R_F) (T := T_F) (N := 3) hx hb hq i_F hown hw (by omega) hFx_at_26 rfl 2 (by decide) (hq _ fl_B_76) (fun _ h9 => h9) rfl d_B_add_30 ?_
    refine lv_iload_n hx hb d_B_add_33 rfl (lv_at hl 3 rfl) ?_
    refine wz_icmp_ne (tgt := 57) hx hb d_B_add_34 (by decide) (by omega) (by omega) (by omega) (by omega) (fun c34 => ?_) (fun c34 => ?_)
    · refine lv_aload_n hx hb d_B_add_57 rfl (lv_at hl 0 rfl) ?_
      refine pw_get (ci := 4) (C := R_B) (T := T_B) (N := 7) hx hb hq i_B hown hw (by omega) m26_82 rfl 2 (by decide) (hq _ fl_B_23) (fun _ h9 => h9) rfl d_B_add_58 ?_
      refine lv_aload_n hx hb d_B_add_61 rfl (lv_at hl 0 rfl) ?_
      refine pw_get (ci := 4) (C := R_B) (T := T_B) (N := 7) hx hb hq i_B hown hw (by omega) m26_82 rfl 3 (by decide) (hq _ fl_B_26) (fun _ h9 => h9) rfl d_B_add_62 ?_
      refine pw_calli hw (va_runS (As := [.ref (ad (87)), .ref (ad (89))]) (rest := []) ⟨hx, hb, hml, hown, hq⟩ (c_W_compare l D ty ad M F26 H.size (87) (89) 136 136 (xt * yb) (yt * xb) (by omega) (by omega) (by omega) (by omega) w87_at_26 w89_at_26) (va_cwS 2 hq (gS ml_B_119 st_W_compare in_W m_W_compare) rfl rfl rfl (by decide +kernel) ⟨Nat.le_of_ble_eq_true rfl, Nat.le_of_ble_eq_true rfl⟩) (pw_preS hw) rfl rfl hl.1 rfl (lv_room (Nat.le_of_ble_eq_true rfl)) d_B_add_65 ⟨Nat.le_of_ble_eq_true rfl, Nat.le_of_ble_eq_true rfl⟩) (fun r65 F65 H locs q65 hw => ?_)
      obtain ⟨er65, eF65⟩ := q65
      rw [eF65] at hw
      clear eF65
      subst er65
      refine wz_if_lt (tgt := 93) hx hb d_B_add_68 (by decide) (by omega) (by omega) (fun c68 => ?_) (fun c68 => ?_)
      · refine lv_aload_n hx hb d_B_add_93 rfl (lv_at hl 0 rfl) ?_
        refine pw_get (ci := 4) (C := R_B) (T := T_B) (N := 7) hx hb hq i_B hown hw (by omega) m26_82 rfl 0 (by decide) (hq _ fl_B_16) (fun _ h9 => h9) rfl d_B_add_94 ?_
        refine lv_lconst (v := iL 1) hx hb d_B_add_97 (by decide) ?_
        refine lv_aload_n hx hb d_B_add_98 rfl (lv_at hl 0 rfl) ?_
        refine pw_get (ci := 4) (C := R_B) (T := T_B) (N := 7) hx hb hq i_B hown hw (by omega) m26_82 rfl 3 (by decide) (hq _ fl_B_26) (fun _ h9 => h9) rfl d_B_add_99 ?_
        refine lv_ldc2 (v := iL (-1)) hx hb hown (hq _ cj_B_127) d_B_add_102 ?_
        refine lv_aload_n hx hb d_B_add_105 rfl (lv_at hl 0 rfl) ?_
        refine pw_get (ci := 4) (C := R_B) (T := T_B) (N := 7) hx hb hq i_B hown hw (by omega) m26_82 rfl 2 (by decide) (hq _ fl_B_23) (fun _ h9 => h9) rfl d_B_add_106 ?_
        refine pw_callv hw (va_runV (As := [.long (iL (1)), .ref (ad (89)), .long (iL (-1)), .ref (ad (87))]) (rest := []) ⟨hx, hb, hml, hown, hq⟩ (c_W_becomeMix l D ty ad M F26 H.size (83) (89) (87) 136 136 136 (yt * xb) (xt * yb) (yt * xb - xt * yb) 1 (-1) (by omega) (by omega) (by omega) (by omega) (by omega) (by omega) (by omega) (by omega) (by omega) (by omega) (by omega) (by omega) ((hyt.mul hxb).toMd.f135) ((hxt.mul hyb).toMd.f135) (by omega) w89_at_26 w87_at_26 w83_at_26) (cwV 4 hq (gV ml_B_123 im_W_becomeMix se_W_becomeMix in_W m_W_becomeMix) rfl rfl rfl (by decide +kernel) ⟨Nat.le_of_ble_eq_true rfl, Nat.le_of_ble_eq_true rfl⟩) (pw_preWa hw (by omega) w83_at_26) rfl rfl hl.1 rfl (lv_room (Nat.le_of_ble_eq_true rfl)) d_B_add_109 ⟨Nat.le_of_ble_eq_true rfl, Nat.le_of_ble_eq_true rfl⟩) (fun F109 H locs q109 hw => ?_)
        obtain ⟨w83, hf109⟩ := q109
        have w91_at_109 : Wa ty ad F109 (91) 136 := Wa.mv w91_at_26 (hf109 (91) (by omega) (by omega)) (hf109 (91 + 1) (by omega) (by omega))
        have hD_at_109 : F109 (93) = .inr (3, [.ref (ad (93 + 1)), .long (f0), .long (g0), .long (h0), .long (k0)]) := (hf109 (93) (by omega) (by omega)).trans hD_at_26
        have w94_at_109 : Wa ty ad F109 (93 + 1) 136 := Wa.mv w94_at_26 (hf109 (93 + 1) (by omega) (by omega)) (hf109 (93 + 1 + 1) (by omega) (by omega))
        have hFx_at_109 : F109 (x) = .inr (1, [.ref (ad (x + 1)), .ref (ad (x + 3)), .int (iI ((xs : Int)))]) := (hf109 (x) (by omega) (by omega)).trans hFx_at_26
        have wx1_at_109 : Wv ty ad F109 (x + 1) 67 (xt) := Wv.mv wx1_at_26 (hf109 (x + 1) (by omega) (by omega)) (hf109 (x + 1 + 1) (by omega) (by omega))
        have wx3_at_109 : Wv ty ad F109 (x + 3) 67 (xb) := Wv.mv wx3_at_26 (hf109 (x + 3) (by omega) (by omega)) (hf109 (x + 3 + 1) (by omega) (by omega))
        have hFy_at_109 : F109 (y) = .inr (1, [.ref (ad (y + 1)), .ref (ad (y + 3)), .int (iI ((ys : Int)))]) := (hf109 (y) (by omega) (by omega)).trans hFy_at_26
        have wy1_at_109 : Wv ty ad F109 (y + 1) 67 (yt) := Wv.mv wy1_at_26 (hf109 (y + 1) (by omega) (by omega)) (hf109 (y + 1 + 1) (by omega) (by omega))
        have wy3_at_109 : Wv ty ad F109 (y + 3) 67 (yb) := Wv.mv wy3_at_26 (hf109 (y + 3) (by omega) (by omega)) (hf109 (y + 3 + 1) (by omega) (by omega))
        have w87_at_109 : Wv ty ad F109 (87) 136 (xt * yb) := Wv.mv w87_at_26 (hf109 (87) (by omega) (by omega)) (hf109 (87 + 1) (by omega) (by omega))
        have w89_at_109 : Wv ty ad F109 (89) 136 (yt * xb) := Wv.mv w89_at_26 (hf109 (89) (by omega) (by omega)) (hf109 (89 + 1) (by omega) (by omega))
        have w85_at_109 : Wv ty ad F109 (85) 136 (xb * yb) := Wv.mv w85_at_26 (hf109 (85) (by omega) (by omega)) (hf109 (85 + 1) (by omega) (by omega))
        have m26_82_at_109 : F109 (82) = .inr (4, [.ref (ad (83)), .ref (ad (85)), .ref (ad (87)), .ref (ad (89)), .ref (ad (91)), .ref (ad (93)), .int (iI ((xs : Int)))]) := (hf109 (82) (by omega) (by omega)).trans m26_82
        refine lv_aload_n hx hb d_B_add_112 rfl (lv_at hl 0 rfl) ?_
        refine lv_iload_n hx hb d_B_add_113 rfl (lv_at hl 3 rfl) ?_
        refine pw_put (ci := 4) (C := R_B) (T := T_B) (N := 7) (ty := .boolean) (fs' := [.ref (ad (83)), .ref (ad (85)), .ref (ad (87)), .ref (ad (89)), .ref (ad (91)), .ref (ad (93)), .int (iI ((s0 : Int)))]) hx hb hq i_B ft_B ft_B_ok n_B hown hw (by omega) m26_82_at_109 rfl 6 (by decide) (hq _ fl_B_39) (fun _ h9 => h9) rfl (by decide +kernel) (nar_bb hs0) (fit_bb hs0) (Nat.le_of_ble_eq_true rfl) rfl d_B_add_114 (fun F114 H locs eF114 hw => ?_)
        have m114_82 : F114 (82) = .inr (4, [.ref (ad (83)), .ref (ad (85)), .ref (ad (87)), .ref (ad (89)), .ref (ad (91)), .ref (ad (93)), .int (iI ((s0 : Int)))]) := by rw [eF114]; exact va_up_self ..
        have w91_at_114 : Wa ty ad F114 (91) 136 := Wa.mv w91_at_109 (show F114 (91) = F109 (91) from by rw [eF114]; exact va_up_ne _ _ (by omega)) (show F114 (91 + 1) = F109 (91 + 1) from by rw [eF114]; exact va_up_ne _ _ (by omega))
        have hD_at_114 : F114 (93) = .inr (3, [.ref (ad (93 + 1)), .long (f0), .long (g0), .long (h0), .long (k0)]) := (show F114 (93) = F109 (93) from by rw [eF114]; exact va_up_ne _ _ (by omega)).trans hD_at_109
        have w94_at_114 : Wa ty ad F114 (93 + 1) 136 := Wa.mv w94_at_109 (show F114 (93 + 1) = F109 (93 + 1) from by rw [eF114]; exact va_up_ne _ _ (by omega)) (show F114 (93 + 1 + 1) = F109 (93 + 1 + 1) from by rw [eF114]; exact va_up_ne _ _ (by omega))
        have hFx_at_114 : F114 (x) = .inr (1, [.ref (ad (x + 1)), .ref (ad (x + 3)), .int (iI ((xs : Int)))]) := (show F114 (x) = F109 (x) from by rw [eF114]; exact va_up_ne _ _ (by omega)).trans hFx_at_109
        have wx1_at_114 : Wv ty ad F114 (x + 1) 67 (xt) := Wv.mv wx1_at_109 (show F114 (x + 1) = F109 (x + 1) from by rw [eF114]; exact va_up_ne _ _ (by omega)) (show F114 (x + 1 + 1) = F109 (x + 1 + 1) from by rw [eF114]; exact va_up_ne _ _ (by omega))
        have wx3_at_114 : Wv ty ad F114 (x + 3) 67 (xb) := Wv.mv wx3_at_109 (show F114 (x + 3) = F109 (x + 3) from by rw [eF114]; exact va_up_ne _ _ (by omega)) (show F114 (x + 3 + 1) = F109 (x + 3 + 1) from by rw [eF114]; exact va_up_ne _ _ (by omega))
        have hFy_at_114 : F114 (y) = .inr (1, [.ref (ad (y + 1)), .ref (ad (y + 3)), .int (iI ((ys : Int)))]) := (show F114 (y) = F109 (y) from by rw [eF114]; exact va_up_ne _ _ (by omega)).trans hFy_at_109
        have wy1_at_114 : Wv ty ad F114 (y + 1) 67 (yt) := Wv.mv wy1_at_109 (show F114 (y + 1) = F109 (y + 1) from by rw [eF114]; exact va_up_ne _ _ (by omega)) (show F114 (y + 1 + 1) = F109 (y + 1 + 1) from by rw [eF114]; exact va_up_ne _ _ (by omega))
        have wy3_at_114 : Wv ty ad F114 (y + 3) 67 (yb) := Wv.mv wy3_at_109 (show F114 (y + 3) = F109 (y + 3) from by rw [eF114]; exact va_up_ne _ _ (by omega)) (show F114 (y + 3 + 1) = F109 (y + 3 + 1) from by rw [eF114]; exact va_up_ne _ _ (by omega))
        have w87_at_114 : Wv ty ad F114 (87) 136 (xt * yb) := Wv.mv w87_at_109 (show F114 (87) = F109 (87) from by rw [eF114]; exact va_up_ne _ _ (by omega)) (show F114 (87 + 1) = F109 (87 + 1) from by rw [eF114]; exact va_up_ne _ _ (by omega))
        have w89_at_114 : Wv ty ad F114 (89) 136 (yt * xb) := Wv.mv w89_at_109 (show F114 (89) = F109 (89) from by rw [eF114]; exact va_up_ne _ _ (by omega)) (show F114 (89 + 1) = F109 (89 + 1) from by rw [eF114]; exact va_up_ne _ _ (by omega))
        have w85_at_114 : Wv ty ad F114 (85) 136 (xb * yb) := Wv.mv w85_at_109 (show F114 (85) = F109 (85) from by rw [eF114]; exact va_up_ne _ _ (by omega)) (show F114 (85 + 1) = F109 (85 + 1) from by rw [eF114]; exact va_up_ne _ _ (by omega))
        have w83_at_114 : Wv ty ad F114 (83) 136 (yt * xb - xt * yb) := Wv.mv w83 (show F114 (83) = F109 (83) from by rw [eF114]; exact va_up_ne _ _ (by omega)) (show F114 (83 + 1) = F109 (83 + 1) from by rw [eF114]; exact va_up_ne _ _ (by omega))
        rw [← hQ]
        exact pw_vret hx hb hr hlocks hw (⟨⟨yt * xb - xt * yb, s0, ⟨hs0, m114_82, w83_at_114, w85_at_114, (w87_at_114).a, (w89_at_114).a, w91_at_114, ⟨_, _, _, _, hD_at_114⟩, w94_at_114⟩, by rcases sg_cases xs (xt * yb) hbx with ⟨a1, a2⟩ | ⟨a1, a2⟩ <;> rcases sg_cases s0 (yt * xb - xt * yb) hs0 with ⟨b1, b2⟩ | ⟨b1, b2⟩ <;> rcases sg_cases s0 (yt * xb) hs0 with ⟨d1, d2⟩ | ⟨d1, d2⟩ <;> omega, (pr.toMd (hyt.mul hxb)).le (Nat.sub_le _ _)⟩, fun y9 h9 => (show F114 (y9) = F109 (y9) from by rw [eF114]; exact va_up_ne _ _ (by omega)).trans ((hf109 (y9) (by omega) (by omega)).trans ((show F26 (y9) = F18 (y9) from by rw [eF26]; exact va_up_ne _ _ (by omega)).trans ((hf18 (y9) (by omega) (by omega)).trans (hf3 (y9) (by omega)))))⟩) d_B_add_117
      · refine lv_aload_n hx hb d_B_add_71 rfl (lv_at hl 0 rfl) ?_
        refine pw_get (ci := 4) (C := R_B) (T := T_B) (N := 7) hx hb hq i_B hown hw (by omega) m26_82 rfl 0 (by decide) (hq _ fl_B_16) (fun _ h9 => h9) rfl d_B_add_72 ?_
        refine lv_lconst (v := iL 1) hx hb d_B_add_75 (by decide) ?_
        refine lv_aload_n hx hb d_B_add_76 rfl (lv_at hl 0 rfl) ?_
        refine pw_get (ci := 4) (C := R_B) (T := T_B) (N := 7) hx hb hq i_B hown hw (by omega) m26_82 rfl 2 (by decide) (hq _ fl_B_23) (fun _ h9 => h9) rfl d_B_add_77 ?_
        refine lv_ldc2 (v := iL (-1)) hx hb hown (hq _ cj_B_127) d_B_add_80 ?_
        refine lv_aload_n hx hb d_B_add_83 rfl (lv_at hl 0 rfl) ?_
        refine pw_get (ci := 4) (C := R_B) (T := T_B) (N := 7) hx hb hq i_B hown hw (by omega) m26_82 rfl 3 (by decide) (hq _ fl_B_26) (fun _ h9 => h9) rfl d_B_add_84 ?_
        refine pw_callv hw (va_runV (As := [.long (iL (1)), .ref (ad (87)), .long (iL (-1)), .ref (ad (89))]) (rest := []) ⟨hx, hb, hml, hown, hq⟩ (c_W_becomeMix l D ty ad M F26 H.size (83) (87) (89) 136 136 136 (xt * yb) (yt * xb) (xt * yb - yt * xb) 1 (-1) (by omega) (by omega) (by omega) (by omega) (by omega) (by omega) (by omega) (by omega) (by omega) (by omega) (by omega) (by omega) ((hxt.mul hyb).toMd.f135) ((hyt.mul hxb).toMd.f135) (by omega) w87_at_26 w89_at_26 w83_at_26) (cwV 4 hq (gV ml_B_123 im_W_becomeMix se_W_becomeMix in_W m_W_becomeMix) rfl rfl rfl (by decide +kernel) ⟨Nat.le_of_ble_eq_true rfl, Nat.le_of_ble_eq_true rfl⟩) (pw_preWa hw (by omega) w83_at_26) rfl rfl hl.1 rfl (lv_room (Nat.le_of_ble_eq_true rfl)) d_B_add_87 ⟨Nat.le_of_ble_eq_true rfl, Nat.le_of_ble_eq_true rfl⟩) (fun F87 H locs q87 hw => ?_)
        obtain ⟨w83, hf87⟩ := q87
        have w91_at_87 : Wa ty ad F87 (91) 136 := Wa.mv w91_at_26 (hf87 (91) (by omega) (by omega)) (hf87 (91 + 1) (by omega) (by omega))
        have hD_at_87 : F87 (93) = .inr (3, [.ref (ad (93 + 1)), .long (f0), .long (g0), .long (h0), .long (k0)]) := (hf87 (93) (by omega) (by omega)).trans hD_at_26
        have w94_at_87 : Wa ty ad F87 (93 + 1) 136 := Wa.mv w94_at_26 (hf87 (93 + 1) (by omega) (by omega)) (hf87 (93 + 1 + 1) (by omega) (by omega))
        have hFx_at_87 : F87 (x) = .inr (1, [.ref (ad (x + 1)), .ref (ad (x + 3)), .int (iI ((xs : Int)))]) := (hf87 (x) (by omega) (by omega)).trans hFx_at_26
        have wx1_at_87 : Wv ty ad F87 (x + 1) 67 (xt) := Wv.mv wx1_at_26 (hf87 (x + 1) (by omega) (by omega)) (hf87 (x + 1 + 1) (by omega) (by omega))
        have wx3_at_87 : Wv ty ad F87 (x + 3) 67 (xb) := Wv.mv wx3_at_26 (hf87 (x + 3) (by omega) (by omega)) (hf87 (x + 3 + 1) (by omega) (by omega))
        have hFy_at_87 : F87 (y) = .inr (1, [.ref (ad (y + 1)), .ref (ad (y + 3)), .int (iI ((ys : Int)))]) := (hf87 (y) (by omega) (by omega)).trans hFy_at_26
        have wy1_at_87 : Wv ty ad F87 (y + 1) 67 (yt) := Wv.mv wy1_at_26 (hf87 (y + 1) (by omega) (by omega)) (hf87 (y + 1 + 1) (by omega) (by omega))
        have wy3_at_87 : Wv ty ad F87 (y + 3) 67 (yb) := Wv.mv wy3_at_26 (hf87 (y + 3) (by omega) (by omega)) (hf87 (y + 3 + 1) (by omega) (by omega))
        have w87_at_87 : Wv ty ad F87 (87) 136 (xt * yb) := Wv.mv w87_at_26 (hf87 (87) (by omega) (by omega)) (hf87 (87 + 1) (by omega) (by omega))
        have w89_at_87 : Wv ty ad F87 (89) 136 (yt * xb) := Wv.mv w89_at_26 (hf87 (89) (by omega) (by omega)) (hf87 (89 + 1) (by omega) (by omega))
        have w85_at_87 : Wv ty ad F87 (85) 136 (xb * yb) := Wv.mv w85_at_26 (hf87 (85) (by omega) (by omega)) (hf87 (85 + 1) (by omega) (by omega))
        have m26_82_at_87 : F87 (82) = .inr (4, [.ref (ad (83)), .ref (ad (85)), .ref (ad (87)), .ref (ad (89)), .ref (ad (91)), .ref (ad (93)), .int (iI ((xs : Int)))]) := (hf87 (82) (by omega) (by omega)).trans m26_82
        refine lv_goto (tgt := 117) hx hb d_B_add_90 (by decide) ?_
        rw [← hQ]
        exact pw_vret hx hb hr hlocks hw (⟨⟨xt * yb - yt * xb, xs, ⟨hbx, m26_82_at_87, w83, w85_at_87, (w87_at_87).a, (w89_at_87).a, w91_at_87, ⟨_, _, _, _, hD_at_87⟩, w94_at_87⟩, by rcases sg_cases xs (xt * yb) hbx with ⟨a1, a2⟩ | ⟨a1, a2⟩ <;> rcases sg_cases xs (xt * yb - yt * xb) hbx with ⟨b1, b2⟩ | ⟨b1, b2⟩ <;> rcases sg_cases s0 (yt * xb) hs0 with ⟨d1, d2⟩ | ⟨d1, d2⟩ <;> omega, (pr.toMd (hxt.mul hyb)).le (Nat.sub_le _ _)⟩, fun y9 h9 => (hf87 (y9) (by omega) (by omega)).trans ((show F26 (y9) = F18 (y9) from by rw [eF26]; exact va_up_ne _ _ (by omega)).trans ((hf18 (y9) (by omega) (by omega)).trans (hf3 (y9) (by omega))))⟩) d_B_add_117
    · refine lv_aload_n hx hb d_B_add_37 rfl (lv_at hl 0 rfl) ?_
      refine pw_get (ci := 4) (C := R_B) (T := T_B) (N := 7) hx hb hq i_B hown hw (by omega) m26_82 rfl 0 (by decide) (hq _ fl_B_16) (fun _ h9 => h9) rfl d_B_add_38 ?_
      refine lv_lconst (v := iL 1) hx hb d_B_add_41 (by decide) ?_
      refine lv_aload_n hx hb d_B_add_42 rfl (lv_at hl 0 rfl) ?_
      refine pw_get (ci := 4) (C := R_B) (T := T_B) (N := 7) hx hb hq i_B hown hw (by omega) m26_82 rfl 2 (by decide) (hq _ fl_B_23) (fun _ h9 => h9) rfl d_B_add_43 ?_
      refine lv_lconst (v := iL 1) hx hb d_B_add_46 (by decide) ?_
      refine lv_aload_n hx hb d_B_add_47 rfl (lv_at hl 0 rfl) ?_
      refine pw_get (ci := 4) (C := R_B) (T := T_B) (N := 7) hx hb hq i_B hown hw (by omega) m26_82 rfl 3 (by decide) (hq _ fl_B_26) (fun _ h9 => h9) rfl d_B_add_48 ?_
      refine pw_callv hw (va_runV (As := [.long (iL (1)), .ref (ad (87)), .long (iL (1)), .ref (ad (89))]) (rest := []) ⟨hx, hb, hml, hown, hq⟩ (c_W_becomeMix l D ty ad M F26 H.size (83) (87) (89) 136 136 136 (xt * yb) (yt * xb) (xt * yb + yt * xb) 1 1 (by omega) (by omega) (by omega) (by omega) (by omega) (by omega) (by omega) (by omega) (by omega) (by omega) (by omega) (by simp) ((hxt.mul hyb).toMd.f135) ((hyt.mul hxb).toMd.f135) (by omega) w87_at_26 w89_at_26 w83_at_26) (cwV 4 hq (gV ml_B_123 im_W_becomeMix se_W_becomeMix in_W m_W_becomeMix) rfl rfl rfl (by decide +kernel) ⟨Nat.le_of_ble_eq_true rfl, Nat.le_of_ble_eq_true rfl⟩) (pw_preWa hw (by omega) w83_at_26) rfl rfl hl.1 rfl (lv_room (Nat.le_of_ble_eq_true rfl)) d_B_add_51 ⟨Nat.le_of_ble_eq_true rfl, Nat.le_of_ble_eq_true rfl⟩) (fun F51 H locs q51 hw => ?_)
      obtain ⟨w83, hf51⟩ := q51
      have w91_at_51 : Wa ty ad F51 (91) 136 := Wa.mv w91_at_26 (hf51 (91) (by omega) (by omega)) (hf51 (91 + 1) (by omega) (by omega))
      have hD_at_51 : F51 (93) = .inr (3, [.ref (ad (93 + 1)), .long (f0), .long (g0), .long (h0), .long (k0)]) := (hf51 (93) (by omega) (by omega)).trans hD_at_26
      have w94_at_51 : Wa ty ad F51 (93 + 1) 136 := Wa.mv w94_at_26 (hf51 (93 + 1) (by omega) (by omega)) (hf51 (93 + 1 + 1) (by omega) (by omega))
      have hFx_at_51 : F51 (x) = .inr (1, [.ref (ad (x + 1)), .ref (ad (x + 3)), .int (iI ((xs : Int)))]) := (hf51 (x) (by omega) (by omega)).trans hFx_at_26
      have wx1_at_51 : Wv ty ad F51 (x + 1) 67 (xt) := Wv.mv wx1_at_26 (hf51 (x + 1) (by omega) (by omega)) (hf51 (x + 1 + 1) (by omega) (by omega))
      have wx3_at_51 : Wv ty ad F51 (x + 3) 67 (xb) := Wv.mv wx3_at_26 (hf51 (x + 3) (by omega) (by omega)) (hf51 (x + 3 + 1) (by omega) (by omega))
      have hFy_at_51 : F51 (y) = .inr (1, [.ref (ad (y + 1)), .ref (ad (y + 3)), .int (iI ((ys : Int)))]) := (hf51 (y) (by omega) (by omega)).trans hFy_at_26
      have wy1_at_51 : Wv ty ad F51 (y + 1) 67 (yt) := Wv.mv wy1_at_26 (hf51 (y + 1) (by omega) (by omega)) (hf51 (y + 1 + 1) (by omega) (by omega))
      have wy3_at_51 : Wv ty ad F51 (y + 3) 67 (yb) := Wv.mv wy3_at_26 (hf51 (y + 3) (by omega) (by omega)) (hf51 (y + 3 + 1) (by omega) (by omega))
      have w87_at_51 : Wv ty ad F51 (87) 136 (xt * yb) := Wv.mv w87_at_26 (hf51 (87) (by omega) (by omega)) (hf51 (87 + 1) (by omega) (by omega))
      have w89_at_51 : Wv ty ad F51 (89) 136 (yt * xb) := Wv.mv w89_at_26 (hf51 (89) (by omega) (by omega)) (hf51 (89 + 1) (by omega) (by omega))
      have w85_at_51 : Wv ty ad F51 (85) 136 (xb * yb) := Wv.mv w85_at_26 (hf51 (85) (by omega) (by omega)) (hf51 (85 + 1) (by omega) (by omega))
      have m26_82_at_51 : F51 (82) = .inr (4, [.ref (ad (83)), .ref (ad (85)), .ref (ad (87)), .ref (ad (89)), .ref (ad (91)), .ref (ad (93)), .int (iI ((xs : Int)))]) := (hf51 (82) (by omega) (by omega)).trans m26_82
      refine lv_goto (tgt := 117) hx hb d_B_add_54 (by decide) ?_
      rw [← hQ]
      exact pw_vret hx hb hr hlocks hw (⟨⟨xt * yb + yt * xb, xs, ⟨hbx, m26_82_at_51, w83, w85_at_51, (w87_at_51).a, (w89_at_51).a, w91_at_51, ⟨_, _, _, _, hD_at_51⟩, w94_at_51⟩, by rcases sg_cases xs (xt * yb) hbx with ⟨a1, a2⟩ | ⟨a1, a2⟩ <;> rcases sg_cases xs (xt * yb + yt * xb) hbx with ⟨b1, b2⟩ | ⟨b1, b2⟩ <;> rcases sg_cases s0 (yt * xb) hs0 with ⟨d1, d2⟩ | ⟨d1, d2⟩ <;> omega, pr.add (hxt.mul hyb) (hyt.mul hxb)⟩, fun y9 h9 => (hf51 (y9) (by omega) (by omega)).trans ((show F26 (y9) = F18 (y9) from by rw [eF26]; exact va_up_ne _ _ (by omega)).trans ((hf18 (y9) (by omega) (by omega)).trans (hf3 (y9) (by omega))))⟩) d_B_add_117
  rw [hH, hlo] at hgo
  exact hgo
