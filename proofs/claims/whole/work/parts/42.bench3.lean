/-! Bench: roundings, rests, divisors, powers: by program -/
set_option maxHeartbeats 4000000 in
set_option maxRecDepth 100000 in
/-- Bench.roundRatio(awayFromZero) -/
theorem c_B_roundRatio (l : Launch) (D : va_G) (ty : Nat → ClassId) (ad : Nat → Nat) (M : Nat) (F : Nat → va_E) (sz : Nat) (hM : 97 < M) (bb a b s0 : Nat) (hbb : bb ≤ 1) (hs0 : s0 ≤ 1) (hma : md a) (hB : F 82 = oB ad bb) (w83 : Wa ty ad F 83 136) (w85 : Wa ty ad F 85 136) (w87 : Wv ty ad F 87 136 a) (w89 : Wv ty ad F 89 136 b) (w91 : Wa ty ad F 91 136) (f0 g0 h0 k0 : Int64) (hD : F 93 = .inr (3, [.ref (ad (93 + 1)), .long f0, .long g0, .long h0, .long k0])) (w94 : Wa ty ad F (93 + 1) 136) :
    CV l y_B_roundRatio w_B_roundRatio ({ frames := 4, cells := 0, slots := 0, locals := 108 } : Room) [.ref (ad (82)), .int (iI ((s0 : Int)))] D ty ad M F sz (fun F1 => BnT ty ad F1 (if s0 = 1 ∧ a % b ≠ 0 then a / b + 1 else a / b) 1 bb ∧ frB F F1) := by
  refine Met.ofW (cc := b_B_roundRatio) (maxL := 2) (ret := none) (by decide) rfl ?_
  intro p e s m args below meth c s₁ B hml hv
  obtain ⟨rfl, hsz, hP, hK, hD0⟩ := hv
  have hx := B.exec
  have hb := B.bytes
  have hr := B.returns
  have hts := atoms_spec (ws := w_B_roundRatio) B.pre
  have hq : ∀ w ∈ wT, w.before _ s = true := fun w h => hts w (List.mem_cons_of_mem _ h)
  have hown : s.vm.findClass R_B = some m.cls := findClass_of_methodNamed B.named
  have hlocks := B.notSynchronized
  subst hsz
  have hw := pw_start hP hK hD0
  have hl := lv_entry ([.ref (ad (82)), .int (iI ((s0 : Int)))]) (n := 2) (Nat.le_of_ble_eq_true rfl)
  rw [lg_entry_eq]
  generalize (lg_sl ([.ref (ad (82)), .int (iI ((s0 : Int)))]) ++ List.replicate (2 - (lg_sl ([.ref (ad (82)), .int (iI ((s0 : Int)))])).length) Slot.unset).toArray = ls at hl ⊢
  have hl : lv_has ls 2 [(0, .ref (ad (82))), (1, .int (iI ((s0 : Int))))] := hl
  change W p l e ({ frames := 4, cells := 0, slots := 0, locals := 108 } : Room) s m ([.ref (ad (82)), .int (iI ((s0 : Int)))]).toArray below meth c s.heap [] 0 0 (MQ below (va_Qv (fun F1 => BnT ty ad F1 (if s0 = 1 ∧ a % b ≠ 0 then a / b + 1 else a / b) 1 bb ∧ frB F F1) (pAt D classes (tysL ty) ad M (pA ad M s.heap.size)) (pA ad M s.heap.size)) ([.ref (ad (82)), .int (iI ((s0 : Int)))]).toArray s 0 0 (pA ad M s.heap.size)) (F0 m 0 ls [])
  generalize hQ : MQ below (va_Qv (fun F1 => BnT ty ad F1 (if s0 = 1 ∧ a % b ≠ 0 then a / b + 1 else a / b) 1 bb ∧ frB F F1) (pAt D classes (tysL ty) ad M (pA ad M s.heap.size)) (pA ad M s.heap.size)) ([.ref (ad (82)), .int (iI ((s0 : Int)))]).toArray s 0 0 (pA ad M s.heap.size) = Q
  obtain ⟨H, hH⟩ : ∃ H, H = s.heap := ⟨_, rfl⟩
  obtain ⟨locs, hlo⟩ : ∃ z : List Loc, z = [] := ⟨_, rfl⟩
  have hw : pw D classes (tysL ty) ad M F (pA ad M s.heap.size) s H locs := by rw [hH, hlo]; exact hw
  have hgo : W p l e ({ frames := 4, cells := 0, slots := 0, locals := 108 } : Room) s m ([.ref (ad (82)), .int (iI ((s0 : Int)))]).toArray below meth c H locs 0 0 Q (F0 m 0 ls []) := by
    refine lv_aload_n hx hb d_B_roundRatio_0 rfl (lv_at hl 0 rfl) ?_
    refine pw_get (ci := 4) (C := R_B) (T := T_B) (N := 7) hx hb hq i_B hown hw (by omega) hB rfl 2 (by decide) (hq _ fl_B_23) (fun _ h9 => h9) rfl d_B_roundRatio_1 ?_
    refine lv_aload_n hx hb d_B_roundRatio_4 rfl (lv_at hl 0 rfl) ?_
    refine pw_get (ci := 4) (C := R_B) (T := T_B) (N := 7) hx hb hq i_B hown hw (by omega) hB rfl 3 (by decide) (hq _ fl_B_26) (fun _ h9 => h9) rfl d_B_roundRatio_5 ?_
    refine lv_aload_n hx hb d_B_roundRatio_8 rfl (lv_at hl 0 rfl) ?_
    refine pw_get (ci := 4) (C := R_B) (T := T_B) (N := 7) hx hb hq i_B hown hw (by omega) hB rfl 0 (by decide) (hq _ fl_B_16) (fun _ h9 => h9) rfl d_B_roundRatio_9 ?_
    refine pw_callv hw (va_runV (As := [.ref (ad (89)), .ref (ad (83))]) (rest := []) ⟨hx, hb, hml, hown, hq⟩ (c_W_leaveRest l D ty ad M F H.size (87) (89) (83) 136 136 136 (a) (b) (by omega) (by omega) (by omega) (by omega) (by omega) (by omega) (by omega) (by omega) (by omega) (by omega) (hma.f135) (hma.f136) w87 w89 w83) (cwV 2 hq (gV ml_B_63 im_W_leaveRest se_W_leaveRest in_W m_W_leaveRest) rfl rfl rfl (by decide +kernel) ⟨Nat.le_of_ble_eq_true rfl, Nat.le_of_ble_eq_true rfl⟩) (pw_preWa hw (by omega) ((w87).a)) rfl rfl hl.1 rfl (lv_room (Nat.le_of_ble_eq_true rfl)) d_B_roundRatio_12 ⟨Nat.le_of_ble_eq_true rfl, Nat.le_of_ble_eq_true rfl⟩) (fun F12 H locs q12 hw => ?_)
    obtain ⟨w87, w83, hf12⟩ := q12
    have hB_at_12 : F12 (82) = .inr (4, [.ref (ad (83)), .ref (ad (85)), .ref (ad (87)), .ref (ad (89)), .ref (ad (91)), .ref (ad (93)), .int (iI ((bb : Int)))]) := (hf12 (82) (by omega) (by omega) (by omega) (by omega)).trans hB
    have w85_at_12 : Wa ty ad F12 (85) 136 := Wa.mv w85 (hf12 (85) (by omega) (by omega) (by omega) (by omega)) (hf12 (85 + 1) (by omega) (by omega) (by omega) (by omega))
    have w89_at_12 : Wv ty ad F12 (89) 136 (b) := Wv.mv w89 (hf12 (89) (by omega) (by omega) (by omega) (by omega)) (hf12 (89 + 1) (by omega) (by omega) (by omega) (by omega))
    have w91_at_12 : Wa ty ad F12 (91) 136 := Wa.mv w91 (hf12 (91) (by omega) (by omega) (by omega) (by omega)) (hf12 (91 + 1) (by omega) (by omega) (by omega) (by omega))
    have hD_at_12 : F12 (93) = .inr (3, [.ref (ad (93 + 1)), .long (f0), .long (g0), .long (h0), .long (k0)]) := (hf12 (93) (by omega) (by omega) (by omega) (by omega)).trans hD
    have w94_at_12 : Wa ty ad F12 (93 + 1) 136 := Wa.mv w94 (hf12 (93 + 1) (by omega) (by omega) (by omega) (by omega)) (hf12 (93 + 1 + 1) (by omega) (by omega) (by omega) (by omega))
    refine lv_iload_n hx hb d_B_roundRatio_15 rfl (lv_at hl 1 rfl) ?_
    refine wz_if_eq (tgt := 38) hx hb d_B_roundRatio_16 (by decide) (by omega) (by omega) (fun c16 => ?_) (fun c16 => ?_)
    · refine lv_aload_n hx hb d_B_roundRatio_38 rfl (lv_at hl 0 rfl) ?_
      refine pw_get (ci := 4) (C := R_B) (T := T_B) (N := 7) hx hb hq i_B hown hw (by omega) hB_at_12 rfl 1 (by decide) (hq _ fl_B_20) (fun _ h9 => h9) rfl d_B_roundRatio_39 ?_
      refine lv_lconst (v := iL 1) hx hb d_B_roundRatio_42 (by decide) ?_
      refine pw_callv hw (va_runV (As := [.long (iL (1))]) (rest := []) ⟨hx, hb, hml, hown, hq⟩ (c_W_becomeLong l D ty ad M F12 H.size (85) 136 (1) (by omega) (by omega) (by omega) (by omega) w85_at_12) (cwV 1 hq (gV ml_B_83 im_W_becomeLong se_W_becomeLong in_W m_W_becomeLong) rfl rfl rfl (by decide +kernel) ⟨Nat.le_of_ble_eq_true rfl, Nat.le_of_ble_eq_true rfl⟩) (pw_preWa hw (by omega) w85_at_12) rfl rfl hl.1 rfl (lv_room (Nat.le_of_ble_eq_true rfl)) d_B_roundRatio_43 ⟨Nat.le_of_ble_eq_true rfl, Nat.le_of_ble_eq_true rfl⟩) (fun F43 H locs q43 hw => ?_)
      obtain ⟨w85, hf43⟩ := q43
      have hB_at_43 : F43 (82) = .inr (4, [.ref (ad (83)), .ref (ad (85)), .ref (ad (87)), .ref (ad (89)), .ref (ad (91)), .ref (ad (93)), .int (iI ((bb : Int)))]) := (hf43 (82) (by omega) (by omega)).trans hB_at_12
      have w89_at_43 : Wv ty ad F43 (89) 136 (b) := Wv.mv w89_at_12 (hf43 (89) (by omega) (by omega)) (hf43 (89 + 1) (by omega) (by omega))
      have w91_at_43 : Wa ty ad F43 (91) 136 := Wa.mv w91_at_12 (hf43 (91) (by omega) (by omega)) (hf43 (91 + 1) (by omega) (by omega))
      have hD_at_43 : F43 (93) = .inr (3, [.ref (ad (93 + 1)), .long (f0), .long (g0), .long (h0), .long (k0)]) := (hf43 (93) (by omega) (by omega)).trans hD_at_12
      have w94_at_43 : Wa ty ad F43 (93 + 1) 136 := Wa.mv w94_at_12 (hf43 (93 + 1) (by omega) (by omega)) (hf43 (93 + 1 + 1) (by omega) (by omega))
      have w87_at_43 : Wv ty ad F43 (87) 136 (a % b) := Wv.mv w87 (hf43 (87) (by omega) (by omega)) (hf43 (87 + 1) (by omega) (by omega))
      have w83_at_43 : Wv ty ad F43 (83) 136 (a / b) := Wv.mv w83 (hf43 (83) (by omega) (by omega)) (hf43 (83 + 1) (by omega) (by omega))
      rw [← hQ]
      exact pw_vret hx hb hr hlocks hw (⟨⟨hbb, hB_at_43, by rw [if_neg (fun h9 => absurd h9.1 (by omega))]; exact w83_at_43, w85, (w87_at_43).a, (w89_at_43).a, w91_at_43, ⟨_, _, _, _, hD_at_43⟩, w94_at_43⟩, fun y9 h9 => (hf43 (y9) (by omega) (by omega)).trans (hf12 (y9) (by omega) (by omega) (by omega) (by omega))⟩) d_B_roundRatio_46
    · refine lv_aload_n hx hb d_B_roundRatio_19 rfl (lv_at hl 0 rfl) ?_
      refine pw_get (ci := 4) (C := R_B) (T := T_B) (N := 7) hx hb hq i_B hown hw (by omega) hB_at_12 rfl 2 (by decide) (hq _ fl_B_23) (fun _ h9 => h9) rfl d_B_roundRatio_20 ?_
      refine pw_calli hw (va_runV (As := []) (rest := []) ⟨hx, hb, hml, hown, hq⟩ (c_W_isZero l D ty ad M F12 H.size (87) 136 (a % b) (by omega) (by omega) w87) (cwV 0 hq (gV ml_B_73 im_W_isZero se_W_isZero in_W m_W_isZero) rfl rfl rfl (by decide +kernel) ⟨Nat.le_of_ble_eq_true rfl, Nat.le_of_ble_eq_true rfl⟩) (pw_preWa hw (by omega) ((w87).a)) rfl rfl hl.1 rfl (lv_room (Nat.le_of_ble_eq_true rfl)) d_B_roundRatio_23 ⟨Nat.le_of_ble_eq_true rfl, Nat.le_of_ble_eq_true rfl⟩) (fun r23 F23 H locs q23 hw => ?_)
      obtain ⟨er23, eF23⟩ := q23
      rw [eF23] at hw
      clear eF23
      subst er23
      refine wz_if_ne (tgt := 38) hx hb d_B_roundRatio_26 (by decide) (by split <;> omega) (by split <;> omega) (fun c26 => ?_) (fun c26 => ?_)
      · have hz := ite_nz.mp c26
        refine lv_aload_n hx hb d_B_roundRatio_38 rfl (lv_at hl 0 rfl) ?_
        refine pw_get (ci := 4) (C := R_B) (T := T_B) (N := 7) hx hb hq i_B hown hw (by omega) hB_at_12 rfl 1 (by decide) (hq _ fl_B_20) (fun _ h9 => h9) rfl d_B_roundRatio_39 ?_
        refine lv_lconst (v := iL 1) hx hb d_B_roundRatio_42 (by decide) ?_
        refine pw_callv hw (va_runV (As := [.long (iL (1))]) (rest := []) ⟨hx, hb, hml, hown, hq⟩ (c_W_becomeLong l D ty ad M F12 H.size (85) 136 (1) (by omega) (by omega) (by omega) (by omega) w85_at_12) (cwV 1 hq (gV ml_B_83 im_W_becomeLong se_W_becomeLong in_W m_W_becomeLong) rfl rfl rfl (by decide +kernel) ⟨Nat.le_of_ble_eq_true rfl, Nat.le_of_ble_eq_true rfl⟩) (pw_preWa hw (by omega) w85_at_12) rfl rfl hl.1 rfl (lv_room (Nat.le_of_ble_eq_true rfl)) d_B_roundRatio_43 ⟨Nat.le_of_ble_eq_true rfl, Nat.le_of_ble_eq_true rfl⟩) (fun F43 H locs q43 hw => ?_)
        obtain ⟨w85, hf43⟩ := q43
        have hB_at_43 : F43 (82) = .inr (4, [.ref (ad (83)), .ref (ad (85)), .ref (ad (87)), .ref (ad (89)), .ref (ad (91)), .ref (ad (93)), .int (iI ((bb : Int)))]) := (hf43 (82) (by omega) (by omega)).trans hB_at_12
        have w89_at_43 : Wv ty ad F43 (89) 136 (b) := Wv.mv w89_at_12 (hf43 (89) (by omega) (by omega)) (hf43 (89 + 1) (by omega) (by omega))
        have w91_at_43 : Wa ty ad F43 (91) 136 := Wa.mv w91_at_12 (hf43 (91) (by omega) (by omega)) (hf43 (91 + 1) (by omega) (by omega))
        have hD_at_43 : F43 (93) = .inr (3, [.ref (ad (93 + 1)), .long (f0), .long (g0), .long (h0), .long (k0)]) := (hf43 (93) (by omega) (by omega)).trans hD_at_12
        have w94_at_43 : Wa ty ad F43 (93 + 1) 136 := Wa.mv w94_at_12 (hf43 (93 + 1) (by omega) (by omega)) (hf43 (93 + 1 + 1) (by omega) (by omega))
        have w87_at_43 : Wv ty ad F43 (87) 136 (a % b) := Wv.mv w87 (hf43 (87) (by omega) (by omega)) (hf43 (87 + 1) (by omega) (by omega))
        have w83_at_43 : Wv ty ad F43 (83) 136 (a / b) := Wv.mv w83 (hf43 (83) (by omega) (by omega)) (hf43 (83 + 1) (by omega) (by omega))
        rw [← hQ]
        exact pw_vret hx hb hr hlocks hw (⟨⟨hbb, hB_at_43, by rw [if_neg (fun h9 => h9.2 hz)]; exact w83_at_43, w85, (w87_at_43).a, (w89_at_43).a, w91_at_43, ⟨_, _, _, _, hD_at_43⟩, w94_at_43⟩, fun y9 h9 => (hf43 (y9) (by omega) (by omega)).trans (hf12 (y9) (by omega) (by omega) (by omega) (by omega))⟩) d_B_roundRatio_46
      · have hz := ite_z.mp c26
        refine lv_aload_n hx hb d_B_roundRatio_29 rfl (lv_at hl 0 rfl) ?_
        refine pw_get (ci := 4) (C := R_B) (T := T_B) (N := 7) hx hb hq i_B hown hw (by omega) hB_at_12 rfl 0 (by decide) (hq _ fl_B_16) (fun _ h9 => h9) rfl d_B_roundRatio_30 ?_
        refine wz_iconst (n := 1) hx hb d_B_roundRatio_33 ?_
        refine wz_iconst (n := 1) hx hb d_B_roundRatio_34 ?_
        refine pw_callv hw (va_runV (As := [.int (iI (1)), .int (iI (1))]) (rest := []) ⟨hx, hb, hml, hown, hq⟩ (c_W_timesPlus l D ty ad M F12 H.size 83 136 (a / b) 1 1 (by omega) (by omega) w83 (by omega) (by omega) (by omega) (hma.div).succ) (cwV 2 hq (gV ml_B_133 im_W_timesPlus se_W_timesPlus in_W m_W_timesPlus) rfl rfl rfl (by decide +kernel) ⟨Nat.le_of_ble_eq_true rfl, Nat.le_of_ble_eq_true rfl⟩) (pw_preWa hw (by omega) ((w83).a)) rfl rfl hl.1 rfl (lv_room (Nat.le_of_ble_eq_true rfl)) d_B_roundRatio_35 ⟨Nat.le_of_ble_eq_true rfl, Nat.le_of_ble_eq_true rfl⟩) (fun F35 H locs q35 hw => ?_)
        obtain ⟨w83, hf35⟩ := q35
        rw [Nat.one_mul] at w83
        have hB_at_35 : F35 (82) = .inr (4, [.ref (ad (83)), .ref (ad (85)), .ref (ad (87)), .ref (ad (89)), .ref (ad (91)), .ref (ad (93)), .int (iI ((bb : Int)))]) := (hf35 (82) (by omega) (by omega)).trans hB_at_12
        have w85_at_35 : Wa ty ad F35 (85) 136 := Wa.mv w85_at_12 (hf35 (85) (by omega) (by omega)) (hf35 (85 + 1) (by omega) (by omega))
        have w89_at_35 : Wv ty ad F35 (89) 136 (b) := Wv.mv w89_at_12 (hf35 (89) (by omega) (by omega)) (hf35 (89 + 1) (by omega) (by omega))
        have w91_at_35 : Wa ty ad F35 (91) 136 := Wa.mv w91_at_12 (hf35 (91) (by omega) (by omega)) (hf35 (91 + 1) (by omega) (by omega))
        have hD_at_35 : F35 (93) = .inr (3, [.ref (ad (93 + 1)), .long (f0), .long (g0), .long (h0), .long (k0)]) := (hf35 (93) (by omega) (by omega)).trans hD_at_12
        have w94_at_35 : Wa ty ad F35 (93 + 1) 136 := Wa.mv w94_at_12 (hf35 (93 + 1) (by omega) (by omega)) (hf35 (93 + 1 + 1) (by omega) (by omega))
        have w87_at_35 : Wv ty ad F35 (87) 136 (a % b) := Wv.mv w87 (hf35 (87) (by omega) (by omega)) (hf35 (87 + 1) (by omega) (by omega))
        refine lv_aload_n hx hb d_B_roundRatio_38 rfl (lv_at hl 0 rfl) ?_
        refine pw_get (ci := 4) (C := R_B) (T := T_B) (N := 7) hx hb hq i_B hown hw (by omega) hB_at_35 rfl 1 (by decide) (hq _ fl_B_20) (fun _ h9 => h9) rfl d_B_roundRatio_39 ?_
        refine lv_lconst (v := iL 1) hx hb d_B_roundRatio_42 (by decide) ?_
        refine pw_callv hw (va_runV (As := [.long (iL (1))]) (rest := []) ⟨hx, hb, hml, hown, hq⟩ (c_W_becomeLong l D ty ad M F35 H.size (85) 136 (1) (by omega) (by omega) (by omega) (by omega) w85_at_35) (cwV 1 hq (gV ml_B_83 im_W_becomeLong se_W_becomeLong in_W m_W_becomeLong) rfl rfl rfl (by decide +kernel) ⟨Nat.le_of_ble_eq_true rfl, Nat.le_of_ble_eq_true rfl⟩) (pw_preWa hw (by omega) w85_at_35) rfl rfl hl.1 rfl (lv_room (Nat.le_of_ble_eq_true rfl)) d_B_roundRatio_43 ⟨Nat.le_of_ble_eq_true rfl, Nat.le_of_ble_eq_true rfl⟩) (fun F43 H locs q43 hw => ?_)
        obtain ⟨w85, hf43⟩ := q43
        have hB_at_43 : F43 (82) = .inr (4, [.ref (ad (83)), .ref (ad (85)), .ref (ad (87)), .ref (ad (89)), .ref (ad (91)), .ref (ad (93)), .int (iI ((bb : Int)))]) := (hf43 (82) (by omega) (by omega)).trans hB_at_35
        have w89_at_43 : Wv ty ad F43 (89) 136 (b) := Wv.mv w89_at_35 (hf43 (89) (by omega) (by omega)) (hf43 (89 + 1) (by omega) (by omega))
        have w91_at_43 : Wa ty ad F43 (91) 136 := Wa.mv w91_at_35 (hf43 (91) (by omega) (by omega)) (hf43 (91 + 1) (by omega) (by omega))
        have hD_at_43 : F43 (93) = .inr (3, [.ref (ad (93 + 1)), .long (f0), .long (g0), .long (h0), .long (k0)]) := (hf43 (93) (by omega) (by omega)).trans hD_at_35
        have w94_at_43 : Wa ty ad F43 (93 + 1) 136 := Wa.mv w94_at_35 (hf43 (93 + 1) (by omega) (by omega)) (hf43 (93 + 1 + 1) (by omega) (by omega))
        have w87_at_43 : Wv ty ad F43 (87) 136 (a % b) := Wv.mv w87_at_35 (hf43 (87) (by omega) (by omega)) (hf43 (87 + 1) (by omega) (by omega))
        have w83_at_43 : Wv ty ad F43 (83) 136 (a / b + 1) := Wv.mv w83 (hf43 (83) (by omega) (by omega)) (hf43 (83 + 1) (by omega) (by omega))
        rw [← hQ]
        exact pw_vret hx hb hr hlocks hw (⟨⟨hbb, hB_at_43, by rw [if_pos ⟨by omega, hz⟩]; exact w83_at_43, w85, (w87_at_43).a, (w89_at_43).a, w91_at_43, ⟨_, _, _, _, hD_at_43⟩, w94_at_43⟩, fun y9 h9 => (hf43 (y9) (by omega) (by omega)).trans ((hf35 (y9) (by omega) (by omega)).trans (hf12 (y9) (by omega) (by omega) (by omega) (by omega)))⟩) d_B_roundRatio_46
  rw [hH, hlo] at hgo
  exact hgo
set_option maxHeartbeats 4000000 in
set_option maxRecDepth 100000 in
/-- Bench.round(x, awayFromZero) -/
theorem c_B_round (l : Launch) (D : va_G) (ty : Nat → ClassId) (ad : Nat → Nat) (M : Nat) (F : Nat → va_E) (sz : Nat) (hM : 97 < M) (hBn : Bn ty ad F)(x xt xb xs : Nat) (hMx : x + 4 < M) (hRx : Frc ty ad F x xt xb xs) (hx82 : x + 4 < 82) (hxt : sm xt) (hxb : sm xb) (s0 : Nat) (hs0 : s0 ≤ 1) :
    CV l y_B_round w_B_round ({ frames := 5, cells := 0, slots := 0, locals := 129 } : Room) [.ref (ad (82)), .ref (ad (x)), .int (iI ((s0 : Int)))] D ty ad M F sz (fun F1 => BnT ty ad F1 (if s0 = 1 ∧ xt % xb ≠ 0 then xt / xb + 1 else xt / xb) 1 xs ∧ frB F F1) := by
  refine Met.ofW (cc := b_B_round) (maxL := 3) (ret := none) (by decide) rfl ?_
  intro p e s m args below meth c s₁ B hml hv
  obtain ⟨rfl, hsz, hP, hK, hD0⟩ := hv
  have hx := B.exec
  have hb := B.bytes
  have hr := B.returns
  have hts := atoms_spec (ws := w_B_round) B.pre
  have hq : ∀ w ∈ wT, w.before _ s = true := fun w h => hts w (List.mem_cons_of_mem _ h)
  have hown : s.vm.findClass R_B = some m.cls := findClass_of_methodNamed B.named
  have hlocks := B.notSynchronized
  subst hsz
  have hw := pw_start hP hK hD0
  have hl := lv_entry ([.ref (ad (82)), .ref (ad (x)), .int (iI ((s0 : Int)))]) (n := 3) (Nat.le_of_ble_eq_true rfl)
  rw [lg_entry_eq]
  generalize (lg_sl ([.ref (ad (82)), .ref (ad (x)), .int (iI ((s0 : Int)))]) ++ List.replicate (3 - (lg_sl ([.ref (ad (82)), .ref (ad (x)), .int (iI ((s0 : Int)))])).length) Slot.unset).toArray = ls at hl ⊢
  have hl : lv_has ls 3 [(0, .ref (ad (82))), (1, .ref (ad (x))), (2, .int (iI ((s0 : Int))))] := hl
  change W p l e ({ frames := 5, cells := 0, slots := 0, locals := 129 } : Room) s m ([.ref (ad (82)), .ref (ad (x)), .int (iI ((s0 : Int)))]).toArray below meth c s.heap [] 0 0 (MQ below (va_Qv (fun F1 => BnT ty ad F1 (if s0 = 1 ∧ xt % xb ≠ 0 then xt / xb + 1 else xt / xb) 1 xs ∧ frB F F1) (pAt D classes (tysL ty) ad M (pA ad M s.heap.size)) (pA ad M s.heap.size)) ([.ref (ad (82)), .ref (ad (x)), .int (iI ((s0 : Int)))]).toArray s 0 0 (pA ad M s.heap.size)) (F0 m 0 ls [])
  generalize hQ : MQ below (va_Qv (fun F1 => BnT ty ad F1 (if s0 = 1 ∧ xt % xb ≠ 0 then xt / xb + 1 else xt / xb) 1 xs ∧ frB F F1) (pAt D classes (tysL ty) ad M (pA ad M s.heap.size)) (pA ad M s.heap.size)) ([.ref (ad (82)), .ref (ad (x)), .int (iI ((s0 : Int)))]).toArray s 0 0 (pA ad M s.heap.size) = Q
  obtain ⟨H, hH⟩ : ∃ H, H = s.heap := ⟨_, rfl⟩
  obtain ⟨locs, hlo⟩ : ∃ z : List Loc, z = [] := ⟨_, rfl⟩
  have hw : pw D classes (tysL ty) ad M F (pA ad M s.heap.size) s H locs := by rw [hH, hlo]; exact hw
  have hgo : W p l e ({ frames := 5, cells := 0, slots := 0, locals := 129 } : Room) s m ([.ref (ad (82)), .ref (ad (x)), .int (iI ((s0 : Int)))]).toArray below meth c H locs 0 0 Q (F0 m 0 ls []) := by
    obtain ⟨⟨bb, hbb, hB⟩, w83, w85, w87, w89, w91, ⟨f0, g0, h0, k0, hD⟩, w94⟩ := hBn
    obtain ⟨hbx, hFx, wx1, wx3⟩ := hRx
    refine lv_aload_n hx hb d_B_round_0 rfl (lv_at hl 0 rfl) ?_
    refine pw_get (ci := 4) (C := R_B) (T := T_B) (N := 7) hx hb hq i_B hown hw (by omega) hB rfl 2 (by decide) (hq _ fl_B_23) (fun _ h9 => h9) rfl d_B_round_1 ?_
    refine lv_aload_n hx hb d_B_round_4 rfl (lv_at hl 1 rfl) ?_
    refine pw_get (ci := 1) (C := R_F) (T := T_F) (N := 3) hx hb hq i_F hown hw (by omega) hFx rfl 0 (by decide) (hq _ fl_B_69) (fun _ h9 => h9) rfl d_B_round_5 ?_
    refine pw_callv hw (va_runV (As := [.ref (ad (x + 1))]) (rest := []) ⟨hx, hb, hml, hown, hq⟩ (c_W_become l D ty ad M F H.size (87) (x + 1) 136 67 (xt) (by omega) (by omega) (by omega) (by omega) (by omega) (hxt.f136) w87 wx1) (cwV 1 hq (gV ml_B_47 im_W_become se_W_become in_W m_W_become) rfl rfl rfl (by decide +kernel) ⟨Nat.le_of_ble_eq_true rfl, Nat.le_of_ble_eq_true rfl⟩) (pw_preWa hw (by omega) w87) rfl rfl hl.1 rfl (lv_room (Nat.le_of_ble_eq_true rfl)) d_B_round_8 ⟨Nat.le_of_ble_eq_true rfl, Nat.le_of_ble_eq_true rfl⟩) (fun F8 H locs q8 hw => ?_)
    obtain ⟨w87, hf8⟩ := q8
    have hB_at_8 : F8 (82) = .inr (4, [.ref (ad (83)), .ref (ad (85)), .ref (ad (87)), .ref (ad (89)), .ref (ad (91)), .ref (ad (93)), .int (iI ((bb : Int)))]) := (hf8 (82) (by omega) (by omega)).trans hB
    have w83_at_8 : Wa ty ad F8 (83) 136 := Wa.mv w83 (hf8 (83) (by omega) (by omega)) (hf8 (83 + 1) (by omega) (by omega))
    have w85_at_8 : Wa ty ad F8 (85) 136 := Wa.mv w85 (hf8 (85) (by omega) (by omega)) (hf8 (85 + 1) (by omega) (by omega))
    have w89_at_8 : Wa ty ad F8 (89) 136 := Wa.mv w89 (hf8 (89) (by omega) (by omega)) (hf8 (89 + 1) (by omega) (by omega))
    have w91_at_8 : Wa ty ad F8 (91) 136 := Wa.mv w91 (hf8 (91) (by omega) (by omega)) (hf8 (91 + 1) (by omega) (by omega))
    have hD_at_8 : F8 (93) = .inr (3, [.ref (ad (93 + 1)), .long (f0), .long (g0), .long (h0), .long (k0)]) := (hf8 (93) (by omega) (by omega)).trans hD
    have w94_at_8 : Wa ty ad F8 (93 + 1) 136 := Wa.mv w94 (hf8 (93 + 1) (by omega) (by omega)) (hf8 (93 + 1 + 1) (by omega) (by omega))
    have hFx_at_8 : F8 (x) = .inr (1, [.ref (ad (x + 1)), .ref (ad (x + 3)), .int (iI ((xs : Int)))]) := (hf8 (x) (by omega) (by omega)).trans hFx
    have wx1_at_8 : Wv ty ad F8 (x + 1) 67 (xt) := Wv.mv wx1 (hf8 (x + 1) (by omega) (by omega)) (hf8 (x + 1 + 1) (by omega) (by omega))
    have wx3_at_8 : Wv ty ad F8 (x + 3) 67 (xb) := Wv.mv wx3 (hf8 (x + 3) (by omega) (by omega)) (hf8 (x + 3 + 1) (by omega) (by omega))
    refine lv_aload_n hx hb d_B_round_11 rfl (lv_at hl 0 rfl) ?_
    refine pw_get (ci := 4) (C := R_B) (T := T_B) (N := 7) hx hb hq i_B hown hw (by omega) hB_at_8 rfl 3 (by decide) (hq _ fl_B_26) (fun _ h9 => h9) rfl d_B_round_12 ?_
    refine lv_aload_n hx hb d_B_round_15 rfl (lv_at hl 1 rfl) ?_
    refine pw_get (ci := 1) (C := R_F) (T := T_F) (N := 3) hx hb hq i_F hown hw (by omega) hFx_at_8 rfl 1 (by decide) (hq _ fl_B_72) (fun _ h9 => h9) rfl d_B_round_16 ?_
    refine pw_callv hw (va_runV (As := [.ref (ad (x + 3))]) (rest := []) ⟨hx, hb, hml, hown, hq⟩ (c_W_become l D ty ad M F8 H.size (89) (x + 3) 136 67 (xb) (by omega) (by omega) (by omega) (by omega) (by omega) (hxb.f136) w89_at_8 wx3_at_8) (cwV 1 hq (gV ml_B_47 im_W_become se_W_become in_W m_W_become) rfl rfl rfl (by decide +kernel) ⟨Nat.le_of_ble_eq_true rfl, Nat.le_of_ble_eq_true rfl⟩) (pw_preWa hw (by omega) w89_at_8) rfl rfl hl.1 rfl (lv_room (Nat.le_of_ble_eq_true rfl)) d_B_round_19 ⟨Nat.le_of_ble_eq_true rfl, Nat.le_of_ble_eq_true rfl⟩) (fun F19 H locs q19 hw => ?_)
    obtain ⟨w89, hf19⟩ := q19
    have hB_at_19 : F19 (82) = .inr (4, [.ref (ad (83)), .ref (ad (85)), .ref (ad (87)), .ref (ad (89)), .ref (ad (91)), .ref (ad (93)), .int (iI ((bb : Int)))]) := (hf19 (82) (by omega) (by omega)).trans hB_at_8
    have w83_at_19 : Wa ty ad F19 (83) 136 := Wa.mv w83_at_8 (hf19 (83) (by omega) (by omega)) (hf19 (83 + 1) (by omega) (by omega))
    have w85_at_19 : Wa ty ad F19 (85) 136 := Wa.mv w85_at_8 (hf19 (85) (by omega) (by omega)) (hf19 (85 + 1) (by omega) (by omega))
    have w91_at_19 : Wa ty ad F19 (91) 136 := Wa.mv w91_at_8 (hf19 (91) (by omega) (by omega)) (hf19 (91 + 1) (by omega) (by omega))
    have hD_at_19 : F19 (93) = .inr (3, [.ref (ad (93 + 1)), .long (f0), .long (g0), .long (h0), .long (k0)]) := (hf19 (93) (by omega) (by omega)).trans hD_at_8
    have w94_at_19 : Wa ty ad F19 (93 + 1) 136 := Wa.mv w94_at_8 (hf19 (93 + 1) (by omega) (by omega)) (hf19 (93 + 1 + 1) (by omega) (by omega))
    have hFx_at_19 : F19 (x) = .inr (1, [.ref (ad (x + 1)), .ref (ad (x + 3)), .int (iI ((xs : Int)))]) := (hf19 (x) (by omega) (by omega)).trans hFx_at_8
    have wx1_at_19 : Wv ty ad F19 (x + 1) 67 (xt) := Wv.mv wx1_at_8 (hf19 (x + 1) (by omega) (by omega)) (hf19 (x + 1 + 1) (by omega) (by omega))
    have wx3_at_19 : Wv ty ad F19 (x + 3) 67 (xb) := Wv.mv wx3_at_8 (hf19 (x + 3) (by omega) (by omega)) (hf19 (x + 3 + 1) (by omega) (by omega))
    have w87_at_19 : Wv ty ad F19 (87) 136 (xt) := Wv.mv w87 (hf19 (87) (by omega) (by omega)) (hf19 (87 + 1) (by omega) (by omega))
    refine lv_aload_n hx hb d_B_round_22 rfl (lv_at hl 0 rfl) ?_
    refine lv_aload_n hx hb d_B_round_23 rfl (lv_at hl 1 rfl) ?_
    refine pw_get (ci := 1) (C := R_F) (T := T_F) (N := 3) hx hb hq i_F hown hw (by omega) hFx_at_19 rfl 2 (by decide) (hq _ fl_B_76) (fun _ h9 => h9) rfl d_B_round_24 ?_
    refine pw_put (ci := 4) (C := R_B) (T := T_B) (N := 7) (ty := .boolean) (fs' := [.ref (ad (83)), .ref (ad (85)), .ref (ad (87)), .ref (ad (89)), .ref (ad (91)), .ref (ad (93)), .int (iI ((xs : Int)))]) hx hb hq i_B ft_B ft_B_ok n_B hown hw (by omega) hB_at_19 rfl 6 (by decide) (hq _ fl_B_39) (fun _ h9 => h9) rfl (by decide +kernel) (nar_bb hbx) (fit_bb hbx) (Nat.le_of_ble_eq_true rfl) rfl d_B_round_27 (fun F27 H locs eF27 hw => ?_)
    have m27_82 : F27 (82) = .inr (4, [.ref (ad (83)), .ref (ad (85)), .ref (ad (87)), .ref (ad (89)), .ref (ad (91)), .ref (ad (93)), .int (iI ((xs : Int)))]) := by rw [eF27]; exact va_up_self ..
    have w83_at_27 : Wa ty ad F27 (83) 136 := Wa.mv w83_at_19 (show F27 (83) = F19 (83) from by rw [eF27]; exact va_up_ne _ _ (by omega)) (show F27 (83 + 1) = F19 (83 + 1) from by rw [eF27]; exact va_up_ne _ _ (by omega))
    have w85_at_27 : Wa ty ad F27 (85) 136 := Wa.mv w85_at_19 (show F27 (85) = F19 (85) from by rw [eF27]; exact va_up_ne _ _ (by omega)) (show F27 (85 + 1) = F19 (85 + 1) from by rw [eF27]; exact va_up_ne _ _ (by omega))
    have w91_at_27 : Wa ty ad F27 (91) 136 := Wa.mv w91_at_19 (show F27 (91) = F19 (91) from by rw [eF27]; exact va_up_ne _ _ (by omega)) (show F27 (91 + 1) = F19 (91 + 1) from by rw [eF27]; exact va_up_ne _ _ (by omega))
    have hD_at_27 : F27 (93) = .inr (3, [.ref (ad (93 + 1)), .long (f0), .long (g0), .long (h0), .long (k0)]) := (show F27 (93) = F19 (93) from by rw [eF27]; exact va_up_ne _ _ (by omega)).trans hD_at_19
    have w94_at_27 : Wa ty ad F27 (93 + 1) 136 := Wa.mv w94_at_19 (show F27 (93 + 1) = F19 (93 + 1) from by rw [eF27]; exact va_up_ne _ _ (by omega)) (show F27 (93 + 1 + 1) = F19 (93 + 1 + 1) from by rw [eF27]; exact va_up_ne _ _ (by omega))
    have hFx_at_27 : F27 (x) = .inr (1, [.ref (ad (x + 1)), .ref (ad (x + 3)), .int (iI ((xs : Int)))]) := (show F27 (x) = F19 (x) from by rw [eF27]; exact va_up_ne _ _ (by omega)).trans hFx_at_19
    have wx1_at_27 : Wv ty ad F27 (x + 1) 67 (xt) := Wv.mv wx1_at_19 (show F27 (x + 1) = F19 (x + 1) from by rw [eF27]; exact va_up_ne _ _ (by omega)) (show F27 (x + 1 + 1) = F19 (x + 1 + 1) from by rw [eF27]; exact va_up_ne _ _ (by omega))
    have wx3_at_27 : Wv ty ad F27 (x + 3) 67 (xb) := Wv.mv wx3_at_19 (show F27 (x + 3) = F19 (x + 3) from by rw [eF27]; exact va_up_ne _ _ (by omega)) (show F27 (x + 3 + 1) = F19 (x + 3 + 1) from by rw [eF27]; exact va_up_ne _ _ (by omega))
    have w87_at_27 : Wv ty ad F27 (87) 136 (xt) := Wv.mv w87_at_19 (show F27 (87) = F19 (87) from by rw [eF27]; exact va_up_ne _ _ (by omega)) (show F27 (87 + 1) = F19 (87 + 1) from by rw [eF27]; exact va_up_ne _ _ (by omega))
    have w89_at_27 : Wv ty ad F27 (89) 136 (xb) := Wv.mv w89 (show F27 (89) = F19 (89) from by rw [eF27]; exact va_up_ne _ _ (by omega)) (show F27 (89 + 1) = F19 (89 + 1) from by rw [eF27]; exact va_up_ne _ _ (by omega))
    refine lv_aload_n hx hb d_B_round_30 rfl (lv_at hl 0 rfl) ?_
    refine lv_iload_n hx hb d_B_round_31 rfl (lv_at hl 2 rfl) ?_
    refine pw_callv hw (va_runV (As := [.int (iI ((s0 : Int)))]) (rest := []) ⟨hx, hb, hml, hown, hq⟩ (c_B_roundRatio l D ty ad M F27 H.size hM xs xt xb s0 hbx hs0 hxt.toMd m27_82 w83_at_27 w85_at_27 w87_at_27 w89_at_27 w91_at_27 f0 g0 h0 k0 hD_at_27 w94_at_27) (cwV 1 hq (gV ml_B_129 im_B_roundRatio se_B_roundRatio in_B m_B_roundRatio) rfl rfl rfl (by decide +kernel) ⟨Nat.le_of_ble_eq_true rfl, Nat.le_of_ble_eq_true rfl⟩) (pw_preV hw (by omega) m27_82 rfl) rfl rfl hl.1 rfl (lv_room (Nat.le_of_ble_eq_true rfl)) d_B_round_32 ⟨Nat.le_of_ble_eq_true rfl, Nat.le_of_ble_eq_true rfl⟩) (fun F32 H locs q32 hw => ?_)
    obtain ⟨hT, hf32⟩ := q32
    rw [← hQ]
    exact pw_vret hx hb hr hlocks hw (⟨hT, fun y9 h9 => (hf32 y9 h9).trans ((show F27 (y9) = F19 (y9) from by rw [eF27]; exact va_up_ne _ _ (by omega)).trans ((hf19 (y9) (by omega) (by omega)).trans (hf8 (y9) (by omega) (by omega))))⟩) d_B_round_35
  rw [hH, hlo] at hgo
  exact hgo
set_option maxHeartbeats 4000000 in
set_option maxRecDepth 100000 in
/-- Bench.divideWhole(x, y) -/
theorem c_B_divideWhole (l : Launch) (D : va_G) (ty : Nat → ClassId) (ad : Nat → Nat) (M : Nat) (F : Nat → va_E) (sz : Nat) (hM : 97 < M) (hBn : Bn ty ad F)(x xt xb xs : Nat) (hMx : x + 4 < M) (hRx : Frc ty ad F x xt xb xs) (hx82 : x + 4 < 82) (hxt : sm xt) (hxb : sm xb) (y yt yb ys : Nat) (hMy : y + 4 < M) (hRy : Frc ty ad F y yt yb ys) (hy82 : y + 4 < 82) (hyt : sm yt) (hyb : sm yb)  :
    CV l y_B_divideWhole w_B_divideWhole ({ frames := 5, cells := 0, slots := 0, locals := 129 } : Room) [.ref (ad (82)), .ref (ad (x)), .ref (ad (y))] D ty ad M F sz (fun F1 => BnT ty ad F1 (if (if xs = ys then 0 else 1) = 1 ∧ (xt * yb) % (yt * xb) ≠ 0 then (xt * yb) / (yt * xb) + 1 else (xt * yb) / (yt * xb)) 1 (if xs = ys then 0 else 1) ∧ frB F F1) := by
  refine Met.ofW (cc := b_B_divideWhole) (maxL := 3) (ret := none) (by decide) rfl ?_
  intro p e s m args below meth c s₁ B hml hv
  obtain ⟨rfl, hsz, hP, hK, hD0⟩ := hv
  have hx := B.exec
  have hb := B.bytes
  have hr := B.returns
  have hts := atoms_spec (ws := w_B_divideWhole) B.pre
  have hq : ∀ w ∈ wT, w.before _ s = true := fun w h => hts w (List.mem_cons_of_mem _ h)
  have hown : s.vm.findClass R_B = some m.cls := findClass_of_methodNamed B.named
  have hlocks := B.notSynchronized
  subst hsz
  have hw := pw_start hP hK hD0
  have hl := lv_entry ([.ref (ad (82)), .ref (ad (x)), .ref (ad (y))]) (n := 3) (Nat.le_of_ble_eq_true rfl)
  rw [lg_entry_eq]
  generalize (lg_sl ([.ref (ad (82)), .ref (ad (x)), .ref (ad (y))]) ++ List.replicate (3 - (lg_sl ([.ref (ad (82)), .ref (ad (x)), .ref (ad (y))])).length) Slot.unset).toArray = ls at hl ⊢
  have hl : lv_has ls 3 [(0, .ref (ad (82))), (1, .ref (ad (x))), (2, .ref (ad (y)))] := hl
  change W p l e ({ frames := 5, cells := 0, slots := 0, locals := 129 } : Room) s m ([.ref (ad (82)), .ref (ad (x)), .ref (ad (y))]).toArray below meth c s.heap [] 0 0 (MQ below (va_Qv (fun F1 => BnT ty ad F1 (if (if xs = ys then 0 else 1) = 1 ∧ (xt * yb) % (yt * xb) ≠ 0 then (xt * yb) / (yt * xb) + 1 else (xt * yb) / (yt * xb)) 1 (if xs = ys then 0 else 1) ∧ frB F F1) (pAt D classes (tysL ty) ad M (pA ad M s.heap.size)) (pA ad M s.heap.size)) ([.ref (ad (82)), .ref (ad (x)), .ref (ad (y))]).toArray s 0 0 (pA ad M s.heap.size)) (F0 m 0 ls [])
  generalize hQ : MQ below (va_Qv (fun F1 => BnT ty ad F1 (if (if xs = ys then 0 else 1) = 1 ∧ (xt * yb) % (yt * xb) ≠ 0 then (xt * yb) / (yt * xb) + 1 else (xt * yb) / (yt * xb)) 1 (if xs = ys then 0 else 1) ∧ frB F F1) (pAt D classes (tysL ty) ad M (pA ad M s.heap.size)) (pA ad M s.heap.size)) ([.ref (ad (82)), .ref (ad (x)), .ref (ad (y))]).toArray s 0 0 (pA ad M s.heap.size) = Q
  obtain ⟨H, hH⟩ : ∃ H, H = s.heap := ⟨_, rfl⟩
  obtain ⟨locs, hlo⟩ : ∃ z : List Loc, z = [] := ⟨_, rfl⟩
  have hw : pw D classes (tysL ty) ad M F (pA ad M s.heap.size) s H locs := by rw [hH, hlo]; exact hw
  have hgo : W p l e ({ frames := 5, cells := 0, slots := 0, locals := 129 } : Room) s m ([.ref (ad (82)), .ref (ad (x)), .ref (ad (y))]).toArray below meth c H locs 0 0 Q (F0 m 0 ls []) := by
    obtain ⟨⟨bb, hbb, hB⟩, w83, w85, w87, w89, w91, ⟨f0, g0, h0, k0, hD⟩, w94⟩ := hBn
    obtain ⟨hbx, hFx, wx1, wx3⟩ := hRx
    obtain ⟨hby, hFy, wy1, wy3⟩ := hRy
    refine lv_aload_n hx hb d_B_divideWhole_0 rfl (lv_at hl 0 rfl) ?_
    refine lv_aload_n hx hb d_B_divideWhole_1 rfl (lv_at hl 1 rfl) ?_
    refine lv_aload_n hx hb d_B_divideWhole_2 rfl (lv_at hl 2 rfl) ?_
    refine pw_callv hw (va_runV (As := [.ref (ad (x)), .ref (ad (y))]) (rest := []) ⟨hx, hb, hml, hown, hq⟩ (c_B_cross l D ty ad M F H.size hM bb x xt xb xs (by omega) ⟨hbx, hFx, wx1, wx3⟩ y yt yb ys (by omega) ⟨hby, hFy, wy1, wy3⟩ hx82 hy82 hxt hxb hyt hyb hB w87 w89) (cwV 2 hq (gV ml_B_115 im_B_cross se_B_cross in_B m_B_cross) rfl rfl rfl (by decide +kernel) ⟨Nat.le_of_ble_eq_true rfl, Nat.le_of_ble_eq_true rfl⟩) (pw_preV hw (by omega) hB rfl) rfl rfl hl.1 rfl (lv_room (Nat.le_of_ble_eq_true rfl)) d_B_divideWhole_3 ⟨Nat.le_of_ble_eq_true rfl, Nat.le_of_ble_eq_true rfl⟩) (fun F3 H locs q3 hw => ?_)
    obtain ⟨w87, w89, hf3⟩ := q3
    have hB_at_3 : F3 (82) = .inr (4, [.ref (ad (83)), .ref (ad (85)), .ref (ad (87)), .ref (ad (89)), .ref (ad (91)), .ref (ad (93)), .int (iI ((bb : Int)))]) := (hf3 (82) (by omega)).trans hB
    have w83_at_3 : Wa ty ad F3 (83) 136 := Wa.mv w83 (hf3 (83) (by omega)) (hf3 (83 + 1) (by omega))
    have w85_at_3 : Wa ty ad F3 (85) 136 := Wa.mv w85 (hf3 (85) (by omega)) (hf3 (85 + 1) (by omega))
    have w91_at_3 : Wa ty ad F3 (91) 136 := Wa.mv w91 (hf3 (91) (by omega)) (hf3 (91 + 1) (by omega))
    have hD_at_3 : F3 (93) = .inr (3, [.ref (ad (93 + 1)), .long (f0), .long (g0), .long (h0), .long (k0)]) := (hf3 (93) (by omega)).trans hD
    have w94_at_3 : Wa ty ad F3 (93 + 1) 136 := Wa.mv w94 (hf3 (93 + 1) (by omega)) (hf3 (93 + 1 + 1) (by omega))
    have hFx_at_3 : F3 (x) = .inr (1, [.ref (ad (x + 1)), .ref (ad (x + 3)), .int (iI ((xs : Int)))]) := (hf3 (x) (by omega)).trans hFx
    have wx1_at_3 : Wv ty ad F3 (x + 1) 67 (xt) := Wv.mv wx1 (hf3 (x + 1) (by omega)) (hf3 (x + 1 + 1) (by omega))
    have wx3_at_3 : Wv ty ad F3 (x + 3) 67 (xb) := Wv.mv wx3 (hf3 (x + 3) (by omega)) (hf3 (x + 3 + 1) (by omega))
    have hFy_at_3 : F3 (y) = .inr (1, [.ref (ad (y + 1)), .ref (ad (y + 3)), .int (iI ((ys : Int)))]) := (hf3 (y) (by omega)).trans hFy
    have wy1_at_3 : Wv ty ad F3 (y + 1) 67 (yt) := Wv.mv wy1 (hf3 (y + 1) (by omega)) (hf3 (y + 1 + 1) (by omega))
    have wy3_at_3 : Wv ty ad F3 (y + 3) 67 (yb) := Wv.mv wy3 (hf3 (y + 3) (by omega)) (hf3 (y + 3 + 1) (by omega))
    refine lv_aload_n hx hb d_B_divideWhole_6 rfl (lv_at hl 0 rfl) ?_
    refine lv_aload_n hx hb d_B_divideWhole_7 rfl (lv_at hl 1 rfl) ?_
    refine pw_get (ci := 1) (C := R_F) (T := T_F) (N := 3) hx hb hq i_F hown hw (by omega) hFx_at_3 rfl 2 (by decide) (hq _ fl_B_76) (fun _ h9 => h9) rfl d_B_divideWhole_8 ?_
    refine lv_aload_n hx hb d_B_divideWhole_11 rfl (lv_at hl 2 rfl) ?_
    refine pw_get (ci := 1) (C := R_F) (T := T_F) (N := 3) hx hb hq i_F hown hw (by omega) hFy_at_3 rfl 2 (by decide) (hq _ fl_B_76) (fun _ h9 => h9) rfl d_B_divideWhole_12 ?_
    refine wz_icmp_eq (tgt := 22) hx hb d_B_divideWhole_15 (by decide) (by omega) (by omega) (by omega) (by omega) (fun c15 => ?_) (fun c15 => ?_)
    · refine wz_iconst (n := 0) hx hb d_B_divideWhole_22 ?_
      refine pw_put (ci := 4) (C := R_B) (T := T_B) (N := 7) (ty := .boolean) (fs' := [.ref (ad (83)), .ref (ad (85)), .ref (ad (87)), .ref (ad (89)), .ref (ad (91)), .ref (ad (93)), .int (iI (0))]) hx hb hq i_B ft_B ft_B_ok n_B hown hw (by omega) hB_at_3 rfl 6 (by decide) (hq _ fl_B_39) (fun _ h9 => h9) rfl (by decide +kernel) rfl rfl (Nat.le_of_ble_eq_true rfl) rfl d_B_divideWhole_23 (fun F23 H locs eF23 hw => ?_)
      have m23_82 : F23 (82) = .inr (4, [.ref (ad (83)), .ref (ad (85)), .ref (ad (87)), .ref (ad (89)), .ref (ad (91)), .ref (ad (93)), .int (iI (0))]) := by rw [eF23]; exact va_up_self ..
      have w83_at_23 : Wa ty ad F23 (83) 136 := Wa.mv w83_at_3 (show F23 (83) = F3 (83) from by rw [eF23]; exact va_up_ne _ _ (by omega)) (show F23 (83 + 1) = F3 (83 + 1) from by rw [eF23]; exact va_up_ne _ _ (by omega))
      have w85_at_23 : Wa ty ad F23 (85) 136 := Wa.mv w85_at_3 (show F23 (85) = F3 (85) from by rw [eF23]; exact va_up_ne _ _ (by omega)) (show F23 (85 + 1) = F3 (85 + 1) from by rw [eF23]; exact va_up_ne _ _ (by omega))
      have w91_at_23 : Wa ty ad F23 (91) 136 := Wa.mv w91_at_3 (show F23 (91) = F3 (91) from by rw [eF23]; exact va_up_ne _ _ (by omega)) (show F23 (91 + 1) = F3 (91 + 1) from by rw [eF23]; exact va_up_ne _ _ (by omega))
      have hD_at_23 : F23 (93) = .inr (3, [.ref (ad (93 + 1)), .long (f0), .long (g0), .long (h0), .long (k0)]) := (show F23 (93) = F3 (93) from by rw [eF23]; exact va_up_ne _ _ (by omega)).trans hD_at_3
      have w94_at_23 : Wa ty ad F23 (93 + 1) 136 := Wa.mv w94_at_3 (show F23 (93 + 1) = F3 (93 + 1) from by rw [eF23]; exact va_up_ne _ _ (by omega)) (show F23 (93 + 1 + 1) = F3 (93 + 1 + 1) from by rw [eF23]; exact va_up_ne _ _ (by omega))
      have hFx_at_23 : F23 (x) = .inr (1, [.ref (ad (x + 1)), .ref (ad (x + 3)), .int (iI ((xs : Int)))]) := (show F23 (x) = F3 (x) from by rw [eF23]; exact va_up_ne _ _ (by omega)).trans hFx_at_3
      have wx1_at_23 : Wv ty ad F23 (x + 1) 67 (xt) := Wv.mv wx1_at_3 (show F23 (x + 1) = F3 (x + 1) from by rw [eF23]; exact va_up_ne _ _ (by omega)) (show F23 (x + 1 + 1) = F3 (x + 1 + 1) from by rw [eF23]; exact va_up_ne _ _ (by omega))
      have wx3_at_23 : Wv ty ad F23 (x + 3) 67 (xb) := Wv.mv wx3_at_3 (show F23 (x + 3) = F3 (x + 3) from by rw [eF23]; exact va_up_ne _ _ (by omega)) (show F23 (x + 3 + 1) = F3 (x + 3 + 1) from by rw [eF23]; exact va_up_ne _ _ (by omega))
      have hFy_at_23 : F23 (y) = .inr (1, [.ref (ad (y + 1)), .ref (ad (y + 3)), .int (iI ((ys : Int)))]) := (show F23 (y) = F3 (y) from by rw [eF23]; exact va_up_ne _ _ (by omega)).trans hFy_at_3
      have wy1_at_23 : Wv ty ad F23 (y + 1) 67 (yt) := Wv.mv wy1_at_3 (show F23 (y + 1) = F3 (y + 1) from by rw [eF23]; exact va_up_ne _ _ (by omega)) (show F23 (y + 1 + 1) = F3 (y + 1 + 1) from by rw [eF23]; exact va_up_ne _ _ (by omega))
      have wy3_at_23 : Wv ty ad F23 (y + 3) 67 (yb) := Wv.mv wy3_at_3 (show F23 (y + 3) = F3 (y + 3) from by rw [eF23]; exact va_up_ne _ _ (by omega)) (show F23 (y + 3 + 1) = F3 (y + 3 + 1) from by rw [eF23]; exact va_up_ne _ _ (by omega))
      have w87_at_23 : Wv ty ad F23 (87) 136 (xt * yb) := Wv.mv w87 (show F23 (87) = F3 (87) from by rw [eF23]; exact va_up_ne _ _ (by omega)) (show F23 (87 + 1) = F3 (87 + 1) from by rw [eF23]; exact va_up_ne _ _ (by omega))
      have w89_at_23 : Wv ty ad F23 (89) 136 (yt * xb) := Wv.mv w89 (show F23 (89) = F3 (89) from by rw [eF23]; exact va_up_ne _ _ (by omega)) (show F23 (89 + 1) = F3 (89 + 1) from by rw [eF23]; exact va_up_ne _ _ (by omega))
      refine lv_aload_n hx hb d_B_divideWhole_26 rfl (lv_at hl 0 rfl) ?_
      refine lv_aload_n hx hb d_B_divideWhole_27 rfl (lv_at hl 0 rfl) ?_
      refine pw_get (ci := 4) (C := R_B) (T := T_B) (N := 7) hx hb hq i_B hown hw (by omega) m23_82 rfl 6 (by decide) (hq _ fl_B_39) (fun _ h9 => h9) rfl d_B_divideWhole_28 ?_
      refine pw_callv hw (va_runV (As := [.int (iI (0))]) (rest := []) ⟨hx, hb, hml, hown, hq⟩ (c_B_roundRatio l D ty ad M F23 H.size hM 0 (xt * yb) (yt * xb) 0 (by omega) (by omega) (hxt.mul hyb).toMd m23_82 w83_at_23 w85_at_23 w87_at_23 w89_at_23 w91_at_23 f0 g0 h0 k0 hD_at_23 w94_at_23) (cwV 1 hq (gV ml_B_129 im_B_roundRatio se_B_roundRatio in_B m_B_roundRatio) rfl rfl rfl (by decide +kernel) ⟨Nat.le_of_ble_eq_true rfl, Nat.le_of_ble_eq_true rfl⟩) (pw_preV hw (by omega) m23_82 rfl) rfl rfl hl.1 rfl (lv_room (Nat.le_of_ble_eq_true rfl)) d_B_divideWhole_31 ⟨Nat.le_of_ble_eq_true rfl, Nat.le_of_ble_eq_true rfl⟩) (fun F31 H locs q31 hw => ?_)
      obtain ⟨hT, hf31⟩ := q31
      rw [← hQ]
      exact pw_vret hx hb hr hlocks hw (⟨by rw [if_pos (show xs = ys from by omega)]; exact hT, fun y9 h9 => (hf31 y9 h9).trans ((show F23 (y9) = F3 (y9) from by rw [eF23]; exact va_up_ne _ _ (by omega)).trans (hf3 (y9) (by omega)))⟩) d_B_divideWhole_34
    · refine wz_iconst (n := 1) hx hb d_B_divideWhole_18 ?_
      refine lv_goto (tgt := 23) hx hb d_B_divideWhole_19 (by decide) ?_
      refine pw_put (ci := 4) (C := R_B) (T := T_B) (N := 7) (ty := .boolean) (fs' := [.ref (ad (83)), .ref (ad (85)), .ref (ad (87)), .ref (ad (89)), .ref (ad (91)), .ref (ad (93)), .int (iI (1))]) hx hb hq i_B ft_B ft_B_ok n_B hown hw (by omega) hB_at_3 rfl 6 (by decide) (hq _ fl_B_39) (fun _ h9 => h9) rfl (by decide +kernel) rfl rfl (Nat.le_of_ble_eq_true rfl) rfl d_B_divideWhole_23 (fun F23 H locs eF23 hw => ?_)
      have m23_82 : F23 (82) = .inr (4, [.ref (ad (83)), .ref (ad (85)), .ref (ad (87)), .ref (ad (89)), .ref (ad (91)), .ref (ad (93)), .int (iI (1))]) := by rw [eF23]; exact va_up_self ..
      have w83_at_23 : Wa ty ad F23 (83) 136 := Wa.mv w83_at_3 (show F23 (83) = F3 (83) from by rw [eF23]; exact va_up_ne _ _ (by omega)) (show F23 (83 + 1) = F3 (83 + 1) from by rw [eF23]; exact va_up_ne _ _ (by omega))
      have w85_at_23 : Wa ty ad F23 (85) 136 := Wa.mv w85_at_3 (show F23 (85) = F3 (85) from by rw [eF23]; exact va_up_ne _ _ (by omega)) (show F23 (85 + 1) = F3 (85 + 1) from by rw [eF23]; exact va_up_ne _ _ (by omega))
      have w91_at_23 : Wa ty ad F23 (91) 136 := Wa.mv w91_at_3 (show F23 (91) = F3 (91) from by rw [eF23]; exact va_up_ne _ _ (by omega)) (show F23 (91 + 1) = F3 (91 + 1) from by rw [eF23]; exact va_up_ne _ _ (by omega))
      have hD_at_23 : F23 (93) = .inr (3, [.ref (ad (93 + 1)), .long (f0), .long (g0), .long (h0), .long (k0)]) := (show F23 (93) = F3 (93) from by rw [eF23]; exact va_up_ne _ _ (by omega)).trans hD_at_3
      have w94_at_23 : Wa ty ad F23 (93 + 1) 136 := Wa.mv w94_at_3 (show F23 (93 + 1) = F3 (93 + 1) from by rw [eF23]; exact va_up_ne _ _ (by omega)) (show F23 (93 + 1 + 1) = F3 (93 + 1 + 1) from by rw [eF23]; exact va_up_ne _ _ (by omega))
      have hFx_at_23 : F23 (x) = .inr (1, [.ref (ad (x + 1)), .ref (ad (x + 3)), .int (iI ((xs : Int)))]) := (show F23 (x) = F3 (x) from by rw [eF23]; exact va_up_ne _ _ (by omega)).trans hFx_at_3
      have wx1_at_23 : Wv ty ad F23 (x + 1) 67 (xt) := Wv.mv wx1_at_3 (show F23 (x + 1) = F3 (x + 1) from by rw [eF23]; exact va_up_ne _ _ (by omega)) (show F23 (x + 1 + 1) = F3 (x + 1 + 1) from by rw [eF23]; exact va_up_ne _ _ (by omega))
      have wx3_at_23 : Wv ty ad F23 (x + 3) 67 (xb) := Wv.mv wx3_at_3 (show F23 (x + 3) = F3 (x + 3) from by rw [eF23]; exact va_up_ne _ _ (by omega)) (show F23 (x + 3 + 1) = F3 (x + 3 + 1) from by rw [eF23]; exact va_up_ne _ _ (by omega))
      have hFy_at_23 : F23 (y) = .inr (1, [.ref (ad (y + 1)), .ref (ad (y + 3)), .int (iI ((ys : Int)))]) := (show F23 (y) = F3 (y) from by rw [eF23]; exact va_up_ne _ _ (by omega)).trans hFy_at_3
      have wy1_at_23 : Wv ty ad F23 (y + 1) 67 (yt) := Wv.mv wy1_at_3 (show F23 (y + 1) = F3 (y + 1) from by rw [eF23]; exact va_up_ne _ _ (by omega)) (show F23 (y + 1 + 1) = F3 (y + 1 + 1) from by rw [eF23]; exact va_up_ne _ _ (by omega))
      have wy3_at_23 : Wv ty ad F23 (y + 3) 67 (yb) := Wv.mv wy3_at_3 (show F23 (y + 3) = F3 (y + 3) from by rw [eF23]; exact va_up_ne _ _ (by omega)) (show F23 (y + 3 + 1) = F3 (y + 3 + 1) from by rw [eF23]; exact va_up_ne _ _ (by omega))
      have w87_at_23 : Wv ty ad F23 (87) 136 (xt * yb) := Wv.mv w87 (show F23 (87) = F3 (87) from by rw [eF23]; exact va_up_ne _ _ (by omega)) (show F23 (87 + 1) = F3 (87 + 1) from by rw [eF23]; exact va_up_ne _ _ (by omega))
      have w89_at_23 : Wv ty ad F23 (89) 136 (yt * xb) := Wv.mv w89 (show F23 (89) = F3 (89) from by rw [eF23]; exact va_up_ne _ _ (by omega)) (show F23 (89 + 1) = F3 (89 + 1) from by rw [eF23]; exact va_up_ne _ _ (by omega))
      refine lv_aload_n hx hb d_B_divideWhole_26 rfl (lv_at hl 0 rfl) ?_
      refine lv_aload_n hx hb d_B_divideWhole_27 rfl (lv_at hl 0 rfl) ?_
      refine pw_get (ci := 4) (C := R_B) (T := T_B) (N := 7) hx hb hq i_B hown hw (by omega) m23_82 rfl 6 (by decide) (hq _ fl_B_39) (fun _ h9 => h9) rfl d_B_divideWhole_28 ?_
      refine pw_callv hw (va_runV (As := [.int (iI (1))]) (rest := []) ⟨hx, hb, hml, hown, hq⟩ (c_B_roundRatio l D ty ad M F23 H.size hM 1 (xt * yb) (yt * xb) 1 (by omega) (by omega) (hxt.mul hyb).toMd m23_82 w83_at_23 w85_at_23 w87_at_23 w89_at_23 w91_at_23 f0 g0 h0 k0 hD_at_23 w94_at_23) (cwV 1 hq (gV ml_B_129 im_B_roundRatio se_B_roundRatio in_B m_B_roundRatio) rfl rfl rfl (by decide +kernel) ⟨Nat.le_of_ble_eq_true rfl, Nat.le_of_ble_eq_true rfl⟩) (pw_preV hw (by omega) m23_82 rfl) rfl rfl hl.1 rfl (lv_room (Nat.le_of_ble_eq_true rfl)) d_B_divideWhole_31 ⟨Nat.le_of_ble_eq_true rfl, Nat.le_of_ble_eq_true rfl⟩) (fun F31 H locs q31 hw => ?_)
      obtain ⟨hT, hf31⟩ := q31
      rw [← hQ]
      exact pw_vret hx hb hr hlocks hw (⟨by rw [if_neg (show ¬ xs = ys from by omega)]; exact hT, fun y9 h9 => (hf31 y9 h9).trans ((show F23 (y9) = F3 (y9) from by rw [eF23]; exact va_up_ne _ _ (by omega)).trans (hf3 (y9) (by omega)))⟩) d_B_divideWhole_34
  rw [hH, hlo] at hgo
  exact hgo
set_option maxHeartbeats 4000000 in
set_option maxRecDepth 100000 in
/-- Bench.takeRest(x, y) -/
theorem c_B_takeRest (l : Launch) (D : va_G) (ty : Nat → ClassId) (ad : Nat → Nat) (M : Nat) (F : Nat → va_E) (sz : Nat) (hM : 97 < M) (hBn : Bn ty ad F)(x xt xb xs : Nat) (hMx : x + 4 < M) (hRx : Frc ty ad F x xt xb xs) (hx82 : x + 4 < 82) (hxt : sm xt) (hxb : sm xb) (y yt yb ys : Nat) (hMy : y + 4 < M) (hRy : Frc ty ad F y yt yb ys) (hy82 : y + 4 < 82) (hyt : sm yt) (hyb : sm yb) (hR0 : 0 < yt * xb) :
    CV l y_B_takeRest w_B_takeRest ({ frames := 4, cells := 0, slots := 0, locals := 108 } : Room) [.ref (ad (82)), .ref (ad (x)), .ref (ad (y))] D ty ad M F sz (fun F1 => BnT ty ad F1 (if xs = ys ∨ (xt * yb) % (yt * xb) = 0 then (xt * yb) % (yt * xb) else yt * xb - (xt * yb) % (yt * xb)) (xb * yb) ys ∧ frB F F1) := by
  refine Met.ofW (cc := b_B_takeRest) (maxL := 3) (ret := none) (by decide) rfl ?_
  intro p e s m args below meth c s₁ B hml hv
  obtain ⟨rfl, hsz, hP, hK, hD0⟩ := hv
  have hx := B.exec
  have hb := B.bytes
  have hr := B.returns
  have hts := atoms_spec (ws := w_B_takeRest) B.pre
  have hq : ∀ w ∈ wT, w.before _ s = true := fun w h => hts w (List.mem_cons_of_mem _ h)
  have hown : s.vm.findClass R_B = some m.cls := findClass_of_methodNamed B.named
  have hlocks := B.notSynchronized
  subst hsz
  have hw := pw_start hP hK hD0
  have hl := lv_entry ([.ref (ad (82)), .ref (ad (x)), .ref (ad (y))]) (n := 3) (Nat.le_of_ble_eq_true rfl)
  rw [lg_entry_eq]
  generalize (lg_sl ([.ref (ad (82)), .ref (ad (x)), .ref (ad (y))]) ++ List.replicate (3 - (lg_sl ([.ref (ad (82)), .ref (ad (x)), .ref (ad (y))])).length) Slot.unset).toArray = ls at hl ⊢
  have hl : lv_has ls 3 [(0, .ref (ad (82))), (1, .ref (ad (x))), (2, .ref (ad (y)))] := hl
  change W p l e ({ frames := 4, cells := 0, slots := 0, locals := 108 } : Room) s m ([.ref (ad (82)), .ref (ad (x)), .ref (ad (y))]).toArray below meth c s.heap [] 0 0 (MQ below (va_Qv (fun F1 => BnT ty ad F1 (if xs = ys ∨ (xt * yb) % (yt * xb) = 0 then (xt * yb) % (yt * xb) else yt * xb - (xt * yb) % (yt * xb)) (xb * yb) ys ∧ frB F F1) (pAt D classes (tysL ty) ad M (pA ad M s.heap.size)) (pA ad M s.heap.size)) ([.ref (ad (82)), .ref (ad (x)), .ref (ad (y))]).toArray s 0 0 (pA ad M s.heap.size)) (F0 m 0 ls [])
  generalize hQ : MQ below (va_Qv (fun F1 => BnT ty ad F1 (if xs = ys ∨ (xt * yb) % (yt * xb) = 0 then (xt * yb) % (yt * xb) else yt * xb - (xt * yb) % (yt * xb)) (xb * yb) ys ∧ frB F F1) (pAt D classes (tysL ty) ad M (pA ad M s.heap.size)) (pA ad M s.heap.size)) ([.ref (ad (82)), .ref (ad (x)), .ref (ad (y))]).toArray s 0 0 (pA ad M s.heap.size) = Q
  obtain ⟨H, hH⟩ : ∃ H, H = s.heap := ⟨_, rfl⟩
  obtain ⟨locs, hlo⟩ : ∃ z : List Loc, z = [] := ⟨_, rfl⟩
  have hw : pw D classes (tysL ty) ad M F (pA ad M s.heap.size) s H locs := by rw [hH, hlo]; exact hw
  have hgo : W p l e ({ frames := 4, cells := 0, slots := 0, locals := 108 } : Room) s m ([.ref (ad (82)), .ref (ad (x)), .ref (ad (y))]).toArray below meth c H locs 0 0 Q (F0 m 0 ls []) := by
    obtain ⟨⟨bb, hbb, hB⟩, w83, w85, w87, w89, w91, ⟨f0, g0, h0, k0, hD⟩, w94⟩ := hBn
    obtain ⟨hbx, hFx, wx1, wx3⟩ := hRx
    obtain ⟨hby, hFy, wy1, wy3⟩ := hRy
    have hlt9 := Nat.mod_lt (xt * yb) hR0
    refine lv_aload_n hx hb d_B_takeRest_0 rfl (lv_at hl 0 rfl) ?_
    refine lv_aload_n hx hb d_B_takeRest_1 rfl (lv_at hl 1 rfl) ?_
    refine lv_aload_n hx hb d_B_takeRest_2 rfl (lv_at hl 2 rfl) ?_
    refine pw_callv hw (va_runV (As := [.ref (ad (x)), .ref (ad (y))]) (rest := []) ⟨hx, hb, hml, hown, hq⟩ (c_B_cross l D ty ad M F H.size hM bb x xt xb xs (by omega) ⟨hbx, hFx, wx1, wx3⟩ y yt yb ys (by omega) ⟨hby, hFy, wy1, wy3⟩ hx82 hy82 hxt hxb hyt hyb hB w87 w89) (cwV 2 hq (gV ml_B_115 im_B_cross se_B_cross in_B m_B_cross) rfl rfl rfl (by decide +kernel) ⟨Nat.le_of_ble_eq_true rfl, Nat.le_of_ble_eq_true rfl⟩) (pw_preV hw (by omega) hB rfl) rfl rfl hl.1 rfl (lv_room (Nat.le_of_ble_eq_true rfl)) d_B_takeRest_3 ⟨Nat.le_of_ble_eq_true rfl, Nat.le_of_ble_eq_true rfl⟩) (fun F3 H locs q3 hw => ?_)
    obtain ⟨w87, w89, hf3⟩ := q3
    have hB_at_3 : F3 (82) = .inr (4, [.ref (ad (83)), .ref (ad (85)), .ref (ad (87)), .ref (ad (89)), .ref (ad (91)), .ref (ad (93)), .int (iI ((bb : Int)))]) := (hf3 (82) (by omega)).trans hB
    have w83_at_3 : Wa ty ad F3 (83) 136 := Wa.mv w83 (hf3 (83) (by omega)) (hf3 (83 + 1) (by omega))
    have w85_at_3 : Wa ty ad F3 (85) 136 := Wa.mv w85 (hf3 (85) (by omega)) (hf3 (85 + 1) (by omega))
    have w91_at_3 : Wa ty ad F3 (91) 136 := Wa.mv w91 (hf3 (91) (by omega)) (hf3 (91 + 1) (by omega))
    have hD_at_3 : F3 (93) = .inr (3, [.ref (ad (93 + 1)), .long (f0), .long (g0), .long (h0), .long (k0)]) := (hf3 (93) (by omega)).trans hD
    have w94_at_3 : Wa ty ad F3 (93 + 1) 136 := Wa.mv w94 (hf3 (93 + 1) (by omega)) (hf3 (93 + 1 + 1) (by omega))
    have hFx_at_3 : F3 (x) = .inr (1, [.ref (ad (x + 1)), .ref (ad (x + 3)), .int (iI ((xs : Int)))]) := (hf3 (x) (by omega)).trans hFx
    have wx1_at_3 : Wv ty ad F3 (x + 1) 67 (xt) := Wv.mv wx1 (hf3 (x + 1) (by omega)) (hf3 (x + 1 + 1) (by omega))
    have wx3_at_3 : Wv ty ad F3 (x + 3) 67 (xb) := Wv.mv wx3 (hf3 (x + 3) (by omega)) (hf3 (x + 3 + 1) (by omega))
    have hFy_at_3 : F3 (y) = .inr (1, [.ref (ad (y + 1)), .ref (ad (y + 3)), .int (iI ((ys : Int)))]) := (hf3 (y) (by omega)).trans hFy
    have wy1_at_3 : Wv ty ad F3 (y + 1) 67 (yt) := Wv.mv wy1 (hf3 (y + 1) (by omega)) (hf3 (y + 1 + 1) (by omega))
    have wy3_at_3 : Wv ty ad F3 (y + 3) 67 (yb) := Wv.mv wy3 (hf3 (y + 3) (by omega)) (hf3 (y + 3 + 1) (by omega))
    refine lv_aload_n hx hb d_B_takeRest_6 rfl (lv_at hl 0 rfl) ?_
    refine pw_get (ci := 4) (C := R_B) (T := T_B) (N := 7) hx hb hq i_B hown hw (by omega) hB_at_3 rfl 1 (by decide) (hq _ fl_B_20) (fun _ h9 => h9) rfl d_B_takeRest_7 ?_
    refine lv_aload_n hx hb d_B_takeRest_10 rfl (lv_at hl 1 rfl) ?_
    refine pw_get (ci := 1) (C := R_F) (T := T_F) (N := 3) hx hb hq i_F hown hw (by omega) hFx_at_3 rfl 1 (by decide) (hq _ fl_B_72) (fun _ h9 => h9) rfl d_B_takeRest_11 ?_
    refine lv_aload_n hx hb d_B_takeRest_14 rfl (lv_at hl 2 rfl) ?_
    refine pw_get (ci := 1) (C := R_F) (T := T_F) (N := 3) hx hb hq i_F hown hw (by omega) hFy_at_3 rfl 1 (by decide) (hq _ fl_B_72) (fun _ h9 => h9) rfl d_B_takeRest_15 ?_
    refine pw_callv hw (va_runV (As := [.ref (ad (x + 3)), .ref (ad (y + 3))]) (rest := []) ⟨hx, hb, hml, hown, hq⟩ (c_W_becomeProduct l D ty ad M F3 H.size (85) (x + 3) (y + 3) 136 67 67 (xb) (yb) 67 67 (by omega) (by omega) (by omega) (by omega) (by omega) (by omega) (by omega) (by omega) (hxb.f67) (hyb.f67) (by omega) w85_at_3 wx3_at_3 wy3_at_3) (cwV 2 hq (gV ml_B_109 im_W_becomeProduct se_W_becomeProduct in_W m_W_becomeProduct) rfl rfl rfl (by decide +kernel) ⟨Nat.le_of_ble_eq_true rfl, Nat.le_of_ble_eq_true rfl⟩) (pw_preWa hw (by omega) w85_at_3) rfl rfl hl.1 rfl (lv_room (Nat.le_of_ble_eq_true rfl)) d_B_takeRest_18 ⟨Nat.le_of_ble_eq_true rfl, Nat.le_of_ble_eq_true rfl⟩) (fun F18 H locs q18 hw => ?_)
    obtain ⟨w85, hf18⟩ := q18
    have hB_at_18 : F18 (82) = .inr (4, [.ref (ad (83)), .ref (ad (85)), .ref (ad (87)), .ref (ad (89)), .ref (ad (91)), .ref (ad (93)), .int (iI ((bb : Int)))]) := (hf18 (82) (by omega) (by omega)).trans hB_at_3
    have w83_at_18 : Wa ty ad F18 (83) 136 := Wa.mv w83_at_3 (hf18 (83) (by omega) (by omega)) (hf18 (83 + 1) (by omega) (by omega))
    have w91_at_18 : Wa ty ad F18 (91) 136 := Wa.mv w91_at_3 (hf18 (91) (by omega) (by omega)) (hf18 (91 + 1) (by omega) (by omega))
    have hD_at_18 : F18 (93) = .inr (3, [.ref (ad (93 + 1)), .long (f0), .long (g0), .long (h0), .long (k0)]) := (hf18 (93) (by omega) (by omega)).trans hD_at_3
    have w94_at_18 : Wa ty ad F18 (93 + 1) 136 := Wa.mv w94_at_3 (hf18 (93 + 1) (by omega) (by omega)) (hf18 (93 + 1 + 1) (by omega) (by omega))
    have hFx_at_18 : F18 (x) = .inr (1, [.ref (ad (x + 1)), .ref (ad (x + 3)), .int (iI ((xs : Int)))]) := (hf18 (x) (by omega) (by omega)).trans hFx_at_3
    have wx1_at_18 : Wv ty ad F18 (x + 1) 67 (xt) := Wv.mv wx1_at_3 (hf18 (x + 1) (by omega) (by omega)) (hf18 (x + 1 + 1) (by omega) (by omega))
    have wx3_at_18 : Wv ty ad F18 (x + 3) 67 (xb) := Wv.mv wx3_at_3 (hf18 (x + 3) (by omega) (by omega)) (hf18 (x + 3 + 1) (by omega) (by omega))
    have hFy_at_18 : F18 (y) = .inr (1, [.ref (ad (y + 1)), .ref (ad (y + 3)), .int (iI ((ys : Int)))]) := (hf18 (y) (by omega) (by omega)).trans hFy_at_3
    have wy1_at_18 : Wv ty ad F18 (y + 1) 67 (yt) := Wv.mv wy1_at_3 (hf18 (y + 1) (by omega) (by omega)) (hf18 (y + 1 + 1) (by omega) (by omega))
    have wy3_at_18 : Wv ty ad F18 (y + 3) 67 (yb) := Wv.mv wy3_at_3 (hf18 (y + 3) (by omega) (by omega)) (hf18 (y + 3 + 1) (by omega) (by omega))
    have w87_at_18 : Wv ty ad F18 (87) 136 (xt * yb) := Wv.mv w87 (hf18 (87) (by omega) (by omega)) (hf18 (87 + 1) (by omega) (by omega))
    have w89_at_18 : Wv ty ad F18 (89) 136 (yt * xb) := Wv.mv w89 (hf18 (89) (by omega) (by omega)) (hf18 (89 + 1) (by omega) (by omega))
    refine lv_aload_n hx hb d_B_takeRest_21 rfl (lv_at hl 0 rfl) ?_
    refine lv_aload_n hx hb d_B_takeRest_22 rfl (lv_at hl 2 rfl) ?_
    refine pw_get (ci := 1) (C := R_F) (T := T_F) (N := 3) hx hb hq i_F hown hw (by omega) hFy_at_18 rfl 2 (by decide) (hq _ fl_B_76) (fun _ h9 => h9) rfl d_B_takeRest_23 ?_
    refine pw_put (ci := 4) (C := R_B) (T := T_B) (N := 7) (ty := .boolean) (fs' := [.ref (ad (83)), .ref (ad (85)), .ref (ad (87)), .ref (ad (89)), .ref (ad (91)), .ref (ad (93)), .int (iI ((ys : Int)))]) hx hb hq i_B ft_B ft_B_ok n_B hown hw (by omega) hB_at_18 rfl 6 (by decide) (hq _ fl_B_39) (fun _ h9 => h9) rfl (by decide +kernel) (nar_bb hby) (fit_bb hby) (Nat.le_of_ble_eq_true rfl) rfl d_B_takeRest_26 (fun F26 H locs eF26 hw => ?_)
    have m26_82 : F26 (82) = .inr (4, [.ref (ad (83)), .ref (ad (85)), .ref (ad (87)), .ref (ad (89)), .ref (ad (91)), .ref (ad (93)), .int (iI ((ys : Int)))]) := by rw [eF26]; exact va_up_self ..
    have w83_at_26 : Wa ty ad F26 (83) 136 := Wa.mv w83_at_18 (show F26 (83) = F18 (83) from by rw [eF26]; exact va_up_ne _ _ (by omega)) (show F26 (83 + 1) = F18 (83 + 1) from by rw [eF26]; exact va_up_ne _ _ (by omega))
    have w91_at_26 : Wa ty ad F26 (91) 136 := Wa.mv w91_at_18 (show F26 (91) = F18 (91) from by rw [eF26]; exact va_up_ne _ _ (by omega)) (show F26 (91 + 1) = F18 (91 + 1) from by rw [eF26]; exact va_up_ne _ _ (by omega))
    have hD_at_26 : F26 (93) = .inr (3, [.ref (ad (93 + 1)), .long (f0), .long (g0), .long (h0), .long (k0)]) := (show F26 (93) = F18 (93) from by rw [eF26]; exact va_up_ne _ _ (by omega)).trans hD_at_18
    have w94_at_26 : Wa ty ad F26 (93 + 1) 136 := Wa.mv w94_at_18 (show F26 (93 + 1) = F18 (93 + 1) from by rw [eF26]; exact va_up_ne _ _ (by omega)) (show F26 (93 + 1 + 1) = F18 (93 + 1 + 1) from by rw [eF26]; exact va_up_ne _ _ (by omega))
    have hFx_at_26 : F26 (x) = .inr (1, [.ref (ad (x + 1)), .ref (ad (x + 3)), .int (iI ((xs : Int)))]) := (show F26 (x) = F18 (x) from by rw [eF26]; exact va_up_ne _ _ (by omega)).trans hFx_at_18
    have wx1_at_26 : Wv ty ad F26 (x + 1) 67 (xt) := Wv.mv wx1_at_18 (show F26 (x + 1) = F18 (x + 1) from by rw [eF26]; exact va_up_ne _ _ (by omega)) (show F26 (x + 1 + 1) = F18 (x + 1 + 1) from by rw [eF26]; exact va_up_ne _ _ (by omega))
    have wx3_at_26 : Wv ty ad F26 (x + 3) 67 (xb) := Wv.mv wx3_at_18 (show F26 (x + 3) = F18 (x + 3) from by rw [eF26]; exact va_up_ne _ _ (by omega)) (show F26 (x + 3 + 1) = F18 (x + 3 + 1) from by rw [eF26]; exact va_up_ne _ _ (by omega))
    have hFy_at_26 : F26 (y) = .inr (1, [.ref (ad (y + 1)), .ref (ad (y + 3)), .int (iI ((ys : Int)))]) := (show F26 (y) = F18 (y) from by rw [eF26]; exact va_up_ne _ _ (by omega)).trans hFy_at_18
    have wy1_at_26 : Wv ty ad F26 (y + 1) 67 (yt) := Wv.mv wy1_at_18 (show F26 (y + 1) = F18 (y + 1) from by rw [eF26]; exact va_up_ne _ _ (by omega)) (show F26 (y + 1 + 1) = F18 (y + 1 + 1) from by rw [eF26]; exact va_up_ne _ _ (by omega))
    have wy3_at_26 : Wv ty ad F26 (y + 3) 67 (yb) := Wv.mv wy3_at_18 (show F26 (y + 3) = F18 (y + 3) from by rw [eF26]; exact va_up_ne _ _ (by omega)) (show F26 (y + 3 + 1) = F18 (y + 3 + 1) from by rw [eF26]; exact va_up_ne _ _ (by omega))
    have w87_at_26 : Wv ty ad F26 (87) 136 (xt * yb) := Wv.mv w87_at_18 (show F26 (87) = F18 (87) from by rw [eF26]; exact va_up_ne _ _ (by omega)) (show F26 (87 + 1) = F18 (87 + 1) from by rw [eF26]; exact va_up_ne _ _ (by omega))
    have w89_at_26 : Wv ty ad F26 (89) 136 (yt * xb) := Wv.mv w89_at_18 (show F26 (89) = F18 (89) from by rw [eF26]; exact va_up_ne _ _ (by omega)) (show F26 (89 + 1) = F18 (89 + 1) from by rw [eF26]; exact va_up_ne _ _ (by omega))
    have w85_at_26 : Wv ty ad F26 (85) 136 (xb * yb) := Wv.mv w85 (show F26 (85) = F18 (85) from by rw [eF26]; exact va_up_ne _ _ (by omega)) (show F26 (85 + 1) = F18 (85 + 1) from by rw [eF26]; exact va_up_ne _ _ (by omega))
    refine lv_aload_n hx hb d_B_takeRest_29 rfl (lv_at hl 0 rfl) ?_
    refine pw_get (ci := 4) (C := R_B) (T := T_B) (N := 7) hx hb hq i_B hown hw (by omega) m26_82 rfl 2 (by decide) (hq _ fl_B_23) (fun _ h9 => h9) rfl d_B_takeRest_30 ?_
    refine lv_aload_n hx hb d_B_takeRest_33 rfl (lv_at hl 0 rfl) ?_
    refine pw_get (ci := 4) (C := R_B) (T := T_B) (N := 7) hx hb hq i_B hown hw (by omega) m26_82 rfl 3 (by decide) (hq _ fl_B_26) (fun _ h9 => h9) rfl d_B_takeRest_34 ?_
    refine lv_aload_n hx hb d_B_takeRest_37 rfl (lv_at hl 0 rfl) ?_
    refine pw_get (ci := 4) (C := R_B) (T := T_B) (N := 7) hx hb hq i_B hown hw (by omega) m26_82 rfl 4 (by decide) (hq _ fl_B_29) (fun _ h9 => h9) rfl d_B_takeRest_38 ?_
    refine pw_callv hw (va_runV (As := [.ref (ad (89)), .ref (ad (91))]) (rest := []) ⟨hx, hb, hml, hown, hq⟩ (c_W_leaveRest l D ty ad M F26 H.size (87) (89) (91) 136 136 136 (xt * yb) (yt * xb) (by omega) (by omega) (by omega) (by omega) (by omega) (by omega) (by omega) (by omega) (by omega) (by omega) ((hxt.mul hyb).toMd.f135) ((hxt.mul hyb).toMd.f136) w87_at_26 w89_at_26 w91_at_26) (cwV 2 hq (gV ml_B_63 im_W_leaveRest se_W_leaveRest in_W m_W_leaveRest) rfl rfl rfl (by decide +kernel) ⟨Nat.le_of_ble_eq_true rfl, Nat.le_of_ble_eq_true rfl⟩) (pw_preWa hw (by omega) ((w87_at_26).a)) rfl rfl hl.1 rfl (lv_room (Nat.le_of_ble_eq_true rfl)) d_B_takeRest_41 ⟨Nat.le_of_ble_eq_true rfl, Nat.le_of_ble_eq_true rfl⟩) (fun F41 H locs q41 hw => ?_)
    obtain ⟨w87, w91, hf41⟩ := q41
    have w83_at_41 : Wa ty ad F41 (83) 136 := Wa.mv w83_at_26 (hf41 (83) (by omega) (by omega) (by omega) (by omega)) (hf41 (83 + 1) (by omega) (by omega) (by omega) (by omega))
    have hD_at_41 : F41 (93) = .inr (3, [.ref (ad (93 + 1)), .long (f0), .long (g0), .long (h0), .long (k0)]) := (hf41 (93) (by omega) (by omega) (by omega) (by omega)).trans hD_at_26
    have w94_at_41 : Wa ty ad F41 (93 + 1) 136 := Wa.mv w94_at_26 (hf41 (93 + 1) (by omega) (by omega) (by omega) (by omega)) (hf41 (93 + 1 + 1) (by omega) (by omega) (by omega) (by omega))
    have hFx_at_41 : F41 (x) = .inr (1, [.ref (ad (x + 1)), .ref (ad (x + 3)), .int (iI ((xs : Int)))]) := (hf41 (x) (by omega) (by omega) (by omega) (by omega)).trans hFx_at_26
    have wx1_at_41 : Wv ty ad F41 (x + 1) 67 (xt) := Wv.mv wx1_at_26 (hf41 (x + 1) (by omega) (by omega) (by omega) (by omega)) (hf41 (x + 1 + 1) (by omega) (by omega) (by omega) (by omega))
    have wx3_at_41 : Wv ty ad F41 (x + 3) 67 (xb) := Wv.mv wx3_at_26 (hf41 (x + 3) (by omega) (by omega) (by omega) (by omega)) (hf41 (x + 3 + 1) (by omega) (by omega) (by omega) (by omega))
    have hFy_at_41 : F41 (y) = .inr (1, [.ref (ad (y + 1)), .ref (ad (y + 3)), .int (iI ((ys : Int)))]) := (hf41 (y) (by omega) (by omega) (by omega) (by omega)).trans hFy_at_26
    have wy1_at_41 : Wv ty ad F41 (y + 1) 67 (yt) := Wv.mv wy1_at_26 (hf41 (y + 1) (by omega) (by omega) (by omega) (by omega)) (hf41 (y + 1 + 1) (by omega) (by omega) (by omega) (by omega))
    have wy3_at_41 : Wv ty ad F41 (y + 3) 67 (yb) := Wv.mv wy3_at_26 (hf41 (y + 3) (by omega) (by omega) (by omega) (by omega)) (hf41 (y + 3 + 1) (by omega) (by omega) (by omega) (by omega))
    have w89_at_41 : Wv ty ad F41 (89) 136 (yt * xb) := Wv.mv w89_at_26 (hf41 (89) (by omega) (by omega) (by omega) (by omega)) (hf41 (89 + 1) (by omega) (by omega) (by omega) (by omega))
    have w85_at_41 : Wv ty ad F41 (85) 136 (xb * yb) := Wv.mv w85_at_26 (hf41 (85) (by omega) (by omega) (by omega) (by omega)) (hf41 (85 + 1) (by omega) (by omega) (by omega) (by omega))
    have m26_82_at_41 : F41 (82) = .inr (4, [.ref (ad (83)), .ref (ad (85)), .ref (ad (87)), .ref (ad (89)), .ref (ad (91)), .ref (ad (93)), .int (iI ((ys : Int)))]) := (hf41 (82) (by omega) (by omega) (by omega) (by omega)).trans m26_82
    refine lv_aload_n hx hb d_B_takeRest_44 rfl (lv_at hl 1 rfl) ?_
    refine pw_get (ci := 1) (C := R_F) (T := T_F) (N := 3) hx hb hq i_F hown hw (by omega) hFx_at_41 rfl 2 (by decide) (hq _ fl_B_76) (fun _ h9 => h9) rfl d_B_takeRest_45 ?_
    refine lv_aload_n hx hb d_B_takeRest_48 rfl (lv_at hl 2 rfl) ?_
    refine pw_get (ci := 1) (C := R_F) (T := T_F) (N := 3) hx hb hq i_F hown hw (by omega) hFy_at_41 rfl 2 (by decide) (hq _ fl_B_76) (fun _ h9 => h9) rfl d_B_takeRest_49 ?_
    refine wz_icmp_eq (tgt := 65) hx hb d_B_takeRest_52 (by decide) (by omega) (by omega) (by omega) (by omega) (fun c52 => ?_) (fun c52 => ?_)
    · refine lv_aload_n hx hb d_B_takeRest_65 rfl (lv_at hl 0 rfl) ?_
      refine pw_get (ci := 4) (C := R_B) (T := T_B) (N := 7) hx hb hq i_B hown hw (by omega) m26_82_at_41 rfl 0 (by decide) (hq _ fl_B_16) (fun _ h9 => h9) rfl d_B_takeRest_66 ?_
      refine lv_aload_n hx hb d_B_takeRest_69 rfl (lv_at hl 0 rfl) ?_
      refine pw_get (ci := 4) (C := R_B) (T := T_B) (N := 7) hx hb hq i_B hown hw (by omega) m26_82_at_41 rfl 2 (by decide) (hq _ fl_B_23) (fun _ h9 => h9) rfl d_B_takeRest_70 ?_
      refine pw_callv hw (va_runV (As := [.ref (ad (87))]) (rest := []) ⟨hx, hb, hml, hown, hq⟩ (c_W_become l D ty ad M F41 H.size (83) (87) 136 136 ((xt * yb) % (yt * xb)) (by omega) (by omega) (by omega) (by omega) (by omega) (((hxt.mul hyb).toMd.mod).f136) w83_at_41 w87) (cwV 1 hq (gV ml_B_47 im_W_become se_W_become in_W m_W_become) rfl rfl rfl (by decide +kernel) ⟨Nat.le_of_ble_eq_true rfl, Nat.le_of_ble_eq_true rfl⟩) (pw_preWa hw (by omega) w83_at_41) rfl rfl hl.1 rfl (lv_room (Nat.le_of_ble_eq_true rfl)) d_B_takeRest_73 ⟨Nat.le_of_ble_eq_true rfl, Nat.le_of_ble_eq_true rfl⟩) (fun F73 H locs q73 hw => ?_)
      obtain ⟨w83, hf73⟩ := q73
      have hD_at_73 : F73 (93) = .inr (3, [.ref (ad (93 + 1)), .long (f0), .long (g0), .long (h0), .long (k0)]) := (hf73 (93) (by omega) (by omega)).trans hD_at_41
      have w94_at_73 : Wa ty ad F73 (93 + 1) 136 := Wa.mv w94_at_41 (hf73 (93 + 1) (by omega) (by omega)) (hf73 (93 + 1 + 1) (by omega) (by omega))
      have hFx_at_73 : F73 (x) = .inr (1, [.ref (ad (x + 1)), .ref (ad (x + 3)), .int (iI ((xs : Int)))]) := (hf73 (x) (by omega) (by omega)).trans hFx_at_41
      have wx1_at_73 : Wv ty ad F73 (x + 1) 67 (xt) := Wv.mv wx1_at_41 (hf73 (x + 1) (by omega) (by omega)) (hf73 (x + 1 + 1) (by omega) (by omega))
      have wx3_at_73 : Wv ty ad F73 (x + 3) 67 (xb) := Wv.mv wx3_at_41 (hf73 (x + 3) (by omega) (by omega)) (hf73 (x + 3 + 1) (by omega) (by omega))
      have hFy_at_73 : F73 (y) = .inr (1, [.ref (ad (y + 1)), .ref (ad (y + 3)), .int (iI ((ys : Int)))]) := (hf73 (y) (by omega) (by omega)).trans hFy_at_41
      have wy1_at_73 : Wv ty ad F73 (y + 1) 67 (yt) := Wv.mv wy1_at_41 (hf73 (y + 1) (by omega) (by omega)) (hf73 (y + 1 + 1) (by omega) (by omega))
      have wy3_at_73 : Wv ty ad F73 (y + 3) 67 (yb) := Wv.mv wy3_at_41 (hf73 (y + 3) (by omega) (by omega)) (hf73 (y + 3 + 1) (by omega) (by omega))
      have w89_at_73 : Wv ty ad F73 (89) 136 (yt * xb) := Wv.mv w89_at_41 (hf73 (89) (by omega) (by omega)) (hf73 (89 + 1) (by omega) (by omega))
      have w85_at_73 : Wv ty ad F73 (85) 136 (xb * yb) := Wv.mv w85_at_41 (hf73 (85) (by omega) (by omega)) (hf73 (85 + 1) (by omega) (by omega))
      have m26_82_at_73 : F73 (82) = .inr (4, [.ref (ad (83)), .ref (ad (85)), .ref (ad (87)), .ref (ad (89)), .ref (ad (91)), .ref (ad (93)), .int (iI ((ys : Int)))]) := (hf73 (82) (by omega) (by omega)).trans m26_82_at_41
      have w87_at_73 : Wv ty ad F73 (87) 136 ((xt * yb) % (yt * xb)) := Wv.mv w87 (hf73 (87) (by omega) (by omega)) (hf73 (87 + 1) (by omega) (by omega))
      have w91_at_73 : Wv ty ad F73 (91) 136 ((xt * yb) / (yt * xb)) := Wv.mv w91 (hf73 (91) (by omega) (by omega)) (hf73 (91 + 1) (by omega) (by omega))
      refine lv_goto (tgt := 98) hx hb d_B_takeRest_76 (by decide) ?_
      rw [← hQ]
      exact pw_vret hx hb hr hlocks hw (⟨⟨hby, m26_82_at_73, by rw [if_pos (Or.inl (by omega))]; exact w83, w85_at_73, (w87_at_73).a, (w89_at_73).a, (w91_at_73).a, ⟨_, _, _, _, hD_at_73⟩, w94_at_73⟩, fun y9 h9 => (hf73 (y9) (by omega) (by omega)).trans ((hf41 (y9) (by omega) (by omega) (by omega) (by omega)).trans ((show F26 (y9) = F18 (y9) from by rw [eF26]; exact va_up_ne _ _ (by omega)).trans ((hf18 (y9) (by omega) (by omega)).trans (hf3 (y9) (by omega)))))⟩) d_B_takeRest_98
    · refine lv_aload_n hx hb d_B_takeRest_55 rfl (lv_at hl 0 rfl) ?_
      refine pw_get (ci := 4) (C := R_B) (T := T_B) (N := 7) hx hb hq i_B hown hw (by omega) m26_82_at_41 rfl 2 (by decide) (hq _ fl_B_23) (fun _ h9 => h9) rfl d_B_takeRest_56 ?_
      refine pw_calli hw (va_runV (As := []) (rest := []) ⟨hx, hb, hml, hown, hq⟩ (c_W_isZero l D ty ad M F41 H.size (87) 136 ((xt * yb) % (yt * xb)) (by omega) (by omega) w87) (cwV 0 hq (gV ml_B_73 im_W_isZero se_W_isZero in_W m_W_isZero) rfl rfl rfl (by decide +kernel) ⟨Nat.le_of_ble_eq_true rfl, Nat.le_of_ble_eq_true rfl⟩) (pw_preWa hw (by omega) ((w87).a)) rfl rfl hl.1 rfl (lv_room (Nat.le_of_ble_eq_true rfl)) d_B_takeRest_59 ⟨Nat.le_of_ble_eq_true rfl, Nat.le_of_ble_eq_true rfl⟩) (fun r59 F59 H locs q59 hw => ?_)
      obtain ⟨er59, eF59⟩ := q59
      rw [eF59] at hw
      clear eF59
      subst er59
      refine wz_if_eq (tgt := 79) hx hb d_B_takeRest_62 (by decide) (by split <;> omega) (by split <;> omega) (fun c62 => ?_) (fun c62 => ?_)
      · have hz := ite_z.mp c62
        refine lv_aload_n hx hb d_B_takeRest_79 rfl (lv_at hl 0 rfl) ?_
        refine pw_get (ci := 4) (C := R_B) (T := T_B) (N := 7) hx hb hq i_B hown hw (by omega) m26_82_at_41 rfl 0 (by decide) (hq _ fl_B_16) (fun _ h9 => h9) rfl d_B_takeRest_80 ?_
        refine lv_lconst (v := iL 1) hx hb d_B_takeRest_83 (by decide) ?_
        refine lv_aload_n hx hb d_B_takeRest_84 rfl (lv_at hl 0 rfl) ?_
        refine pw_get (ci := 4) (C := R_B) (T := T_B) (N := 7) hx hb hq i_B hown hw (by omega) m26_82_at_41 rfl 3 (by decide) (hq _ fl_B_26) (fun _ h9 => h9) rfl d_B_takeRest_85 ?_
        refine lv_ldc2 (v := iL (-1)) hx hb hown (hq _ cj_B_127) d_B_takeRest_88 ?_
        refine lv_aload_n hx hb d_B_takeRest_91 rfl (lv_at hl 0 rfl) ?_
        refine pw_get (ci := 4) (C := R_B) (T := T_B) (N := 7) hx hb hq i_B hown hw (by omega) m26_82_at_41 rfl 2 (by decide) (hq _ fl_B_23) (fun _ h9 => h9) rfl d_B_takeRest_92 ?_
        refine pw_callv hw (va_runV (As := [.long (iL (1)), .ref (ad (89)), .long (iL (-1)), .ref (ad (87))]) (rest := []) ⟨hx, hb, hml, hown, hq⟩ (c_W_becomeMix l D ty ad M F41 H.size (83) (89) (87) 136 136 136 (yt * xb) ((xt * yb) % (yt * xb)) (yt * xb - xt * yb % (yt * xb)) 1 (-1) (by omega) (by omega) (by omega) (by omega) (by omega) (by omega) (by omega) (by omega) (by omega) (by omega) (by omega) (by omega) ((hyt.mul hxb).toMd.f135) (((hxt.mul hyb).toMd.mod).f135) (by omega) w89_at_41 w87 w83_at_41) (cwV 4 hq (gV ml_B_123 im_W_becomeMix se_W_becomeMix in_W m_W_becomeMix) rfl rfl rfl (by decide +kernel) ⟨Nat.le_of_ble_eq_true rfl, Nat.le_of_ble_eq_true rfl⟩) (pw_preWa hw (by omega) w83_at_41) rfl rfl hl.1 rfl (lv_room (Nat.le_of_ble_eq_true rfl)) d_B_takeRest_95 ⟨Nat.le_of_ble_eq_true rfl, Nat.le_of_ble_eq_true rfl⟩) (fun F95 H locs q95 hw => ?_)
        obtain ⟨w83, hf95⟩ := q95
        have hD_at_95 : F95 (93) = .inr (3, [.ref (ad (93 + 1)), .long (f0), .long (g0), .long (h0), .long (k0)]) := (hf95 (93) (by omega) (by omega)).trans hD_at_41
        have w94_at_95 : Wa ty ad F95 (93 + 1) 136 := Wa.mv w94_at_41 (hf95 (93 + 1) (by omega) (by omega)) (hf95 (93 + 1 + 1) (by omega) (by omega))
        have hFx_at_95 : F95 (x) = .inr (1, [.ref (ad (x + 1)), .ref (ad (x + 3)), .int (iI ((xs : Int)))]) := (hf95 (x) (by omega) (by omega)).trans hFx_at_41
        have wx1_at_95 : Wv ty ad F95 (x + 1) 67 (xt) := Wv.mv wx1_at_41 (hf95 (x + 1) (by omega) (by omega)) (hf95 (x + 1 + 1) (by omega) (by omega))
        have wx3_at_95 : Wv ty ad F95 (x + 3) 67 (xb) := Wv.mv wx3_at_41 (hf95 (x + 3) (by omega) (by omega)) (hf95 (x + 3 + 1) (by omega) (by omega))
        have hFy_at_95 : F95 (y) = .inr (1, [.ref (ad (y + 1)), .ref (ad (y + 3)), .int (iI ((ys : Int)))]) := (hf95 (y) (by omega) (by omega)).trans hFy_at_41
        have wy1_at_95 : Wv ty ad F95 (y + 1) 67 (yt) := Wv.mv wy1_at_41 (hf95 (y + 1) (by omega) (by omega)) (hf95 (y + 1 + 1) (by omega) (by omega))
        have wy3_at_95 : Wv ty ad F95 (y + 3) 67 (yb) := Wv.mv wy3_at_41 (hf95 (y + 3) (by omega) (by omega)) (hf95 (y + 3 + 1) (by omega) (by omega))
        have w89_at_95 : Wv ty ad F95 (89) 136 (yt * xb) := Wv.mv w89_at_41 (hf95 (89) (by omega) (by omega)) (hf95 (89 + 1) (by omega) (by omega))
        have w85_at_95 : Wv ty ad F95 (85) 136 (xb * yb) := Wv.mv w85_at_41 (hf95 (85) (by omega) (by omega)) (hf95 (85 + 1) (by omega) (by omega))
        have m26_82_at_95 : F95 (82) = .inr (4, [.ref (ad (83)), .ref (ad (85)), .ref (ad (87)), .ref (ad (89)), .ref (ad (91)), .ref (ad (93)), .int (iI ((ys : Int)))]) := (hf95 (82) (by omega) (by omega)).trans m26_82_at_41
        have w87_at_95 : Wv ty ad F95 (87) 136 ((xt * yb) % (yt * xb)) := Wv.mv w87 (hf95 (87) (by omega) (by omega)) (hf95 (87 + 1) (by omega) (by omega))
        have w91_at_95 : Wv ty ad F95 (91) 136 ((xt * yb) / (yt * xb)) := Wv.mv w91 (hf95 (91) (by omega) (by omega)) (hf95 (91 + 1) (by omega) (by omega))
        rw [← hQ]
        exact pw_vret hx hb hr hlocks hw (⟨⟨hby, m26_82_at_95, by rw [if_neg (fun h9 => h9.elim (fun h8 => absurd h8 (by omega)) hz)]; exact w83, w85_at_95, (w87_at_95).a, (w89_at_95).a, (w91_at_95).a, ⟨_, _, _, _, hD_at_95⟩, w94_at_95⟩, fun y9 h9 => (hf95 (y9) (by omega) (by omega)).trans ((hf41 (y9) (by omega) (by omega) (by omega) (by omega)).trans ((show F26 (y9) = F18 (y9) from by rw [eF26]; exact va_up_ne _ _ (by omega)).trans ((hf18 (y9) (by omega) (by omega)).trans (hf3 (y9) (by omega)))))⟩) d_B_takeRest_98
      · have hz := ite_nz.mp c62
        refine lv_aload_n hx hb d_B_takeRest_65 rfl (lv_at hl 0 rfl) ?_
        refine pw_get (ci := 4) (C := R_B) (T := T_B) (N := 7) hx hb hq i_B hown hw (by omega) m26_82_at_41 rfl 0 (by decide) (hq _ fl_B_16) (fun _ h9 => h9) rfl d_B_takeRest_66 ?_
        refine lv_aload_n hx hb d_B_takeRest_69 rfl (lv_at hl 0 rfl) ?_
        refine pw_get (ci := 4) (C := R_B) (T := T_B) (N := 7) hx hb hq i_B hown hw (by omega) m26_82_at_41 rfl 2 (by decide) (hq _ fl_B_23) (fun _ h9 => h9) rfl d_B_takeRest_70 ?_
        refine pw_callv hw (va_runV (As := [.ref (ad (87))]) (rest := []) ⟨hx, hb, hml, hown, hq⟩ (c_W_become l D ty ad M F41 H.size (83) (87) 136 136 ((xt * yb) % (yt * xb)) (by omega) (by omega) (by omega) (by omega) (by omega) (((hxt.mul hyb).toMd.mod).f136) w83_at_41 w87) (cwV 1 hq (gV ml_B_47 im_W_become se_W_become in_W m_W_become) rfl rfl rfl (by decide +kernel) ⟨Nat.le_of_ble_eq_true rfl, Nat.le_of_ble_eq_true rfl⟩) (pw_preWa hw (by omega) w83_at_41) rfl rfl hl.1 rfl (lv_room (Nat.le_of_ble_eq_true rfl)) d_B_takeRest_73 ⟨Nat.le_of_ble_eq_true rfl, Nat.le_of_ble_eq_true rfl⟩) (fun F73 H locs q73 hw => ?_)
        obtain ⟨w83, hf73⟩ := q73
        have hD_at_73 : F73 (93) = .inr (3, [.ref (ad (93 + 1)), .long (f0), .long (g0), .long (h0), .long (k0)]) := (hf73 (93) (by omega) (by omega)).trans hD_at_41
        have w94_at_73 : Wa ty ad F73 (93 + 1) 136 := Wa.mv w94_at_41 (hf73 (93 + 1) (by omega) (by omega)) (hf73 (93 + 1 + 1) (by omega) (by omega))
        have hFx_at_73 : F73 (x) = .inr (1, [.ref (ad (x + 1)), .ref (ad (x + 3)), .int (iI ((xs : Int)))]) := (hf73 (x) (by omega) (by omega)).trans hFx_at_41
        have wx1_at_73 : Wv ty ad F73 (x + 1) 67 (xt) := Wv.mv wx1_at_41 (hf73 (x + 1) (by omega) (by omega)) (hf73 (x + 1 + 1) (by omega) (by omega))
        have wx3_at_73 : Wv ty ad F73 (x + 3) 67 (xb) := Wv.mv wx3_at_41 (hf73 (x + 3) (by omega) (by omega)) (hf73 (x + 3 + 1) (by omega) (by omega))
        have hFy_at_73 : F73 (y) = .inr (1, [.ref (ad (y + 1)), .ref (ad (y + 3)), .int (iI ((ys : Int)))]) := (hf73 (y) (by omega) (by omega)).trans hFy_at_41
        have wy1_at_73 : Wv ty ad F73 (y + 1) 67 (yt) := Wv.mv wy1_at_41 (hf73 (y + 1) (by omega) (by omega)) (hf73 (y + 1 + 1) (by omega) (by omega))
        have wy3_at_73 : Wv ty ad F73 (y + 3) 67 (yb) := Wv.mv wy3_at_41 (hf73 (y + 3) (by omega) (by omega)) (hf73 (y + 3 + 1) (by omega) (by omega))
        have w89_at_73 : Wv ty ad F73 (89) 136 (yt * xb) := Wv.mv w89_at_41 (hf73 (89) (by omega) (by omega)) (hf73 (89 + 1) (by omega) (by omega))
        have w85_at_73 : Wv ty ad F73 (85) 136 (xb * yb) := Wv.mv w85_at_41 (hf73 (85) (by omega) (by omega)) (hf73 (85 + 1) (by omega) (by omega))
        have m26_82_at_73 : F73 (82) = .inr (4, [.ref (ad (83)), .ref (ad (85)), .ref (ad (87)), .ref (ad (89)), .ref (ad (91)), .ref (ad (93)), .int (iI ((ys : Int)))]) := (hf73 (82) (by omega) (by omega)).trans m26_82_at_41
        have w87_at_73 : Wv ty ad F73 (87) 136 ((xt * yb) % (yt * xb)) := Wv.mv w87 (hf73 (87) (by omega) (by omega)) (hf73 (87 + 1) (by omega) (by omega))
        have w91_at_73 : Wv ty ad F73 (91) 136 ((xt * yb) / (yt * xb)) := Wv.mv w91 (hf73 (91) (by omega) (by omega)) (hf73 (91 + 1) (by omega) (by omega))
        refine lv_goto (tgt := 98) hx hb d_B_takeRest_76 (by decide) ?_
        rw [← hQ]
        exact pw_vret hx hb hr hlocks hw (⟨⟨hby, m26_82_at_73, by rw [if_pos (Or.inr hz)]; exact w83, w85_at_73, (w87_at_73).a, (w89_at_73).a, (w91_at_73).a, ⟨_, _, _, _, hD_at_73⟩, w94_at_73⟩, fun y9 h9 => (hf73 (y9) (by omega) (by omega)).trans ((hf41 (y9) (by omega) (by omega) (by omega) (by omega)).trans ((show F26 (y9) = F18 (y9) from by rw [eF26]; exact va_up_ne _ _ (by omega)).trans ((hf18 (y9) (by omega) (by omega)).trans (hf3 (y9) (by omega)))))⟩) d_B_takeRest_98
  rw [hH, hlo] at hgo
  exact hgo
set_option maxHeartbeats 4000000 in
set_option maxRecDepth 100000 in
/-- Bench.takeCommonDivisor(x, y) -/
theorem c_B_takeCommonDivisor (l : Launch) (D : va_G) (ty : Nat → ClassId) (ad : Nat → Nat) (M : Nat) (F : Nat → va_E) (sz : Nat) (hM : 97 < M) (hBn : Bn ty ad F)(x xt xb xs : Nat) (hMx : x + 4 < M) (hRx : Frc ty ad F x xt xb xs) (hx82 : x + 4 < 82) (hxt : sm xt) (hxb : sm xb) (y yt yb ys : Nat) (hMy : y + 4 < M) (hRy : Frc ty ad F y yt yb ys) (hy82 : y + 4 < 82) (hyt : sm yt) (hyb : sm yb)  :
    CV l y_B_takeCommonDivisor w_B_takeCommonDivisor ({ frames := 5, cells := 0, slots := 0, locals := 135 } : Room) [.ref (ad (82)), .ref (ad (x)), .ref (ad (y))] D ty ad M F sz (fun F1 => BnT ty ad F1 (Nat.gcd xt yt) 1 0 ∧ frB F F1) := by
  refine Met.ofW (cc := b_B_takeCommonDivisor) (maxL := 3) (ret := none) (by decide) rfl ?_
  intro p e s m args below meth c s₁ B hml hv
  obtain ⟨rfl, hsz, hP, hK, hD0⟩ := hv
  have hx := B.exec
  have hb := B.bytes
  have hr := B.returns
  have hts := atoms_spec (ws := w_B_takeCommonDivisor) B.pre
  have hq : ∀ w ∈ wT, w.before _ s = true := fun w h => hts w (List.mem_cons_of_mem _ h)
  have hown : s.vm.findClass R_B = some m.cls := findClass_of_methodNamed B.named
  have hlocks := B.notSynchronized
  subst hsz
  have hw := pw_start hP hK hD0
  have hl := lv_entry ([.ref (ad (82)), .ref (ad (x)), .ref (ad (y))]) (n := 3) (Nat.le_of_ble_eq_true rfl)
  rw [lg_entry_eq]
  generalize (lg_sl ([.ref (ad (82)), .ref (ad (x)), .ref (ad (y))]) ++ List.replicate (3 - (lg_sl ([.ref (ad (82)), .ref (ad (x)), .ref (ad (y))])).length) Slot.unset).toArray = ls at hl ⊢
  have hl : lv_has ls 3 [(0, .ref (ad (82))), (1, .ref (ad (x))), (2, .ref (ad (y)))] := hl
  change W p l e ({ frames := 5, cells := 0, slots := 0, locals := 135 } : Room) s m ([.ref (ad (82)), .ref (ad (x)), .ref (ad (y))]).toArray below meth c s.heap [] 0 0 (MQ below (va_Qv (fun F1 => BnT ty ad F1 (Nat.gcd xt yt) 1 0 ∧ frB F F1) (pAt D classes (tysL ty) ad M (pA ad M s.heap.size)) (pA ad M s.heap.size)) ([.ref (ad (82)), .ref (ad (x)), .ref (ad (y))]).toArray s 0 0 (pA ad M s.heap.size)) (F0 m 0 ls [])
  generalize hQ : MQ below (va_Qv (fun F1 => BnT ty ad F1 (Nat.gcd xt yt) 1 0 ∧ frB F F1) (pAt D classes (tysL ty) ad M (pA ad M s.heap.size)) (pA ad M s.heap.size)) ([.ref (ad (82)), .ref (ad (x)), .ref (ad (y))]).toArray s 0 0 (pA ad M s.heap.size) = Q
  obtain ⟨H, hH⟩ : ∃ H, H = s.heap := ⟨_, rfl⟩
  obtain ⟨locs, hlo⟩ : ∃ z : List Loc, z = [] := ⟨_, rfl⟩
  have hw : pw D classes (tysL ty) ad M F (pA ad M s.heap.size) s H locs := by rw [hH, hlo]; exact hw
  have hgo : W p l e ({ frames := 5, cells := 0, slots := 0, locals := 135 } : Room) s m ([.ref (ad (82)), .ref (ad (x)), .ref (ad (y))]).toArray below meth c H locs 0 0 Q (F0 m 0 ls []) := by
    obtain ⟨⟨bb, hbb, hB⟩, w83, w85, w87, w89, w91, ⟨f0, g0, h0, k0, hD⟩, w94⟩ := hBn
    obtain ⟨hbx, hFx, wx1, wx3⟩ := hRx
    obtain ⟨hby, hFy, wy1, wy3⟩ := hRy
    refine lv_aload_n hx hb d_B_takeCommonDivisor_0 rfl (lv_at hl 0 rfl) ?_
    refine pw_get (ci := 4) (C := R_B) (T := T_B) (N := 7) hx hb hq i_B hown hw (by omega) hB rfl 2 (by decide) (hq _ fl_B_23) (fun _ h9 => h9) rfl d_B_takeCommonDivisor_1 ?_
    refine lv_aload_n hx hb d_B_takeCommonDivisor_4 rfl (lv_at hl 1 rfl) ?_
    refine pw_get (ci := 1) (C := R_F) (T := T_F) (N := 3) hx hb hq i_F hown hw (by omega) hFx rfl 0 (by decide) (hq _ fl_B_69) (fun _ h9 => h9) rfl d_B_takeCommonDivisor_5 ?_
    refine pw_callv hw (va_runV (As := [.ref (ad (x + 1))]) (rest := []) ⟨hx, hb, hml, hown, hq⟩ (c_W_become l D ty ad M F H.size (87) (x + 1) 136 67 (xt) (by omega) (by omega) (by omega) (by omega) (by omega) (hxt.f136) w87 wx1) (cwV 1 hq (gV ml_B_47 im_W_become se_W_become in_W m_W_become) rfl rfl rfl (by decide +kernel) ⟨Nat.le_of_ble_eq_true rfl, Nat.le_of_ble_eq_true rfl⟩) (pw_preWa hw (by omega) w87) rfl rfl hl.1 rfl (lv_room (Nat.le_of_ble_eq_true rfl)) d_B_takeCommonDivisor_8 ⟨Nat.le_of_ble_eq_true rfl, Nat.le_of_ble_eq_true rfl⟩) (fun F8 H locs q8 hw => ?_)
    obtain ⟨w87, hf8⟩ := q8
    have hB_at_8 : F8 (82) = .inr (4, [.ref (ad (83)), .ref (ad (85)), .ref (ad (87)), .ref (ad (89)), .ref (ad (91)), .ref (ad (93)), .int (iI ((bb : Int)))]) := (hf8 (82) (by omega) (by omega)).trans hB
    have w83_at_8 : Wa ty ad F8 (83) 136 := Wa.mv w83 (hf8 (83) (by omega) (by omega)) (hf8 (83 + 1) (by omega) (by omega))
    have w85_at_8 : Wa ty ad F8 (85) 136 := Wa.mv w85 (hf8 (85) (by omega) (by omega)) (hf8 (85 + 1) (by omega) (by omega))
    have w89_at_8 : Wa ty ad F8 (89) 136 := Wa.mv w89 (hf8 (89) (by omega) (by omega)) (hf8 (89 + 1) (by omega) (by omega))
    have w91_at_8 : Wa ty ad F8 (91) 136 := Wa.mv w91 (hf8 (91) (by omega) (by omega)) (hf8 (91 + 1) (by omega) (by omega))
    have hD_at_8 : F8 (93) = .inr (3, [.ref (ad (93 + 1)), .long (f0), .long (g0), .long (h0), .long (k0)]) := (hf8 (93) (by omega) (by omega)).trans hD
    have w94_at_8 : Wa ty ad F8 (93 + 1) 136 := Wa.mv w94 (hf8 (93 + 1) (by omega) (by omega)) (hf8 (93 + 1 + 1) (by omega) (by omega))
    have hFx_at_8 : F8 (x) = .inr (1, [.ref (ad (x + 1)), .ref (ad (x + 3)), .int (iI ((xs : Int)))]) := (hf8 (x) (by omega) (by omega)).trans hFx
    have wx1_at_8 : Wv ty ad F8 (x + 1) 67 (xt) := Wv.mv wx1 (hf8 (x + 1) (by omega) (by omega)) (hf8 (x + 1 + 1) (by omega) (by omega))
    have wx3_at_8 : Wv ty ad F8 (x + 3) 67 (xb) := Wv.mv wx3 (hf8 (x + 3) (by omega) (by omega)) (hf8 (x + 3 + 1) (by omega) (by omega))
    have hFy_at_8 : F8 (y) = .inr (1, [.ref (ad (y + 1)), .ref (ad (y + 3)), .int (iI ((ys : Int)))]) := (hf8 (y) (by omega) (by omega)).trans hFy
    have wy1_at_8 : Wv ty ad F8 (y + 1) 67 (yt) := Wv.mv wy1 (hf8 (y + 1) (by omega) (by omega)) (hf8 (y + 1 + 1) (by omega) (by omega))
    have wy3_at_8 : Wv ty ad F8 (y + 3) 67 (yb) := Wv.mv wy3 (hf8 (y + 3) (by omega) (by omega)) (hf8 (y + 3 + 1) (by omega) (by omega))
    refine lv_aload_n hx hb d_B_takeCommonDivisor_11 rfl (lv_at hl 0 rfl) ?_
    refine pw_get (ci := 4) (C := R_B) (T := T_B) (N := 7) hx hb hq i_B hown hw (by omega) hB_at_8 rfl 3 (by decide) (hq _ fl_B_26) (fun _ h9 => h9) rfl d_B_takeCommonDivisor_12 ?_
    refine lv_aload_n hx hb d_B_takeCommonDivisor_15 rfl (lv_at hl 2 rfl) ?_
    refine pw_get (ci := 1) (C := R_F) (T := T_F) (N := 3) hx hb hq i_F hown hw (by omega) hFy_at_8 rfl 0 (by decide) (hq _ fl_B_69) (fun _ h9 => h9) rfl d_B_takeCommonDivisor_16 ?_
    refine pw_callv hw (va_runV (As := [.ref (ad (y + 1))]) (rest := []) ⟨hx, hb, hml, hown, hq⟩ (c_W_become l D ty ad M F8 H.size (89) (y + 1) 136 67 (yt) (by omega) (by omega) (by omega) (by omega) (by omega) (hyt.f136) w89_at_8 wy1_at_8) (cwV 1 hq (gV ml_B_47 im_W_become se_W_become in_W m_W_become) rfl rfl rfl (by decide +kernel) ⟨Nat.le_of_ble_eq_true rfl, Nat.le_of_ble_eq_true rfl⟩) (pw_preWa hw (by omega) w89_at_8) rfl rfl hl.1 rfl (lv_room (Nat.le_of_ble_eq_true rfl)) d_B_takeCommonDivisor_19 ⟨Nat.le_of_ble_eq_true rfl, Nat.le_of_ble_eq_true rfl⟩) (fun F19 H locs q19 hw => ?_)
    obtain ⟨w89, hf19⟩ := q19
    have hB_at_19 : F19 (82) = .inr (4, [.ref (ad (83)), .ref (ad (85)), .ref (ad (87)), .ref (ad (89)), .ref (ad (91)), .ref (ad (93)), .int (iI ((bb : Int)))]) := (hf19 (82) (by omega) (by omega)).trans hB_at_8
    have w83_at_19 : Wa ty ad F19 (83) 136 := Wa.mv w83_at_8 (hf19 (83) (by omega) (by omega)) (hf19 (83 + 1) (by omega) (by omega))
    have w85_at_19 : Wa ty ad F19 (85) 136 := Wa.mv w85_at_8 (hf19 (85) (by omega) (by omega)) (hf19 (85 + 1) (by omega) (by omega))
    have w91_at_19 : Wa ty ad F19 (91) 136 := Wa.mv w91_at_8 (hf19 (91) (by omega) (by omega)) (hf19 (91 + 1) (by omega) (by omega))
    have hD_at_19 : F19 (93) = .inr (3, [.ref (ad (93 + 1)), .long (f0), .long (g0), .long (h0), .long (k0)]) := (hf19 (93) (by omega) (by omega)).trans hD_at_8
    have w94_at_19 : Wa ty ad F19 (93 + 1) 136 := Wa.mv w94_at_8 (hf19 (93 + 1) (by omega) (by omega)) (hf19 (93 + 1 + 1) (by omega) (by omega))
    have hFx_at_19 : F19 (x) = .inr (1, [.ref (ad (x + 1)), .ref (ad (x + 3)), .int (iI ((xs : Int)))]) := (hf19 (x) (by omega) (by omega)).trans hFx_at_8
    have wx1_at_19 : Wv ty ad F19 (x + 1) 67 (xt) := Wv.mv wx1_at_8 (hf19 (x + 1) (by omega) (by omega)) (hf19 (x + 1 + 1) (by omega) (by omega))
    have wx3_at_19 : Wv ty ad F19 (x + 3) 67 (xb) := Wv.mv wx3_at_8 (hf19 (x + 3) (by omega) (by omega)) (hf19 (x + 3 + 1) (by omega) (by omega))
    have hFy_at_19 : F19 (y) = .inr (1, [.ref (ad (y + 1)), .ref (ad (y + 3)), .int (iI ((ys : Int)))]) := (hf19 (y) (by omega) (by omega)).trans hFy_at_8
    have wy1_at_19 : Wv ty ad F19 (y + 1) 67 (yt) := Wv.mv wy1_at_8 (hf19 (y + 1) (by omega) (by omega)) (hf19 (y + 1 + 1) (by omega) (by omega))
    have wy3_at_19 : Wv ty ad F19 (y + 3) 67 (yb) := Wv.mv wy3_at_8 (hf19 (y + 3) (by omega) (by omega)) (hf19 (y + 3 + 1) (by omega) (by omega))
    have w87_at_19 : Wv ty ad F19 (87) 136 (xt) := Wv.mv w87 (hf19 (87) (by omega) (by omega)) (hf19 (87 + 1) (by omega) (by omega))
    refine lv_aload_n hx hb d_B_takeCommonDivisor_22 rfl (lv_at hl 0 rfl) ?_
    refine lv_aload_n hx hb d_B_takeCommonDivisor_23 rfl (lv_at hl 0 rfl) ?_
    refine pw_get (ci := 4) (C := R_B) (T := T_B) (N := 7) hx hb hq i_B hown hw (by omega) hB_at_19 rfl 5 (by decide) (hq _ fl_B_35) (fun _ h9 => h9) rfl d_B_takeCommonDivisor_24 ?_
    refine lv_aload_n hx hb d_B_takeCommonDivisor_27 rfl (lv_at hl 0 rfl) ?_
    refine pw_get (ci := 4) (C := R_B) (T := T_B) (N := 7) hx hb hq i_B hown hw (by omega) hB_at_19 rfl 2 (by decide) (hq _ fl_B_23) (fun _ h9 => h9) rfl d_B_takeCommonDivisor_28 ?_
    refine lv_aload_n hx hb d_B_takeCommonDivisor_31 rfl (lv_at hl 0 rfl) ?_
    refine pw_get (ci := 4) (C := R_B) (T := T_B) (N := 7) hx hb hq i_B hown hw (by omega) hB_at_19 rfl 3 (by decide) (hq _ fl_B_26) (fun _ h9 => h9) rfl d_B_takeCommonDivisor_32 ?_
    refine pw_callr hw (va_runV (As := [.ref (ad (87)), .ref (ad (89))]) (rest := [.ref (ad (82))]) ⟨hx, hb, hml, hown, hq⟩ (c_D_greatestCommon l D ty ad M F19 H.size 93 87 89 (xt) (yt) (by omega) (by omega) (by omega) (by omega) (by omega) (by omega) (hxt.toMd.f135) (hyt.toMd.f135) _ _ _ _ hD_at_19 w87_at_19 w89 w94_at_19) (cwV 2 hq (gV ml_B_51 im_D_greatestCommon se_D_greatestCommon in_D m_D_greatestCommon) rfl rfl rfl (by decide +kernel) ⟨Nat.le_of_ble_eq_true rfl, Nat.le_of_ble_eq_true rfl⟩) (pw_preV hw (by omega) hD_at_19 rfl) rfl rfl hl.1 rfl (lv_room (Nat.le_of_ble_eq_true rfl)) d_B_takeCommonDivisor_35 ⟨Nat.le_of_ble_eq_true rfl, Nat.le_of_ble_eq_true rfl⟩) (fun r35 F35 H locs q35 hw => ?_)
    dsimp only at q35
    obtain ⟨hid, wg, w87, w89, w94, ⟨f1, g1, h1, k1, hD35⟩, hf35⟩ := q35
    have hB_at_35 : F35 (82) = .inr (4, [.ref (ad (83)), .ref (ad (85)), .ref (ad (87)), .ref (ad (89)), .ref (ad (91)), .ref (ad (93)), .int (iI ((bb : Int)))]) := (hf35 (82) (by omega) (by omega) (by omega) (by omega) (by omega) (by omega) (by omega)).trans hB_at_19
    have w83_at_35 : Wa ty ad F35 (83) 136 := Wa.mv w83_at_19 (hf35 (83) (by omega) (by omega) (by omega) (by omega) (by omega) (by omega) (by omega)) (hf35 (83 + 1) (by omega) (by omega) (by omega) (by omega) (by omega) (by omega) (by omega))
    have w85_at_35 : Wa ty ad F35 (85) 136 := Wa.mv w85_at_19 (hf35 (85) (by omega) (by omega) (by omega) (by omega) (by omega) (by omega) (by omega)) (hf35 (85 + 1) (by omega) (by omega) (by omega) (by omega) (by omega) (by omega) (by omega))
    have w91_at_35 : Wa ty ad F35 (91) 136 := Wa.mv w91_at_19 (hf35 (91) (by omega) (by omega) (by omega) (by omega) (by omega) (by omega) (by omega)) (hf35 (91 + 1) (by omega) (by omega) (by omega) (by omega) (by omega) (by omega) (by omega))
    have hFx_at_35 : F35 (x) = .inr (1, [.ref (ad (x + 1)), .ref (ad (x + 3)), .int (iI ((xs : Int)))]) := (hf35 (x) (by omega) (by omega) (by omega) (by omega) (by omega) (by omega) (by omega)).trans hFx_at_19
    have wx1_at_35 : Wv ty ad F35 (x + 1) 67 (xt) := Wv.mv wx1_at_19 (hf35 (x + 1) (by omega) (by omega) (by omega) (by omega) (by omega) (by omega) (by omega)) (hf35 (x + 1 + 1) (by omega) (by omega) (by omega) (by omega) (by omega) (by omega) (by omega))
    have wx3_at_35 : Wv ty ad F35 (x + 3) 67 (xb) := Wv.mv wx3_at_19 (hf35 (x + 3) (by omega) (by omega) (by omega) (by omega) (by omega) (by omega) (by omega)) (hf35 (x + 3 + 1) (by omega) (by omega) (by omega) (by omega) (by omega) (by omega) (by omega))
    have hFy_at_35 : F35 (y) = .inr (1, [.ref (ad (y + 1)), .ref (ad (y + 3)), .int (iI ((ys : Int)))]) := (hf35 (y) (by omega) (by omega) (by omega) (by omega) (by omega) (by omega) (by omega)).trans hFy_at_19
    have wy1_at_35 : Wv ty ad F35 (y + 1) 67 (yt) := Wv.mv wy1_at_19 (hf35 (y + 1) (by omega) (by omega) (by omega) (by omega) (by omega) (by omega) (by omega)) (hf35 (y + 1 + 1) (by omega) (by omega) (by omega) (by omega) (by omega) (by omega) (by omega))
    have wy3_at_35 : Wv ty ad F35 (y + 3) 67 (yb) := Wv.mv wy3_at_19 (hf35 (y + 3) (by omega) (by omega) (by omega) (by omega) (by omega) (by omega) (by omega)) (hf35 (y + 3 + 1) (by omega) (by omega) (by omega) (by omega) (by omega) (by omega) (by omega))
    refine wz_iconst (n := 0) hx hb d_B_takeCommonDivisor_38 ?_
    refine pw_callv hw (va_runV (As := [.ref (ad (r35)), .int (iI (0))]) (rest := []) ⟨hx, hb, hml, hown, hq⟩ (c_B_takeWhole l D ty ad M F35 H.size hM r35 136 (Nat.gcd xt yt) 0 bb (by omega) (by omega) (by omega) (by omega) (wg).ltN hB_at_35 w83_at_35 w85_at_35 wg) (cwV 2 hq (gV ml_B_137 im_B_takeWhole se_B_takeWhole in_B m_B_takeWhole) rfl rfl rfl (by decide +kernel) ⟨Nat.le_of_ble_eq_true rfl, Nat.le_of_ble_eq_true rfl⟩) (pw_preV hw (by omega) hB_at_35 rfl) rfl rfl hl.1 rfl (lv_room (Nat.le_of_ble_eq_true rfl)) d_B_takeCommonDivisor_39 ⟨Nat.le_of_ble_eq_true rfl, Nat.le_of_ble_eq_true rfl⟩) (fun F39 H locs q39 hw => ?_)
    obtain ⟨hB39, w83, w85, hf39⟩ := q39
    have w91_at_39 : Wa ty ad F39 (91) 136 := Wa.mv w91_at_35 (hf39 (91) (by omega)) (hf39 (91 + 1) (by omega))
    have hFx_at_39 : F39 (x) = .inr (1, [.ref (ad (x + 1)), .ref (ad (x + 3)), .int (iI ((xs : Int)))]) := (hf39 (x) (by omega)).trans hFx_at_35
    have wx1_at_39 : Wv ty ad F39 (x + 1) 67 (xt) := Wv.mv wx1_at_35 (hf39 (x + 1) (by omega)) (hf39 (x + 1 + 1) (by omega))
    have wx3_at_39 : Wv ty ad F39 (x + 3) 67 (xb) := Wv.mv wx3_at_35 (hf39 (x + 3) (by omega)) (hf39 (x + 3 + 1) (by omega))
    have hFy_at_39 : F39 (y) = .inr (1, [.ref (ad (y + 1)), .ref (ad (y + 3)), .int (iI ((ys : Int)))]) := (hf39 (y) (by omega)).trans hFy_at_35
    have wy1_at_39 : Wv ty ad F39 (y + 1) 67 (yt) := Wv.mv wy1_at_35 (hf39 (y + 1) (by omega)) (hf39 (y + 1 + 1) (by omega))
    have wy3_at_39 : Wv ty ad F39 (y + 3) 67 (yb) := Wv.mv wy3_at_35 (hf39 (y + 3) (by omega)) (hf39 (y + 3 + 1) (by omega))
    have wg_at_39 : Wv ty ad F39 (r35) 136 (Nat.gcd xt yt) := Wv.mv wg (hf39 (r35) (by omega)) (hf39 (r35 + 1) (by omega))
    have w87_at_39 : Wa ty ad F39 (87) 136 := Wa.mv w87 (hf39 (87) (by omega)) (hf39 (87 + 1) (by omega))
    have w89_at_39 : Wa ty ad F39 (89) 136 := Wa.mv w89 (hf39 (89) (by omega)) (hf39 (89 + 1) (by omega))
    have w94_at_39 : Wa ty ad F39 (93 + 1) 136 := Wa.mv w94 (hf39 (93 + 1) (by omega)) (hf39 (93 + 1 + 1) (by omega))
    have hD35_at_39 : F39 (93) = .inr (3, [.ref (ad (93 + 1)), .long (f1), .long (g1), .long (h1), .long (k1)]) := (hf39 (93) (by omega)).trans hD35
    rw [← hQ]
    exact pw_vret hx hb hr hlocks hw (⟨⟨by omega, hB39, w83, w85, w87_at_39, w89_at_39, w91_at_39, ⟨_, _, _, _, hD35_at_39⟩, w94_at_39⟩, fun y9 h9 => (hf39 (y9) (by omega)).trans ((hf35 (y9) (by omega) (by omega) (by omega) (by omega) (by omega) (by omega) (by omega)).trans ((hf19 (y9) (by omega) (by omega)).trans (hf8 (y9) (by omega) (by omega))))⟩) d_B_takeCommonDivisor_42
  rw [hH, hlo] at hgo
  exact hgo
set_option maxHeartbeats 4000000 in
set_option maxRecDepth 100000 in
/-- Bench.divideOut(number, divisor) -/
theorem c_B_divideOut (l : Launch) (D : va_G) (ty : Nat → ClassId) (ad : Nat → Nat) (M : Nat) (F : Nat → va_E) (sz : Nat) (hM : 97 < M) (bb a gi va gv : Nat) (haa : a = 83 ∨ a = 85) (hgg : gi = 87 ∨ gi = 89) (hma : md va) (hB : F 82 = oB ad bb) (w1 : Wv ty ad F a 136 va) (w2 : Wv ty ad F gi 136 gv) (w91 : Wa ty ad F 91 136) :
    CV l y_B_divideOut w_B_divideOut ({ frames := 4, cells := 0, slots := 0, locals := 108 } : Room) [.ref (ad (82)), .ref (ad (a)), .ref (ad (gi))] D ty ad M F sz (fun F1 => Wv ty ad F1 a 136 (va / gv) ∧ Wa ty ad F1 91 136 ∧ ∀ y, y ≠ a → y ≠ a + 1 → y ≠ 91 → y ≠ 92 → F1 y = F y) := by
  refine Met.ofW (cc := b_B_divideOut) (maxL := 3) (ret := none) (by decide) rfl ?_
  intro p e s m args below meth c s₁ B hml hv
  obtain ⟨rfl, hsz, hP, hK, hD0⟩ := hv
  have hx := B.exec
  have hb := B.bytes
  have hr := B.returns
  have hts := atoms_spec (ws := w_B_divideOut) B.pre
  have hq : ∀ w ∈ wT, w.before _ s = true := fun w h => hts w (List.mem_cons_of_mem _ h)
  have hown : s.vm.findClass R_B = some m.cls := findClass_of_methodNamed B.named
  have hlocks := B.notSynchronized
  subst hsz
  have hw := pw_start hP hK hD0
  have hl := lv_entry ([.ref (ad (82)), .ref (ad (a)), .ref (ad (gi))]) (n := 3) (Nat.le_of_ble_eq_true rfl)
  rw [lg_entry_eq]
  generalize (lg_sl ([.ref (ad (82)), .ref (ad (a)), .ref (ad (gi))]) ++ List.replicate (3 - (lg_sl ([.ref (ad (82)), .ref (ad (a)), .ref (ad (gi))])).length) Slot.unset).toArray = ls at hl ⊢
  have hl : lv_has ls 3 [(0, .ref (ad (82))), (1, .ref (ad (a))), (2, .ref (ad (gi)))] := hl
  change W p l e ({ frames := 4, cells := 0, slots := 0, locals := 108 } : Room) s m ([.ref (ad (82)), .ref (ad (a)), .ref (ad (gi))]).toArray below meth c s.heap [] 0 0 (MQ below (va_Qv (fun F1 => Wv ty ad F1 a 136 (va / gv) ∧ Wa ty ad F1 91 136 ∧ ∀ y, y ≠ a → y ≠ a + 1 → y ≠ 91 → y ≠ 92 → F1 y = F y) (pAt D classes (tysL ty) ad M (pA ad M s.heap.size)) (pA ad M s.heap.size)) ([.ref (ad (82)), .ref (ad (a)), .ref (ad (gi))]).toArray s 0 0 (pA ad M s.heap.size)) (F0 m 0 ls [])
  generalize hQ : MQ below (va_Qv (fun F1 => Wv ty ad F1 a 136 (va / gv) ∧ Wa ty ad F1 91 136 ∧ ∀ y, y ≠ a → y ≠ a + 1 → y ≠ 91 → y ≠ 92 → F1 y = F y) (pAt D classes (tysL ty) ad M (pA ad M s.heap.size)) (pA ad M s.heap.size)) ([.ref (ad (82)), .ref (ad (a)), .ref (ad (gi))]).toArray s 0 0 (pA ad M s.heap.size) = Q
  obtain ⟨H, hH⟩ : ∃ H, H = s.heap := ⟨_, rfl⟩
  obtain ⟨locs, hlo⟩ : ∃ z : List Loc, z = [] := ⟨_, rfl⟩
  have hw : pw D classes (tysL ty) ad M F (pA ad M s.heap.size) s H locs := by rw [hH, hlo]; exact hw
  have hgo : W p l e ({ frames := 4, cells := 0, slots := 0, locals := 108 } : Room) s m ([.ref (ad (82)), .ref (ad (a)), .ref (ad (gi))]).toArray below meth c H locs 0 0 Q (F0 m 0 ls []) := by
    refine lv_aload_n hx hb d_B_divideOut_0 rfl (lv_at hl 2 rfl) ?_
    refine pw_calli hw (va_runV (As := []) (rest := []) ⟨hx, hb, hml, hown, hq⟩ (c_W_isOne l D ty ad M F H.size (gi) 136 (gv) (by omega) (by omega) w2) (cwV 0 hq (gV ml_B_43 im_W_isOne se_W_isOne in_W m_W_isOne) rfl rfl rfl (by decide +kernel) ⟨Nat.le_of_ble_eq_true rfl, Nat.le_of_ble_eq_true rfl⟩) (pw_preWa hw (by omega) ((w2).a)) rfl rfl hl.1 rfl (lv_room (Nat.le_of_ble_eq_true rfl)) d_B_divideOut_1 ⟨Nat.le_of_ble_eq_true rfl, Nat.le_of_ble_eq_true rfl⟩) (fun r1 F1 H locs q1 hw => ?_)
    obtain ⟨er1, eF1⟩ := q1
    rw [eF1] at hw
    clear eF1
    subst er1
    refine wz_if_ne (tgt := 24) hx hb d_B_divideOut_4 (by decide) (by split <;> omega) (by split <;> omega) (fun c4 => ?_) (fun c4 => ?_)
    · have hz := ite_nz.mp c4
      rw [← hQ]
      exact pw_vret hx hb hr hlocks hw (⟨by rw [hz, Nat.div_one]; exact w1, w91, fun _ _ _ _ _ => rfl⟩) d_B_divideOut_24
    · have hz := ite_z.mp c4
      refine lv_aload_n hx hb d_B_divideOut_7 rfl (lv_at hl 1 rfl) ?_
      refine lv_aload_n hx hb d_B_divideOut_8 rfl (lv_at hl 2 rfl) ?_
      refine lv_aload_n hx hb d_B_divideOut_9 rfl (lv_at hl 0 rfl) ?_
      refine pw_get (ci := 4) (C := R_B) (T := T_B) (N := 7) hx hb hq i_B hown hw (by omega) hB rfl 4 (by decide) (hq _ fl_B_29) (fun _ h9 => h9) rfl d_B_divideOut_10 ?_
      refine pw_callv hw (va_runV (As := [.ref (ad (gi)), .ref (ad (91))]) (rest := []) ⟨hx, hb, hml, hown, hq⟩ (c_W_leaveRest l D ty ad M F H.size (a) (gi) (91) 136 136 136 (va) (gv) (by omega) (by omega) (by omega) (by omega) (by omega) (by omega) (by omega) (by omega) (by omega) (by omega) (hma.f135) (hma.f136) w1 w2 w91) (cwV 2 hq (gV ml_B_63 im_W_leaveRest se_W_leaveRest in_W m_W_leaveRest) rfl rfl rfl (by decide +kernel) ⟨Nat.le_of_ble_eq_true rfl, Nat.le_of_ble_eq_true rfl⟩) (pw_preWa hw (by omega) ((w1).a)) rfl rfl hl.1 rfl (lv_room (Nat.le_of_ble_eq_true rfl)) d_B_divideOut_13 ⟨Nat.le_of_ble_eq_true rfl, Nat.le_of_ble_eq_true rfl⟩) (fun F13 H locs q13 hw => ?_)
      obtain ⟨wa, w91, hf13⟩ := q13
      have hB_at_13 : F13 (82) = .inr (4, [.ref (ad (83)), .ref (ad (85)), .ref (ad (87)), .ref (ad (89)), .ref (ad (91)), .ref (ad (93)), .int (iI ((bb : Int)))]) := (hf13 (82) (by omega) (by omega) (by omega) (by omega)).trans hB
      have w2_at_13 : Wv ty ad F13 (gi) 136 (gv) := Wv.mv w2 (hf13 (gi) (by omega) (by omega) (by omega) (by omega)) (hf13 (gi + 1) (by omega) (by omega) (by omega) (by omega))
      refine lv_aload_n hx hb d_B_divideOut_16 rfl (lv_at hl 1 rfl) ?_
      refine lv_aload_n hx hb d_B_divideOut_17 rfl (lv_at hl 0 rfl) ?_
      refine pw_get (ci := 4) (C := R_B) (T := T_B) (N := 7) hx hb hq i_B hown hw (by omega) hB_at_13 rfl 4 (by decide) (hq _ fl_B_29) (fun _ h9 => h9) rfl d_B_divideOut_18 ?_
      refine pw_callv hw (va_runV (As := [.ref (ad (91))]) (rest := []) ⟨hx, hb, hml, hown, hq⟩ (c_W_become l D ty ad M F13 H.size (a) (91) 136 136 (va / gv) (by omega) (by omega) (by omega) (by omega) (by omega) (hma.div.f136) (wa).a w91) (cwV 1 hq (gV ml_B_47 im_W_become se_W_become in_W m_W_become) rfl rfl rfl (by decide +kernel) ⟨Nat.le_of_ble_eq_true rfl, Nat.le_of_ble_eq_true rfl⟩) (pw_preWa hw (by omega) ((wa).a)) rfl rfl hl.1 rfl (lv_room (Nat.le_of_ble_eq_true rfl)) d_B_divideOut_21 ⟨Nat.le_of_ble_eq_true rfl, Nat.le_of_ble_eq_true rfl⟩) (fun F21 H locs q21 hw => ?_)
      obtain ⟨wa, hf21⟩ := q21
      have hB_at_21 : F21 (82) = .inr (4, [.ref (ad (83)), .ref (ad (85)), .ref (ad (87)), .ref (ad (89)), .ref (ad (91)), .ref (ad (93)), .int (iI ((bb : Int)))]) := (hf21 (82) (by omega) (by omega)).trans hB_at_13
      have w2_at_21 : Wv ty ad F21 (gi) 136 (gv) := Wv.mv w2_at_13 (hf21 (gi) (by omega) (by omega)) (hf21 (gi + 1) (by omega) (by omega))
      have w91_at_21 : Wv ty ad F21 (91) 136 (va / gv) := Wv.mv w91 (hf21 (91) (by omega) (by omega)) (hf21 (91 + 1) (by omega) (by omega))
      rw [← hQ]
      exact pw_vret hx hb hr hlocks hw (⟨wa, (w91_at_21).a, fun y9 h1 h2 h3 h4 => (hf21 (y9) (by omega) (by omega)).trans (hf13 (y9) (by omega) (by omega) (by omega) (by omega))⟩) d_B_divideOut_24
  rw [hH, hlo] at hgo
  exact hgo
set_option maxHeartbeats 4000000 in
set_option maxRecDepth 100000 in
/-- Bench.multiplyWhole(number, by) -/
theorem c_B_multiplyWhole (l : Launch) (D : va_G) (ty : Nat → ClassId) (ad : Nat → Nat) (M : Nat) (F : Nat → va_E) (sz : Nat) (hM : 97 < M) (bb a b Nb va vb : Nat) (haa : a = 83 ∨ a = 85) (hbz : b = a ∨ b + 1 < 82) (hNb : Nb < 1000) (hva : sm va) (hvb : sm vb) (hB : F 82 = oB ad bb) (wa_ : Wv ty ad F a 136 va) (wb_ : Wv ty ad F b Nb vb) (w91 : Wa ty ad F 91 136) :
    CV l y_B_multiplyWhole w_B_multiplyWhole ({ frames := 3, cells := 0, slots := 0, locals := 82 } : Room) [.ref (ad (82)), .ref (ad (a)), .ref (ad (b))] D ty ad M F sz (fun F1 => Wv ty ad F1 a 136 (va * vb) ∧ Wa ty ad F1 91 136 ∧ ∀ y, y ≠ a → y ≠ a + 1 → y ≠ 91 → y ≠ 92 → F1 y = F y) := by
  refine Met.ofW (cc := b_B_multiplyWhole) (maxL := 3) (ret := none) (by decide) rfl ?_
  intro p e s m args below meth c s₁ B hml hv
  obtain ⟨rfl, hsz, hP, hK, hD0⟩ := hv
  have hx := B.exec
  have hb := B.bytes
  have hr := B.returns
  have hts := atoms_spec (ws := w_B_multiplyWhole) B.pre
  have hq : ∀ w ∈ wT, w.before _ s = true := fun w h => hts w (List.mem_cons_of_mem _ h)
  have hown : s.vm.findClass R_B = some m.cls := findClass_of_methodNamed B.named
  have hlocks := B.notSynchronized
  subst hsz
  have hw := pw_start hP hK hD0
  have hl := lv_entry ([.ref (ad (82)), .ref (ad (a)), .ref (ad (b))]) (n := 3) (Nat.le_of_ble_eq_true rfl)
  rw [lg_entry_eq]
  generalize (lg_sl ([.ref (ad (82)), .ref (ad (a)), .ref (ad (b))]) ++ List.replicate (3 - (lg_sl ([.ref (ad (82)), .ref (ad (a)), .ref (ad (b))])).length) Slot.unset).toArray = ls at hl ⊢
  have hl : lv_has ls 3 [(0, .ref (ad (82))), (1, .ref (ad (a))), (2, .ref (ad (b)))] := hl
  change W p l e ({ frames := 3, cells := 0, slots := 0, locals := 82 } : Room) s m ([.ref (ad (82)), .ref (ad (a)), .ref (ad (b))]).toArray below meth c s.heap [] 0 0 (MQ below (va_Qv (fun F1 => Wv ty ad F1 a 136 (va * vb) ∧ Wa ty ad F1 91 136 ∧ ∀ y, y ≠ a → y ≠ a + 1 → y ≠ 91 → y ≠ 92 → F1 y = F y) (pAt D classes (tysL ty) ad M (pA ad M s.heap.size)) (pA ad M s.heap.size)) ([.ref (ad (82)), .ref (ad (a)), .ref (ad (b))]).toArray s 0 0 (pA ad M s.heap.size)) (F0 m 0 ls [])
  generalize hQ : MQ below (va_Qv (fun F1 => Wv ty ad F1 a 136 (va * vb) ∧ Wa ty ad F1 91 136 ∧ ∀ y, y ≠ a → y ≠ a + 1 → y ≠ 91 → y ≠ 92 → F1 y = F y) (pAt D classes (tysL ty) ad M (pA ad M s.heap.size)) (pA ad M s.heap.size)) ([.ref (ad (82)), .ref (ad (a)), .ref (ad (b))]).toArray s 0 0 (pA ad M s.heap.size) = Q
  obtain ⟨H, hH⟩ : ∃ H, H = s.heap := ⟨_, rfl⟩
  obtain ⟨locs, hlo⟩ : ∃ z : List Loc, z = [] := ⟨_, rfl⟩
  have hw : pw D classes (tysL ty) ad M F (pA ad M s.heap.size) s H locs := by rw [hH, hlo]; exact hw
  have hgo : W p l e ({ frames := 3, cells := 0, slots := 0, locals := 82 } : Room) s m ([.ref (ad (82)), .ref (ad (a)), .ref (ad (b))]).toArray below meth c H locs 0 0 Q (F0 m 0 ls []) := by
    refine lv_aload_n hx hb d_B_multiplyWhole_0 rfl (lv_at hl 0 rfl) ?_
    refine pw_get (ci := 4) (C := R_B) (T := T_B) (N := 7) hx hb hq i_B hown hw (by omega) hB rfl 4 (by decide) (hq _ fl_B_29) (fun _ h9 => h9) rfl d_B_multiplyWhole_1 ?_
    refine lv_aload_n hx hb d_B_multiplyWhole_4 rfl (lv_at hl 1 rfl) ?_
    refine lv_aload_n hx hb d_B_multiplyWhole_5 rfl (lv_at hl 2 rfl) ?_
    refine pw_callv hw (va_runV (As := [.ref (ad (a)), .ref (ad (b))]) (rest := []) ⟨hx, hb, hml, hown, hq⟩ (c_W_becomeProduct l D ty ad M F H.size (91) (a) (b) 136 136 Nb (va) (vb) 67 67 (by omega) (by omega) (by omega) (by omega) (by omega) (by omega) (by omega) (by omega) (hva.f67) (hvb.f67) (by omega) w91 wa_ wb_) (cwV 2 hq (gV ml_B_109 im_W_becomeProduct se_W_becomeProduct in_W m_W_becomeProduct) rfl rfl rfl (by decide +kernel) ⟨Nat.le_of_ble_eq_true rfl, Nat.le_of_ble_eq_true rfl⟩) (pw_preWa hw (by omega) w91) rfl rfl hl.1 rfl (lv_room (Nat.le_of_ble_eq_true rfl)) d_B_multiplyWhole_6 ⟨Nat.le_of_ble_eq_true rfl, Nat.le_of_ble_eq_true rfl⟩) (fun F6 H locs q6 hw => ?_)
    obtain ⟨w91, hf6⟩ := q6
    have hB_at_6 : F6 (82) = .inr (4, [.ref (ad (83)), .ref (ad (85)), .ref (ad (87)), .ref (ad (89)), .ref (ad (91)), .ref (ad (93)), .int (iI ((bb : Int)))]) := (hf6 (82) (by omega) (by omega)).trans hB
    have wa__at_6 : Wv ty ad F6 (a) 136 (va) := Wv.mv wa_ (hf6 (a) (by omega) (by omega)) (hf6 (a + 1) (by omega) (by omega))
    have wb__at_6 : Wv ty ad F6 (b) Nb (vb) := Wv.mv wb_ (hf6 (b) (by omega) (by omega)) (hf6 (b + 1) (by omega) (by omega))
    refine lv_aload_n hx hb d_B_multiplyWhole_9 rfl (lv_at hl 1 rfl) ?_
    refine lv_aload_n hx hb d_B_multiplyWhole_10 rfl (lv_at hl 0 rfl) ?_
    refine pw_get (ci := 4) (C := R_B) (T := T_B) (N := 7) hx hb hq i_B hown hw (by omega) hB_at_6 rfl 4 (by decide) (hq _ fl_B_29) (fun _ h9 => h9) rfl d_B_multiplyWhole_11 ?_
    refine pw_callv hw (va_runV (As := [.ref (ad (91))]) (rest := []) ⟨hx, hb, hml, hown, hq⟩ (c_W_become l D ty ad M F6 H.size (a) (91) 136 136 (va * vb) (by omega) (by omega) (by omega) (by omega) (by omega) (w91).ltN (wa__at_6).a w91) (cwV 1 hq (gV ml_B_47 im_W_become se_W_become in_W m_W_become) rfl rfl rfl (by decide +kernel) ⟨Nat.le_of_ble_eq_true rfl, Nat.le_of_ble_eq_true rfl⟩) (pw_preWa hw (by omega) ((wa__at_6).a)) rfl rfl hl.1 rfl (lv_room (Nat.le_of_ble_eq_true rfl)) d_B_multiplyWhole_14 ⟨Nat.le_of_ble_eq_true rfl, Nat.le_of_ble_eq_true rfl⟩) (fun F14 H locs q14 hw => ?_)
    obtain ⟨wa, hf14⟩ := q14
    have hB_at_14 : F14 (82) = .inr (4, [.ref (ad (83)), .ref (ad (85)), .ref (ad (87)), .ref (ad (89)), .ref (ad (91)), .ref (ad (93)), .int (iI ((bb : Int)))]) := (hf14 (82) (by omega) (by omega)).trans hB_at_6
    have w91_at_14 : Wv ty ad F14 (91) 136 (va * vb) := Wv.mv w91 (hf14 (91) (by omega) (by omega)) (hf14 (91 + 1) (by omega) (by omega))
    rw [← hQ]
    exact pw_vret hx hb hr hlocks hw (⟨wa, (w91_at_14).a, fun y9 h1 h2 h3 h4 => (hf14 (y9) (by omega) (by omega)).trans (hf6 (y9) (by omega) (by omega))⟩) d_B_multiplyWhole_17
  rw [hH, hlo] at hgo
  exact hgo
set_option maxHeartbeats 4000000 in
set_option maxRecDepth 100000 in
/-- Bench.raiseWhole(result, base, times) -/
theorem c_B_raiseWhole (l : Launch) (D : va_G) (ty : Nat → ClassId) (ad : Nat → Nat) (M : Nat) (F : Nat → va_E) (sz : Nat) (hM : 97 < M) (bb a b vb k0 : Nat) (haa : a = 83 ∨ a = 85) (hb82 : b + 1 < 82) (hk0 : k0 ≤ 2048) (hvb : sm vb) (hB : F 82 = oB ad bb) (wa : Wa ty ad F a 136) (wb_ : Wv ty ad F b 67 vb) (w91 : Wa ty ad F 91 136) :
    CV l y_B_raiseWhole w_B_raiseWhole ({ frames := 4, cells := 0, slots := 0, locals := 104 } : Room) [.ref (ad (82)), .ref (ad (a)), .ref (ad (b)), .int (iI ((k0 : Int)))] D ty ad M F sz (fun F1 => (∃ rv, Wv ty ad F1 a 136 rv ∧ (sm rv ↔ sm (vb ^ k0)) ∧ (sm rv → rv = vb ^ k0)) ∧ Wa ty ad F1 91 136 ∧ ∀ y, y ≠ a → y ≠ a + 1 → y ≠ 91 → y ≠ 92 → F1 y = F y) := by
  refine Met.ofW (cc := b_B_raiseWhole) (maxL := 5) (ret := none) (by decide) rfl ?_
  intro p e s m args below meth c s₁ B hml hv
  obtain ⟨rfl, hsz, hP, hK, hD0⟩ := hv
  have hx := B.exec
  have hb := B.bytes
  have hr := B.returns
  have hts := atoms_spec (ws := w_B_raiseWhole) B.pre
  have hq : ∀ w ∈ wT, w.before _ s = true := fun w h => hts w (List.mem_cons_of_mem _ h)
  have hown : s.vm.findClass R_B = some m.cls := findClass_of_methodNamed B.named
  have hlocks := B.notSynchronized
  subst hsz
  have hw := pw_start hP hK hD0
  have hl := lv_entry ([.ref (ad (82)), .ref (ad (a)), .ref (ad (b)), .int (iI ((k0 : Int)))]) (n := 5) (Nat.le_of_ble_eq_true rfl)
  rw [lg_entry_eq]
  generalize (lg_sl ([.ref (ad (82)), .ref (ad (a)), .ref (ad (b)), .int (iI ((k0 : Int)))]) ++ List.replicate (5 - (lg_sl ([.ref (ad (82)), .ref (ad (a)), .ref (ad (b)), .int (iI ((k0 : Int)))])).length) Slot.unset).toArray = ls at hl ⊢
  have hl : lv_has ls 5 [(0, .ref (ad (82))), (1, .ref (ad (a))), (2, .ref (ad (b))), (3, .int (iI ((k0 : Int))))] := hl
  change W p l e ({ frames := 4, cells := 0, slots := 0, locals := 104 } : Room) s m ([.ref (ad (82)), .ref (ad (a)), .ref (ad (b)), .int (iI ((k0 : Int)))]).toArray below meth c s.heap [] 0 0 (MQ below (va_Qv (fun F1 => (∃ rv, Wv ty ad F1 a 136 rv ∧ (sm rv ↔ sm (vb ^ k0)) ∧ (sm rv → rv = vb ^ k0)) ∧ Wa ty ad F1 91 136 ∧ ∀ y, y ≠ a → y ≠ a + 1 → y ≠ 91 → y ≠ 92 → F1 y = F y) (pAt D classes (tysL ty) ad M (pA ad M s.heap.size)) (pA ad M s.heap.size)) ([.ref (ad (82)), .ref (ad (a)), .ref (ad (b)), .int (iI ((k0 : Int)))]).toArray s 0 0 (pA ad M s.heap.size)) (F0 m 0 ls [])
  generalize hQ : MQ below (va_Qv (fun F1 => (∃ rv, Wv ty ad F1 a 136 rv ∧ (sm rv ↔ sm (vb ^ k0)) ∧ (sm rv → rv = vb ^ k0)) ∧ Wa ty ad F1 91 136 ∧ ∀ y, y ≠ a → y ≠ a + 1 → y ≠ 91 → y ≠ 92 → F1 y = F y) (pAt D classes (tysL ty) ad M (pA ad M s.heap.size)) (pA ad M s.heap.size)) ([.ref (ad (82)), .ref (ad (a)), .ref (ad (b)), .int (iI ((k0 : Int)))]).toArray s 0 0 (pA ad M s.heap.size) = Q
  obtain ⟨H, hH⟩ : ∃ H, H = s.heap := ⟨_, rfl⟩
  obtain ⟨locs, hlo⟩ : ∃ z : List Loc, z = [] := ⟨_, rfl⟩
  have hw : pw D classes (tysL ty) ad M F (pA ad M s.heap.size) s H locs := by rw [hH, hlo]; exact hw
  have hgo : W p l e ({ frames := 4, cells := 0, slots := 0, locals := 104 } : Room) s m ([.ref (ad (82)), .ref (ad (a)), .ref (ad (b)), .int (iI ((k0 : Int)))]).toArray below meth c H locs 0 0 Q (F0 m 0 ls []) := by
    refine lv_aload_n hx hb d_B_raiseWhole_0 rfl (lv_at hl 1 rfl) ?_
    refine lv_lconst (v := iL 1) hx hb d_B_raiseWhole_1 (by decide) ?_
    refine pw_callv hw (va_runV (As := [.long (iL (1))]) (rest := []) ⟨hx, hb, hml, hown, hq⟩ (c_W_becomeLong l D ty ad M F H.size (a) 136 (1) (by omega) (by omega) (by omega) (by omega) wa) (cwV 1 hq (gV ml_B_83 im_W_becomeLong se_W_becomeLong in_W m_W_becomeLong) rfl rfl rfl (by decide +kernel) ⟨Nat.le_of_ble_eq_true rfl, Nat.le_of_ble_eq_true rfl⟩) (pw_preWa hw (by omega) wa) rfl rfl hl.1 rfl (lv_room (Nat.le_of_ble_eq_true rfl)) d_B_raiseWhole_2 ⟨Nat.le_of_ble_eq_true rfl, Nat.le_of_ble_eq_true rfl⟩) (fun F2 H locs q2 hw => ?_)
    obtain ⟨wa, hf2⟩ := q2
    have hB_at_2 : F2 (82) = .inr (4, [.ref (ad (83)), .ref (ad (85)), .ref (ad (87)), .ref (ad (89)), .ref (ad (91)), .ref (ad (93)), .int (iI ((bb : Int)))]) := (hf2 (82) (by omega) (by omega)).trans hB
    have wb__at_2 : Wv ty ad F2 (b) 67 (vb) := Wv.mv wb_ (hf2 (b) (by omega) (by omega)) (hf2 (b + 1) (by omega) (by omega))
    have w91_at_2 : Wa ty ad F2 (91) 136 := Wa.mv w91 (hf2 (91) (by omega) (by omega)) (hf2 (91 + 1) (by omega) (by omega))
    refine wz_bipush (n := 11) hx hb d_B_raiseWhole_5 (by decide) ?_
    refine lv_istore (lv' := [(4, .int (iI (11))), (0, .ref (ad (82))), (1, .ref (ad (a))), (2, .ref (ad (b))), (3, .int (iI ((k0 : Int))))]) hx hb d_B_raiseWhole_7 hl (by decide) rfl (fun ls hl => ?_)
    have K9 : ∀ (fuel : Nat) (j rv : Nat) (F9 : Nat → va_E) (H : Heap) (locs : List Loc) (ls : Array Slot), j < fuel → (j ≤ 12) → (pwI vb k0 j rv) → (∀ y, y ≠ a → y ≠ a + 1 → y ≠ 91 → y ≠ 92 → F9 y = F y) → F9 (82) = .inr (4, [.ref (ad (83)), .ref (ad (85)), .ref (ad (87)), .ref (ad (89)), .ref (ad (91)), .ref (ad (93)), .int (iI ((bb : Int)))]) → Wv ty ad F9 (a) 136 (rv) → Wv ty ad F9 (b) 67 (vb) → Wa ty ad F9 (91) 136 → pw D classes (tysL ty) ad M F9 (pA ad M s.heap.size) s H locs → lv_has ls 5 [(4, .int (iI ((j : Int) - 1))), (0, .ref (ad (82))), (1, .ref (ad (a))), (2, .ref (ad (b))), (3, .int (iI ((k0 : Int))))] → W p l e ({ frames := 4, cells := 0, slots := 0, locals := 104 } : Room) s m ([.ref (ad (82)), .ref (ad (a)), .ref (ad (b)), .int (iI ((k0 : Int)))]).toArray below meth c H locs 0 0 Q (F0 m 9 ls []) := by
      intro fuel
      induction fuel with
      | zero => intro j rv F9 H locs ls hfuel hj hI hfr hB wa wb_ w91 hw hl; exact absurd hfuel (Nat.not_lt_zero _)
      | succ fuel ih9 =>
        intro j rv F9 H locs ls hfuel hj hI hfr hB wa wb_ w91 hw hl
        refine lv_iload hx hb d_B_raiseWhole_9 (lv_at hl 0 rfl) ?_
        refine wz_if_lt (tgt := 56) hx hb d_B_raiseWhole_11 (by decide) (by omega) (by omega) (fun c11 => ?_) (fun c11 => ?_)
        · rw [← hQ]
          exact pw_vret hx hb hr hlocks hw (⟨⟨rv, wa, pwI_end (by rw [show j = 0 by omega] at hI; exact hI)⟩, w91, hfr⟩) d_B_raiseWhole_56
        · have ej : (j : Int) - 1 = ((j - 1 : Nat) : Int) := by omega
          rw [ej] at hl
          have hkle : k0 / 2 ^ (j - 1) ≤ k0 := Nat.div_le_self _ _
          refine lv_aload_n hx hb d_B_raiseWhole_14 rfl (lv_at hl 2 rfl) ?_
          refine pw_calli hw (va_runV (As := []) (rest := []) ⟨hx, hb, hml, hown, hq⟩ (c_W_isSmallEnough l D ty ad M F9 H.size (a) 136 (rv) (by omega) (by omega) wa) (cwV 0 hq (gV ml_B_66 im_W_isSmallEnough se_W_isSmallEnough in_W m_W_isSmallEnough) rfl rfl rfl (by decide +kernel) ⟨Nat.le_of_ble_eq_true rfl, Nat.le_of_ble_eq_true rfl⟩) (pw_preWa hw (by omega) ((wa).a)) rfl rfl hl.1 rfl (lv_room (Nat.le_of_ble_eq_true rfl)) d_B_raiseWhole_15 ⟨Nat.le_of_ble_eq_true rfl, Nat.le_of_ble_eq_true rfl⟩) (fun r15 F15 H locs q15 hw => ?_)
          obtain ⟨er15, eF15⟩ := q15
          rw [eF15] at hw
          clear eF15
          subst er15
          refine wz_if_eq (tgt := 56) hx hb d_B_raiseWhole_18 (by decide) (by split <;> omega) (by split <;> omega) (fun c18 => ?_) (fun c18 => ?_)
          · have hs1 : ¬ sm rv := (ite_z (P := rv < 2 ^ 2048)).mp c18
            rw [← hQ]
            exact pw_vret hx hb hr hlocks hw (⟨⟨rv, wa, pwI_big hI hs1⟩, w91, hfr⟩) d_B_raiseWhole_56
          · have hs1 : sm rv := (ite_nz (P := rv < 2 ^ 2048)).mp c18
            have hsv : sm rv ∧ rv = vb ^ (k0 / 2 ^ j) := by
              rcases hI with h9 | h9
              · exact h9
              · exact absurd hs1 h9.1
            refine lv_aload_n hx hb d_B_raiseWhole_21 rfl (lv_at hl 1 rfl) ?_
            refine lv_aload_n hx hb d_B_raiseWhole_22 rfl (lv_at hl 2 rfl) ?_
            refine lv_aload_n hx hb d_B_raiseWhole_23 rfl (lv_at hl 2 rfl) ?_
            refine pw_callv hw (va_runV (As := [.ref (ad (a)), .ref (ad (a))]) (rest := []) ⟨hx, hb, hml, hown, hq⟩ (c_B_multiplyWhole l D ty ad M F9 H.size hM bb a a 136 (rv) (rv) haa (Or.inl rfl) (by omega) hs1 hs1 hB wa wa w91) (cwV 2 hq (gV ml_B_147 im_B_multiplyWhole se_B_multiplyWhole in_B m_B_multiplyWhole) rfl rfl rfl (by decide +kernel) ⟨Nat.le_of_ble_eq_true rfl, Nat.le_of_ble_eq_true rfl⟩) (pw_preV hw (by omega) hB rfl) rfl rfl hl.1 rfl (lv_room (Nat.le_of_ble_eq_true rfl)) d_B_raiseWhole_24 ⟨Nat.le_of_ble_eq_true rfl, Nat.le_of_ble_eq_true rfl⟩) (fun F24 H locs q24 hw => ?_)
            obtain ⟨wa, w91, hf24⟩ := q24
            have hB_at_24 : F24 (82) = .inr (4, [.ref (ad (83)), .ref (ad (85)), .ref (ad (87)), .ref (ad (89)), .ref (ad (91)), .ref (ad (93)), .int (iI ((bb : Int)))]) := (hf24 (82) (by omega) (by omega) (by omega) (by omega)).trans hB
            have wb__at_24 : Wv ty ad F24 (b) 67 (vb) := Wv.mv wb_ (hf24 (b) (by omega) (by omega) (by omega) (by omega)) (hf24 (b + 1) (by omega) (by omega) (by omega) (by omega))
            refine lv_iload_n hx hb d_B_raiseWhole_27 rfl (lv_at hl 4 rfl) ?_
            refine lv_iload hx hb d_B_raiseWhole_28 (lv_at hl 0 rfl) ?_
            refine lv_ishr hx hb d_B_raiseWhole_30 ?_
            refine lv_topi (fun x30 ex30 => ?_)
            obtain rfl : x30 = iI (((k0 / 2 ^ (j - 1) : Nat) : Int)) := ex30.trans (iI_shr (k := j - 1) (by omega) (by omega))
            refine wz_iconst (n := 1) hx hb d_B_raiseWhole_31 ?_
            refine lv_iand hx hb d_B_raiseWhole_32 ?_
            refine lv_topi (fun x32 ex32 => ?_)
            obtain rfl : x32 = iI (((k0 / 2 ^ (j - 1) % 2 : Nat) : Int)) := ex32.trans (iI_mask (k := 1) (by decide) (by omega))
            have hm2 : k0 / 2 ^ (j - 1) % 2 < 2 := Nat.mod_lt _ (by decide)
            refine wz_iconst (n := 1) hx hb d_B_raiseWhole_33 ?_
            refine wz_icmp_ne (tgt := 50) hx hb d_B_raiseWhole_34 (by decide) (by omega) (by omega) (by omega) (by omega) (fun c34 => ?_) (fun c34 => ?_)
            · have hbit : k0 / 2 ^ (j - 1) % 2 = 0 ∨ ¬ sm (rv * rv) := Or.inl (by omega)
              refine wz_iinc (z := ((j - 1 : Nat) : Int) - 1) (lv' := [(4, .int (iI (((j - 1 : Nat) : Int) - 1))), (0, .ref (ad (82))), (1, .ref (ad (a))), (2, .ref (ad (b))), (3, .int (iI ((k0 : Int))))]) hx hb d_B_raiseWhole_50 hl (k := 0) rfl (by omega) (by decide) rfl (fun ls hl => ?_)
              refine lv_goto (tgt := 9) hx hb d_B_raiseWhole_53 (by decide) ?_
              exact ih9 (j - 1) (rv * rv) _ _ _ ls (by omega) (by omega) (pwI_sq (by omega) hsv hbit) (fun y9 h1 h2 h3 h4 => (hf24 (y9) (by omega) (by omega) (by omega) (by omega)).trans (hfr y9 h1 h2 h3 h4)) (hB_at_24) (wa) (wb__at_24) (w91) hw hl
            · refine lv_aload_n hx hb d_B_raiseWhole_37 rfl (lv_at hl 2 rfl) ?_
              refine pw_calli hw (va_runV (As := []) (rest := []) ⟨hx, hb, hml, hown, hq⟩ (c_W_isSmallEnough l D ty ad M F24 H.size (a) 136 (rv * rv) (by omega) (by omega) wa) (cwV 0 hq (gV ml_B_66 im_W_isSmallEnough se_W_isSmallEnough in_W m_W_isSmallEnough) rfl rfl rfl (by decide +kernel) ⟨Nat.le_of_ble_eq_true rfl, Nat.le_of_ble_eq_true rfl⟩) (pw_preWa hw (by omega) ((wa).a)) rfl rfl hl.1 rfl (lv_room (Nat.le_of_ble_eq_true rfl)) d_B_raiseWhole_38 ⟨Nat.le_of_ble_eq_true rfl, Nat.le_of_ble_eq_true rfl⟩) (fun r38 F38 H locs q38 hw => ?_)
              obtain ⟨er38, eF38⟩ := q38
              rw [eF38] at hw
              clear eF38
              subst er38
              refine wz_if_eq (tgt := 50) hx hb d_B_raiseWhole_41 (by decide) (by split <;> omega) (by split <;> omega) (fun c41 => ?_) (fun c41 => ?_)
              · have hbit : k0 / 2 ^ (j - 1) % 2 = 0 ∨ ¬ sm (rv * rv) := Or.inr ((ite_z (P := rv * rv < 2 ^ 2048)).mp c41)
                refine wz_iinc (z := ((j - 1 : Nat) : Int) - 1) (lv' := [(4, .int (iI (((j - 1 : Nat) : Int) - 1))), (0, .ref (ad (82))), (1, .ref (ad (a))), (2, .ref (ad (b))), (3, .int (iI ((k0 : Int))))]) hx hb d_B_raiseWhole_50 hl (k := 0) rfl (by omega) (by decide) rfl (fun ls hl => ?_)
                refine lv_goto (tgt := 9) hx hb d_B_raiseWhole_53 (by decide) ?_
                exact ih9 (j - 1) (rv * rv) _ _ _ ls (by omega) (by omega) (pwI_sq (by omega) hsv hbit) (fun y9 h1 h2 h3 h4 => (hf24 (y9) (by omega) (by omega) (by omega) (by omega)).trans (hfr y9 h1 h2 h3 h4)) (hB_at_24) (wa) (wb__at_24) (w91) hw hl
              · have hs2 : sm (rv * rv) := (ite_nz (P := rv * rv < 2 ^ 2048)).mp c41
                refine lv_aload_n hx hb d_B_raiseWhole_44 rfl (lv_at hl 1 rfl) ?_
                refine lv_aload_n hx hb d_B_raiseWhole_45 rfl (lv_at hl 2 rfl) ?_
                refine lv_aload_n hx hb d_B_raiseWhole_46 rfl (lv_at hl 3 rfl) ?_
                refine pw_callv hw (va_runV (As := [.ref (ad (a)), .ref (ad (b))]) (rest := []) ⟨hx, hb, hml, hown, hq⟩ (c_B_multiplyWhole l D ty ad M F24 H.size hM bb a b 67 (rv * rv) vb haa (Or.inr hb82) (by omega) hs2 hvb hB_at_24 wa wb__at_24 w91) (cwV 2 hq (gV ml_B_147 im_B_multiplyWhole se_B_multiplyWhole in_B m_B_multiplyWhole) rfl rfl rfl (by decide +kernel) ⟨Nat.le_of_ble_eq_true rfl, Nat.le_of_ble_eq_true rfl⟩) (pw_preV hw (by omega) hB_at_24 rfl) rfl rfl hl.1 rfl (lv_room (Nat.le_of_ble_eq_true rfl)) d_B_raiseWhole_47 ⟨Nat.le_of_ble_eq_true rfl, Nat.le_of_ble_eq_true rfl⟩) (fun F47 H locs q47 hw => ?_)
                obtain ⟨wa, w91, hf47⟩ := q47
                have hB_at_47 : F47 (82) = .inr (4, [.ref (ad (83)), .ref (ad (85)), .ref (ad (87)), .ref (ad (89)), .ref (ad (91)), .ref (ad (93)), .int (iI ((bb : Int)))]) := (hf47 (82) (by omega) (by omega) (by omega) (by omega)).trans hB_at_24
                have wb__at_47 : Wv ty ad F47 (b) 67 (vb) := Wv.mv wb__at_24 (hf47 (b) (by omega) (by omega) (by omega) (by omega)) (hf47 (b + 1) (by omega) (by omega) (by omega) (by omega))
                refine wz_iinc (z := ((j - 1 : Nat) : Int) - 1) (lv' := [(4, .int (iI (((j - 1 : Nat) : Int) - 1))), (0, .ref (ad (82))), (1, .ref (ad (a))), (2, .ref (ad (b))), (3, .int (iI ((k0 : Int))))]) hx hb d_B_raiseWhole_50 hl (k := 0) rfl (by omega) (by decide) rfl (fun ls hl => ?_)
                refine lv_goto (tgt := 9) hx hb d_B_raiseWhole_53 (by decide) ?_
                exact ih9 (j - 1) (rv * rv * vb) _ _ _ ls (by omega) (by omega) (pwI_sm (by omega) hsv (by omega)) (fun y9 h1 h2 h3 h4 => ((hf47 (y9) (by omega) (by omega) (by omega) (by omega)).trans (hf24 (y9) (by omega) (by omega) (by omega) (by omega))).trans (hfr y9 h1 h2 h3 h4)) (hB_at_47) (wa) (wb__at_47) (w91) hw hl
    exact K9 _ 12 1 _ _ _ ls (Nat.lt_succ_self _) (by omega) (pwI_0 hk0) (fun y9 h1 h2 h3 h4 => hf2 (y9) (by omega) (by omega)) (hB_at_2) (wa) (wb__at_2) (w91_at_2) hw hl
  rw [hH, hlo] at hgo
  exact hgo
