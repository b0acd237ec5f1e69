/-! Bench: raise, keep, keepReduced, takeNumbers: by program -/
set_option maxHeartbeats 4000000 in
set_option maxRecDepth 100000 in
/-- Bench.raise(x, n) -/
theorem c_B_raise (l : Launch) (D : va_G) (ty : Nat → ClassId) (ad : Nat → Nat) (M : Nat) (F : Nat → va_E) (sz : Nat) (hM : 97 < M) (hBn : Bn ty ad F)(x xt xb xs : Nat) (hMx : x + 4 < M) (hRx : Frc ty ad F x xt xb xs) (hx82 : x + 4 < 82) (hxt : sm xt) (hxb : sm xb) (n : Int) (hn : -2048 ≤ n ∧ n ≤ 2048) :
    CV l y_B_raise w_B_raise ({ frames := 5, cells := 0, slots := 0, locals := 128 } : Room) [.ref (ad (82)), .ref (ad (x)), .int (iI (n))] D ty ad M F sz (fun F1 => (∃ tq bq : Nat, BnT ty ad F1 tq bq (if xs = 1 ∧ n.natAbs % 2 = 1 then 1 else 0) ∧ ((sm tq ↔ sm ((if n < 0 then xb else xt) ^ n.natAbs)) ∧ (sm tq → tq = (if n < 0 then xb else xt) ^ n.natAbs)) ∧ ((sm bq ↔ sm ((if n < 0 then xt else xb) ^ n.natAbs)) ∧ (sm bq → bq = (if n < 0 then xt else xb) ^ n.natAbs))) ∧ frB F F1) := by
  refine Met.ofW (cc := b_B_raise) (maxL := 4) (ret := none) (by decide) rfl ?_
  intro p e s m args below meth c s₁ B hml hv
  obtain ⟨rfl, hsz, hP, hK, hD0⟩ := hv
  have hx := B.exec
  have hb := B.bytes
  have hr := B.returns
  have hts := atoms_spec (ws := w_B_raise) B.pre
  have hq : ∀ w ∈ wT, w.before _ s = true := fun w h => hts w (List.mem_cons_of_mem _ h)
  have hown : s.vm.findClass R_B = some m.cls := findClass_of_methodNamed B.named
  have hlocks := B.notSynchronized
  subst hsz
  have hw := pw_start hP hK hD0
  have hl := lv_entry ([.ref (ad (82)), .ref (ad (x)), .int (iI (n))]) (n := 4) (Nat.le_of_ble_eq_true rfl)
  rw [lg_entry_eq]
  generalize (lg_sl ([.ref (ad (82)), .ref (ad (x)), .int (iI (n))]) ++ List.replicate (4 - (lg_sl ([.ref (ad (82)), .ref (ad (x)), .int (iI (n))])).length) Slot.unset).toArray = ls at hl ⊢
  have hl : lv_has ls 4 [(0, .ref (ad (82))), (1, .ref (ad (x))), (2, .int (iI (n)))] := hl
  change W p l e ({ frames := 5, cells := 0, slots := 0, locals := 128 } : Room) s m ([.ref (ad (82)), .ref (ad (x)), .int (iI (n))]).toArray below meth c s.heap [] 0 0 (MQ below (va_Qv (fun F1 => (∃ tq bq : Nat, BnT ty ad F1 tq bq (if xs = 1 ∧ n.natAbs % 2 = 1 then 1 else 0) ∧ ((sm tq ↔ sm ((if n < 0 then xb else xt) ^ n.natAbs)) ∧ (sm tq → tq = (if n < 0 then xb else xt) ^ n.natAbs)) ∧ ((sm bq ↔ sm ((if n < 0 then xt else xb) ^ n.natAbs)) ∧ (sm bq → bq = (if n < 0 then xt else xb) ^ n.natAbs))) ∧ frB F F1) (pAt D classes (tysL ty) ad M (pA ad M s.heap.size)) (pA ad M s.heap.size)) ([.ref (ad (82)), .ref (ad (x)), .int (iI (n))]).toArray s 0 0 (pA ad M s.heap.size)) (F0 m 0 ls [])
  generalize hQ : MQ below (va_Qv (fun F1 => (∃ tq bq : Nat, BnT ty ad F1 tq bq (if xs = 1 ∧ n.natAbs % 2 = 1 then 1 else 0) ∧ ((sm tq ↔ sm ((if n < 0 then xb else xt) ^ n.natAbs)) ∧ (sm tq → tq = (if n < 0 then xb else xt) ^ n.natAbs)) ∧ ((sm bq ↔ sm ((if n < 0 then xt else xb) ^ n.natAbs)) ∧ (sm bq → bq = (if n < 0 then xt else xb) ^ n.natAbs))) ∧ frB F F1) (pAt D classes (tysL ty) ad M (pA ad M s.heap.size)) (pA ad M s.heap.size)) ([.ref (ad (82)), .ref (ad (x)), .int (iI (n))]).toArray s 0 0 (pA ad M s.heap.size) = Q
  obtain ⟨H, hH⟩ : ∃ H, H = s.heap := ⟨_, rfl⟩
  obtain ⟨locs, hlo⟩ : ∃ z : List Loc, z = [] := ⟨_, rfl⟩
  have hw : pw D classes (tysL ty) ad M F (pA ad M s.heap.size) s H locs := by rw [hH, hlo]; exact hw
  have hgo : W p l e ({ frames := 5, cells := 0, slots := 0, locals := 128 } : Room) s m ([.ref (ad (82)), .ref (ad (x)), .int (iI (n))]).toArray below meth c H locs 0 0 Q (F0 m 0 ls []) := by
    obtain ⟨⟨bb, hbb, hB⟩, w83, w85, w87, w89, w91, ⟨f0, g0, h0, k0, hD⟩, w94⟩ := hBn
    obtain ⟨hbx, hFx, wx1, wx3⟩ := hRx
    refine lv_iload_n hx hb d_B_raise_0 rfl (lv_at hl 2 rfl) ?_
    refine wz_mabs (z := (n.natAbs : Int)) hx hb (hml.trans hl.1.symm) hown (hq _ ml_B_141) (hq _ st_JM_abs2) (hq _ in_JM) (hq _ m_JM_abs2) (Nat.le_of_ble_eq_true rfl) (Nat.le_of_ble_eq_true rfl) (Nat.zero_le _) (Nat.zero_le _) (by omega) (by omega) (rfl) d_B_raise_1 ?_
    refine lv_istore_n (lv' := [(3, .int (iI ((n.natAbs : Int)))), (0, .ref (ad (82))), (1, .ref (ad (x))), (2, .int (iI (n)))]) hx hb d_B_raise_4 rfl hl (by decide) rfl (fun ls hl => ?_)
    refine lv_aload_n hx hb d_B_raise_5 rfl (lv_at hl 1 rfl) ?_
    refine lv_aload_n hx hb d_B_raise_6 rfl (lv_at hl 2 rfl) ?_
    refine pw_get (ci := 1) (C := R_F) (T := T_F) (N := 3) hx hb hq i_F hown hw (by omega) hFx rfl 2 (by decide) (hq _ fl_B_76) (fun _ h9 => h9) rfl d_B_raise_7 ?_
    refine wz_if_eq (tgt := 24) hx hb d_B_raise_10 (by decide) (by omega) (by omega) (fun c10 => ?_) (fun c10 => ?_)
    · refine wz_iconst (n := 0) hx hb d_B_raise_24 ?_
      refine pw_put (ci := 4) (C := R_B) (T := T_B) (N := 7) (ty := .boolean) (fs' := [.ref (ad (83)), .ref (ad (85)), .ref (ad (87)), .ref (ad (89)), .ref (ad (91)), .ref (ad (93)), .int (iI (0))]) hx hb hq i_B ft_B ft_B_ok n_B hown hw (by omega) hB rfl 6 (by decide) (hq _ fl_B_39) (fun _ h9 => h9) rfl (by decide +kernel) rfl rfl (Nat.le_of_ble_eq_true rfl) rfl d_B_raise_25 (fun F25 H locs eF25 hw => ?_)
      have m25_82 : F25 (82) = .inr (4, [.ref (ad (83)), .ref (ad (85)), .ref (ad (87)), .ref (ad (89)), .ref (ad (91)), .ref (ad (93)), .int (iI (0))]) := by rw [eF25]; exact va_up_self ..
      have w83_at_25 : Wa ty ad F25 (83) 136 := Wa.mv w83 (show F25 (83) = F (83) from by rw [eF25]; exact va_up_ne _ _ (by omega)) (show F25 (83 + 1) = F (83 + 1) from by rw [eF25]; exact va_up_ne _ _ (by omega))
      have w85_at_25 : Wa ty ad F25 (85) 136 := Wa.mv w85 (show F25 (85) = F (85) from by rw [eF25]; exact va_up_ne _ _ (by omega)) (show F25 (85 + 1) = F (85 + 1) from by rw [eF25]; exact va_up_ne _ _ (by omega))
      have w87_at_25 : Wa ty ad F25 (87) 136 := Wa.mv w87 (show F25 (87) = F (87) from by rw [eF25]; exact va_up_ne _ _ (by omega)) (show F25 (87 + 1) = F (87 + 1) from by rw [eF25]; exact va_up_ne _ _ (by omega))
      have w89_at_25 : Wa ty ad F25 (89) 136 := Wa.mv w89 (show F25 (89) = F (89) from by rw [eF25]; exact va_up_ne _ _ (by omega)) (show F25 (89 + 1) = F (89 + 1) from by rw [eF25]; exact va_up_ne _ _ (by omega))
      have w91_at_25 : Wa ty ad F25 (91) 136 := Wa.mv w91 (show F25 (91) = F (91) from by rw [eF25]; exact va_up_ne _ _ (by omega)) (show F25 (91 + 1) = F (91 + 1) from by rw [eF25]; exact va_up_ne _ _ (by omega))
      have hD_at_25 : F25 (93) = .inr (3, [.ref (ad (93 + 1)), .long (f0), .long (g0), .long (h0), .long (k0)]) := (show F25 (93) = F (93) from by rw [eF25]; exact va_up_ne _ _ (by omega)).trans hD
      have w94_at_25 : Wa ty ad F25 (93 + 1) 136 := Wa.mv w94 (show F25 (93 + 1) = F (93 + 1) from by rw [eF25]; exact va_up_ne _ _ (by omega)) (show F25 (93 + 1 + 1) = F (93 + 1 + 1) from by rw [eF25]; exact va_up_ne _ _ (by omega))
      have hFx_at_25 : F25 (x) = .inr (1, [.ref (ad (x + 1)), .ref (ad (x + 3)), .int (iI ((xs : Int)))]) := (show F25 (x) = F (x) from by rw [eF25]; exact va_up_ne _ _ (by omega)).trans hFx
      have wx1_at_25 : Wv ty ad F25 (x + 1) 67 (xt) := Wv.mv wx1 (show F25 (x + 1) = F (x + 1) from by rw [eF25]; exact va_up_ne _ _ (by omega)) (show F25 (x + 1 + 1) = F (x + 1 + 1) from by rw [eF25]; exact va_up_ne _ _ (by omega))
      have wx3_at_25 : Wv ty ad F25 (x + 3) 67 (xb) := Wv.mv wx3 (show F25 (x + 3) = F (x + 3) from by rw [eF25]; exact va_up_ne _ _ (by omega)) (show F25 (x + 3 + 1) = F (x + 3 + 1) from by rw [eF25]; exact va_up_ne _ _ (by omega))
      refine lv_aload_n hx hb d_B_raise_28 rfl (lv_at hl 1 rfl) ?_
      refine lv_aload_n hx hb d_B_raise_29 rfl (lv_at hl 1 rfl) ?_
      refine pw_get (ci := 4) (C := R_B) (T := T_B) (N := 7) hx hb hq i_B hown hw (by omega) m25_82 rfl 0 (by decide) (hq _ fl_B_16) (fun _ h9 => h9) rfl d_B_raise_30 ?_
      refine lv_iload_n hx hb d_B_raise_33 rfl (lv_at hl 3 rfl) ?_
      refine wz_if_ge (tgt := 44) hx hb d_B_raise_34 (by decide) (by omega) (by omega) (fun c34 => ?_) (fun c34 => ?_)
      · refine lv_aload_n hx hb d_B_raise_44 rfl (lv_at hl 2 rfl) ?_
        refine pw_get (ci := 1) (C := R_F) (T := T_F) (N := 3) hx hb hq i_F hown hw (by omega) hFx_at_25 rfl 0 (by decide) (hq _ fl_B_69) (fun _ h9 => h9) rfl d_B_raise_45 ?_
        refine lv_iload_n hx hb d_B_raise_48 rfl (lv_at hl 0 rfl) ?_
        refine pw_callv hw (va_runV (As := [.ref (ad (83)), .ref (ad (x + 1)), .int (iI ((n.natAbs : Int)))]) (rest := []) ⟨hx, hb, hml, hown, hq⟩ (c_B_raiseWhole l D ty ad M F25 H.size hM 0 83 (x + 1) (xt) n.natAbs (by omega) (by omega) (by omega) hxt m25_82 w83_at_25 wx1_at_25 w91_at_25) (cwV 3 hq (gV ml_B_143 im_B_raiseWhole se_B_raiseWhole in_B m_B_raiseWhole) rfl rfl rfl (by decide +kernel) ⟨Nat.le_of_ble_eq_true rfl, Nat.le_of_ble_eq_true rfl⟩) (pw_preV hw (by omega) m25_82 rfl) rfl rfl hl.1 rfl (lv_room (Nat.le_of_ble_eq_true rfl)) d_B_raise_49 ⟨Nat.le_of_ble_eq_true rfl, Nat.le_of_ble_eq_true rfl⟩) (fun F49 H locs q49 hw => ?_)
        obtain ⟨⟨rv49, w83, hs49a, hs49b⟩, w91, hf49⟩ := q49
        have w85_at_49 : Wa ty ad F49 (85) 136 := Wa.mv w85_at_25 (hf49 (85) (by omega) (by omega) (by omega) (by omega)) (hf49 (85 + 1) (by omega) (by omega) (by omega) (by omega))
        have w87_at_49 : Wa ty ad F49 (87) 136 := Wa.mv w87_at_25 (hf49 (87) (by omega) (by omega) (by omega) (by omega)) (hf49 (87 + 1) (by omega) (by omega) (by omega) (by omega))
        have w89_at_49 : Wa ty ad F49 (89) 136 := Wa.mv w89_at_25 (hf49 (89) (by omega) (by omega) (by omega) (by omega)) (hf49 (89 + 1) (by omega) (by omega) (by omega) (by omega))
        have hD_at_49 : F49 (93) = .inr (3, [.ref (ad (93 + 1)), .long (f0), .long (g0), .long (h0), .long (k0)]) := (hf49 (93) (by omega) (by omega) (by omega) (by omega)).trans hD_at_25
        have w94_at_49 : Wa ty ad F49 (93 + 1) 136 := Wa.mv w94_at_25 (hf49 (93 + 1) (by omega) (by omega) (by omega) (by omega)) (hf49 (93 + 1 + 1) (by omega) (by omega) (by omega) (by omega))
        have hFx_at_49 : F49 (x) = .inr (1, [.ref (ad (x + 1)), .ref (ad (x + 3)), .int (iI ((xs : Int)))]) := (hf49 (x) (by omega) (by omega) (by omega) (by omega)).trans hFx_at_25
        have wx1_at_49 : Wv ty ad F49 (x + 1) 67 (xt) := Wv.mv wx1_at_25 (hf49 (x + 1) (by omega) (by omega) (by omega) (by omega)) (hf49 (x + 1 + 1) (by omega) (by omega) (by omega) (by omega))
        have wx3_at_49 : Wv ty ad F49 (x + 3) 67 (xb) := Wv.mv wx3_at_25 (hf49 (x + 3) (by omega) (by omega) (by omega) (by omega)) (hf49 (x + 3 + 1) (by omega) (by omega) (by omega) (by omega))
        have m25_82_at_49 : F49 (82) = .inr (4, [.ref (ad (83)), .ref (ad (85)), .ref (ad (87)), .ref (ad (89)), .ref (ad (91)), .ref (ad (93)), .int (iI (0))]) := (hf49 (82) (by omega) (by omega) (by omega) (by omega)).trans m25_82
        refine lv_aload_n hx hb d_B_raise_52 rfl (lv_at hl 1 rfl) ?_
        refine lv_aload_n hx hb d_B_raise_53 rfl (lv_at hl 1 rfl) ?_
        refine pw_get (ci := 4) (C := R_B) (T := T_B) (N := 7) hx hb hq i_B hown hw (by omega) m25_82_at_49 rfl 1 (by decide) (hq _ fl_B_20) (fun _ h9 => h9) rfl d_B_raise_54 ?_
        refine lv_iload_n hx hb d_B_raise_57 rfl (lv_at hl 3 rfl) ?_
        refine wz_if_ge (tgt := 68) hx hb d_B_raise_58 (by decide) (by omega) (by omega) (fun c58 => ?_) (fun c58 => ?_)
        · refine lv_aload_n hx hb d_B_raise_68 rfl (lv_at hl 2 rfl) ?_
          refine pw_get (ci := 1) (C := R_F) (T := T_F) (N := 3) hx hb hq i_F hown hw (by omega) hFx_at_49 rfl 1 (by decide) (hq _ fl_B_72) (fun _ h9 => h9) rfl d_B_raise_69 ?_
          refine lv_iload_n hx hb d_B_raise_72 rfl (lv_at hl 0 rfl) ?_
          refine pw_callv hw (va_runV (As := [.ref (ad (85)), .ref (ad (x + 3)), .int (iI ((n.natAbs : Int)))]) (rest := []) ⟨hx, hb, hml, hown, hq⟩ (c_B_raiseWhole l D ty ad M F49 H.size hM 0 85 (x + 3) (xb) n.natAbs (by omega) (by omega) (by omega) hxb m25_82_at_49 w85_at_49 wx3_at_49 w91) (cwV 3 hq (gV ml_B_143 im_B_raiseWhole se_B_raiseWhole in_B m_B_raiseWhole) rfl rfl rfl (by decide +kernel) ⟨Nat.le_of_ble_eq_true rfl, Nat.le_of_ble_eq_true rfl⟩) (pw_preV hw (by omega) m25_82_at_49 rfl) rfl rfl hl.1 rfl (lv_room (Nat.le_of_ble_eq_true rfl)) d_B_raise_73 ⟨Nat.le_of_ble_eq_true rfl, Nat.le_of_ble_eq_true rfl⟩) (fun F73 H locs q73 hw => ?_)
          obtain ⟨⟨rv73, w85, hs73a, hs73b⟩, w91, hf73⟩ := q73
          have w87_at_73 : Wa ty ad F73 (87) 136 := Wa.mv w87_at_49 (hf73 (87) (by omega) (by omega) (by omega) (by omega)) (hf73 (87 + 1) (by omega) (by omega) (by omega) (by omega))
          have w89_at_73 : Wa ty ad F73 (89) 136 := Wa.mv w89_at_49 (hf73 (89) (by omega) (by omega) (by omega) (by omega)) (hf73 (89 + 1) (by omega) (by omega) (by omega) (by omega))
          have hD_at_73 : F73 (93) = .inr (3, [.ref (ad (93 + 1)), .long (f0), .long (g0), .long (h0), .long (k0)]) := (hf73 (93) (by omega) (by omega) (by omega) (by omega)).trans hD_at_49
          have w94_at_73 : Wa ty ad F73 (93 + 1) 136 := Wa.mv w94_at_49 (hf73 (93 + 1) (by omega) (by omega) (by omega) (by omega)) (hf73 (93 + 1 + 1) (by omega) (by omega) (by omega) (by omega))
          have hFx_at_73 : F73 (x) = .inr (1, [.ref (ad (x + 1)), .ref (ad (x + 3)), .int (iI ((xs : Int)))]) := (hf73 (x) (by omega) (by omega) (by omega) (by omega)).trans hFx_at_49
          have wx1_at_73 : Wv ty ad F73 (x + 1) 67 (xt) := Wv.mv wx1_at_49 (hf73 (x + 1) (by omega) (by omega) (by omega) (by omega)) (hf73 (x + 1 + 1) (by omega) (by omega) (by omega) (by omega))
          have wx3_at_73 : Wv ty ad F73 (x + 3) 67 (xb) := Wv.mv wx3_at_49 (hf73 (x + 3) (by omega) (by omega) (by omega) (by omega)) (hf73 (x + 3 + 1) (by omega) (by omega) (by omega) (by omega))
          have m25_82_at_73 : F73 (82) = .inr (4, [.ref (ad (83)), .ref (ad (85)), .ref (ad (87)), .ref (ad (89)), .ref (ad (91)), .ref (ad (93)), .int (iI (0))]) := (hf73 (82) (by omega) (by omega) (by omega) (by omega)).trans m25_82_at_49
          have w83_at_73 : Wv ty ad F73 (83) 136 (rv49) := Wv.mv w83 (hf73 (83) (by omega) (by omega) (by omega) (by omega)) (hf73 (83 + 1) (by omega) (by omega) (by omega) (by omega))
          rw [← hQ]
          exact pw_vret hx hb hr hlocks hw (⟨⟨rv49, rv73, ⟨by split <;> omega, by rw [if_neg (by omega)]; exact m25_82_at_73, w83_at_73, w85, w87_at_73, w89_at_73, w91, ⟨_, _, _, _, hD_at_73⟩, w94_at_73⟩, by rw [if_neg (by omega)]; exact ⟨hs49a, hs49b⟩, by rw [if_neg (by omega)]; exact ⟨hs73a, hs73b⟩⟩, fun y9 h9 => (hf73 (y9) (by omega) (by omega) (by omega) (by omega)).trans ((hf49 (y9) (by omega) (by omega) (by omega) (by omega)).trans (show F25 (y9) = F (y9) from by rw [eF25]; exact va_up_ne _ _ (by omega)))⟩) d_B_raise_76
        · exact absurd c58 (by omega)
      · refine lv_aload_n hx hb d_B_raise_37 rfl (lv_at hl 2 rfl) ?_
        refine pw_get (ci := 1) (C := R_F) (T := T_F) (N := 3) hx hb hq i_F hown hw (by omega) hFx_at_25 rfl 1 (by decide) (hq _ fl_B_72) (fun _ h9 => h9) rfl d_B_raise_38 ?_
        refine lv_goto (tgt := 48) hx hb d_B_raise_41 (by decide) ?_
        refine lv_iload_n hx hb d_B_raise_48 rfl (lv_at hl 0 rfl) ?_
        refine pw_callv hw (va_runV (As := [.ref (ad (83)), .ref (ad (x + 3)), .int (iI ((n.natAbs : Int)))]) (rest := []) ⟨hx, hb, hml, hown, hq⟩ (c_B_raiseWhole l D ty ad M F25 H.size hM 0 83 (x + 3) (xb) n.natAbs (by omega) (by omega) (by omega) hxb m25_82 w83_at_25 wx3_at_25 w91_at_25) (cwV 3 hq (gV ml_B_143 im_B_raiseWhole se_B_raiseWhole in_B m_B_raiseWhole) rfl rfl rfl (by decide +kernel) ⟨Nat.le_of_ble_eq_true rfl, Nat.le_of_ble_eq_true rfl⟩) (pw_preV hw (by omega) m25_82 rfl) rfl rfl hl.1 rfl (lv_room (Nat.le_of_ble_eq_true rfl)) d_B_raise_49 ⟨Nat.le_of_ble_eq_true rfl, Nat.le_of_ble_eq_true rfl⟩) (fun F49 H locs q49 hw => ?_)
        obtain ⟨⟨rv49, w83, hs49a, hs49b⟩, w91, hf49⟩ := q49
        have w85_at_49 : Wa ty ad F49 (85) 136 := Wa.mv w85_at_25 (hf49 (85) (by omega) (by omega) (by omega) (by omega)) (hf49 (85 + 1) (by omega) (by omega) (by omega) (by omega))
        have w87_at_49 : Wa ty ad F49 (87) 136 := Wa.mv w87_at_25 (hf49 (87) (by omega) (by omega) (by omega) (by omega)) (hf49 (87 + 1) (by omega) (by omega) (by omega) (by omega))
        have w89_at_49 : Wa ty ad F49 (89) 136 := Wa.mv w89_at_25 (hf49 (89) (by omega) (by omega) (by omega) (by omega)) (hf49 (89 + 1) (by omega) (by omega) (by omega) (by omega))
        have hD_at_49 : F49 (93) = .inr (3, [.ref (ad (93 + 1)), .long (f0), .long (g0), .long (h0), .long (k0)]) := (hf49 (93) (by omega) (by omega) (by omega) (by omega)).trans hD_at_25
        have w94_at_49 : Wa ty ad F49 (93 + 1) 136 := Wa.mv w94_at_25 (hf49 (93 + 1) (by omega) (by omega) (by omega) (by omega)) (hf49 (93 + 1 + 1) (by omega) (by omega) (by omega) (by omega))
        have hFx_at_49 : F49 (x) = .inr (1, [.ref (ad (x + 1)), .ref (ad (x + 3)), .int (iI ((xs : Int)))]) := (hf49 (x) (by omega) (by omega) (by omega) (by omega)).trans hFx_at_25
        have wx1_at_49 : Wv ty ad F49 (x + 1) 67 (xt) := Wv.mv wx1_at_25 (hf49 (x + 1) (by omega) (by omega) (by omega) (by omega)) (hf49 (x + 1 + 1) (by omega) (by omega) (by omega) (by omega))
        have wx3_at_49 : Wv ty ad F49 (x + 3) 67 (xb) := Wv.mv wx3_at_25 (hf49 (x + 3) (by omega) (by omega) (by omega) (by omega)) (hf49 (x + 3 + 1) (by omega) (by omega) (by omega) (by omega))
        have m25_82_at_49 : F49 (82) = .inr (4, [.ref (ad (83)), .ref (ad (85)), .ref (ad (87)), .ref (ad (89)), .ref (ad (91)), .ref (ad (93)), .int (iI (0))]) := (hf49 (82) (by omega) (by omega) (by omega) (by omega)).trans m25_82
        refine lv_aload_n hx hb d_B_raise_52 rfl (lv_at hl 1 rfl) ?_
        refine lv_aload_n hx hb d_B_raise_53 rfl (lv_at hl 1 rfl) ?_
        refine pw_get (ci := 4) (C := R_B) (T := T_B) (N := 7) hx hb hq i_B hown hw (by omega) m25_82_at_49 rfl 1 (by decide) (hq _ fl_B_20) (fun _ h9 => h9) rfl d_B_raise_54 ?_
        refine lv_iload_n hx hb d_B_raise_57 rfl (lv_at hl 3 rfl) ?_
        refine wz_if_ge (tgt := 68) hx hb d_B_raise_58 (by decide) (by omega) (by omega) (fun c58 => ?_) (fun c58 => ?_)
        · exact absurd c58 (by omega)
        · refine lv_aload_n hx hb d_B_raise_61 rfl (lv_at hl 2 rfl) ?_
          refine pw_get (ci := 1) (C := R_F) (T := T_F) (N := 3) hx hb hq i_F hown hw (by omega) hFx_at_49 rfl 0 (by decide) (hq _ fl_B_69) (fun _ h9 => h9) rfl d_B_raise_62 ?_
          refine lv_goto (tgt := 72) hx hb d_B_raise_65 (by decide) ?_
          refine lv_iload_n hx hb d_B_raise_72 rfl (lv_at hl 0 rfl) ?_
          refine pw_callv hw (va_runV (As := [.ref (ad (85)), .ref (ad (x + 1)), .int (iI ((n.natAbs : Int)))]) (rest := []) ⟨hx, hb, hml, hown, hq⟩ (c_B_raiseWhole l D ty ad M F49 H.size hM 0 85 (x + 1) (xt) n.natAbs (by omega) (by omega) (by omega) hxt m25_82_at_49 w85_at_49 wx1_at_49 w91) (cwV 3 hq (gV ml_B_143 im_B_raiseWhole se_B_raiseWhole in_B m_B_raiseWhole) rfl rfl rfl (by decide +kernel) ⟨Nat.le_of_ble_eq_true rfl, Nat.le_of_ble_eq_true rfl⟩) (pw_preV hw (by omega) m25_82_at_49 rfl) rfl rfl hl.1 rfl (lv_room (Nat.le_of_ble_eq_true rfl)) d_B_raise_73 ⟨Nat.le_of_ble_eq_true rfl, Nat.le_of_ble_eq_true rfl⟩) (fun F73 H locs q73 hw => ?_)
          obtain ⟨⟨rv73, w85, hs73a, hs73b⟩, w91, hf73⟩ := q73
          have w87_at_73 : Wa ty ad F73 (87) 136 := Wa.mv w87_at_49 (hf73 (87) (by omega) (by omega) (by omega) (by omega)) (hf73 (87 + 1) (by omega) (by omega) (by omega) (by omega))
          have w89_at_73 : Wa ty ad F73 (89) 136 := Wa.mv w89_at_49 (hf73 (89) (by omega) (by omega) (by omega) (by omega)) (hf73 (89 + 1) (by omega) (by omega) (by omega) (by omega))
          have hD_at_73 : F73 (93) = .inr (3, [.ref (ad (93 + 1)), .long (f0), .long (g0), .long (h0), .long (k0)]) := (hf73 (93) (by omega) (by omega) (by omega) (by omega)).trans hD_at_49
          have w94_at_73 : Wa ty ad F73 (93 + 1) 136 := Wa.mv w94_at_49 (hf73 (93 + 1) (by omega) (by omega) (by omega) (by omega)) (hf73 (93 + 1 + 1) (by omega) (by omega) (by omega) (by omega))
          have hFx_at_73 : F73 (x) = .inr (1, [.ref (ad (x + 1)), .ref (ad (x + 3)), .int (iI ((xs : Int)))]) := (hf73 (x) (by omega) (by omega) (by omega) (by omega)).trans hFx_at_49
          have wx1_at_73 : Wv ty ad F73 (x + 1) 67 (xt) := Wv.mv wx1_at_49 (hf73 (x + 1) (by omega) (by omega) (by omega) (by omega)) (hf73 (x + 1 + 1) (by omega) (by omega) (by omega) (by omega))
          have wx3_at_73 : Wv ty ad F73 (x + 3) 67 (xb) := Wv.mv wx3_at_49 (hf73 (x + 3) (by omega) (by omega) (by omega) (by omega)) (hf73 (x + 3 + 1) (by omega) (by omega) (by omega) (by omega))
          have m25_82_at_73 : F73 (82) = .inr (4, [.ref (ad (83)), .ref (ad (85)), .ref (ad (87)), .ref (ad (89)), .ref (ad (91)), .ref (ad (93)), .int (iI (0))]) := (hf73 (82) (by omega) (by omega) (by omega) (by omega)).trans m25_82_at_49
          have w83_at_73 : Wv ty ad F73 (83) 136 (rv49) := Wv.mv w83 (hf73 (83) (by omega) (by omega) (by omega) (by omega)) (hf73 (83 + 1) (by omega) (by omega) (by omega) (by omega))
          rw [← hQ]
          exact pw_vret hx hb hr hlocks hw (⟨⟨rv49, rv73, ⟨by split <;> omega, by rw [if_neg (by omega)]; exact m25_82_at_73, w83_at_73, w85, w87_at_73, w89_at_73, w91, ⟨_, _, _, _, hD_at_73⟩, w94_at_73⟩, by rw [if_pos (by omega)]; exact ⟨hs49a, hs49b⟩, by rw [if_pos (by omega)]; exact ⟨hs73a, hs73b⟩⟩, fun y9 h9 => (hf73 (y9) (by omega) (by omega) (by omega) (by omega)).trans ((hf49 (y9) (by omega) (by omega) (by omega) (by omega)).trans (show F25 (y9) = F (y9) from by rw [eF25]; exact va_up_ne _ _ (by omega)))⟩) d_B_raise_76
    · refine lv_iload_n hx hb d_B_raise_13 rfl (lv_at hl 0 rfl) ?_
      refine wz_iconst (n := 2) hx hb d_B_raise_14 ?_
      refine wz_irem (a := n.natAbs) (b := 2) (z := n.natAbs % 2) hx hb d_B_raise_15 (by omega) (by omega) (by omega) (rfl) ?_
      refine wz_iconst (n := 1) hx hb d_B_raise_16 ?_
      refine wz_icmp_ne (tgt := 24) hx hb d_B_raise_17 (by decide) (by omega) (by omega) (by omega) (by omega) (fun c17 => ?_) (fun c17 => ?_)
      · refine wz_iconst (n := 0) hx hb d_B_raise_24 ?_
        refine pw_put (ci := 4) (C := R_B) (T := T_B) (N := 7) (ty := .boolean) (fs' := [.ref (ad (83)), .ref (ad (85)), .ref (ad (87)), .ref (ad (89)), .ref (ad (91)), .ref (ad (93)), .int (iI (0))]) hx hb hq i_B ft_B ft_B_ok n_B hown hw (by omega) hB rfl 6 (by decide) (hq _ fl_B_39) (fun _ h9 => h9) rfl (by decide +kernel) rfl rfl (Nat.le_of_ble_eq_true rfl) rfl d_B_raise_25 (fun F25 H locs eF25 hw => ?_)
        have m25_82 : F25 (82) = .inr (4, [.ref (ad (83)), .ref (ad (85)), .ref (ad (87)), .ref (ad (89)), .ref (ad (91)), .ref (ad (93)), .int (iI (0))]) := by rw [eF25]; exact va_up_self ..
        have w83_at_25 : Wa ty ad F25 (83) 136 := Wa.mv w83 (show F25 (83) = F (83) from by rw [eF25]; exact va_up_ne _ _ (by omega)) (show F25 (83 + 1) = F (83 + 1) from by rw [eF25]; exact va_up_ne _ _ (by omega))
        have w85_at_25 : Wa ty ad F25 (85) 136 := Wa.mv w85 (show F25 (85) = F (85) from by rw [eF25]; exact va_up_ne _ _ (by omega)) (show F25 (85 + 1) = F (85 + 1) from by rw [eF25]; exact va_up_ne _ _ (by omega))
        have w87_at_25 : Wa ty ad F25 (87) 136 := Wa.mv w87 (show F25 (87) = F (87) from by rw [eF25]; exact va_up_ne _ _ (by omega)) (show F25 (87 + 1) = F (87 + 1) from by rw [eF25]; exact va_up_ne _ _ (by omega))
        have w89_at_25 : Wa ty ad F25 (89) 136 := Wa.mv w89 (show F25 (89) = F (89) from by rw [eF25]; exact va_up_ne _ _ (by omega)) (show F25 (89 + 1) = F (89 + 1) from by rw [eF25]; exact va_up_ne _ _ (by omega))
        have w91_at_25 : Wa ty ad F25 (91) 136 := Wa.mv w91 (show F25 (91) = F (91) from by rw [eF25]; exact va_up_ne _ _ (by omega)) (show F25 (91 + 1) = F (91 + 1) from by rw [eF25]; exact va_up_ne _ _ (by omega))
        have hD_at_25 : F25 (93) = .inr (3, [.ref (ad (93 + 1)), .long (f0), .long (g0), .long (h0), .long (k0)]) := (show F25 (93) = F (93) from by rw [eF25]; exact va_up_ne _ _ (by omega)).trans hD
        have w94_at_25 : Wa ty ad F25 (93 + 1) 136 := Wa.mv w94 (show F25 (93 + 1) = F (93 + 1) from by rw [eF25]; exact va_up_ne _ _ (by omega)) (show F25 (93 + 1 + 1) = F (93 + 1 + 1) from by rw [eF25]; exact va_up_ne _ _ (by omega))
        have hFx_at_25 : F25 (x) = .inr (1, [.ref (ad (x + 1)), .ref (ad (x + 3)), .int (iI ((xs : Int)))]) := (show F25 (x) = F (x) from by rw [eF25]; exact va_up_ne _ _ (by omega)).trans hFx
        have wx1_at_25 : Wv ty ad F25 (x + 1) 67 (xt) := Wv.mv wx1 (show F25 (x + 1) = F (x + 1) from by rw [eF25]; exact va_up_ne _ _ (by omega)) (show F25 (x + 1 + 1) = F (x + 1 + 1) from by rw [eF25]; exact va_up_ne _ _ (by omega))
        have wx3_at_25 : Wv ty ad F25 (x + 3) 67 (xb) := Wv.mv wx3 (show F25 (x + 3) = F (x + 3) from by rw [eF25]; exact va_up_ne _ _ (by omega)) (show F25 (x + 3 + 1) = F (x + 3 + 1) from by rw [eF25]; exact va_up_ne _ _ (by omega))
        refine lv_aload_n hx hb d_B_raise_28 rfl (lv_at hl 1 rfl) ?_
        refine lv_aload_n hx hb d_B_raise_29 rfl (lv_at hl 1 rfl) ?_
        refine pw_get (ci := 4) (C := R_B) (T := T_B) (N := 7) hx hb hq i_B hown hw (by omega) m25_82 rfl 0 (by decide) (hq _ fl_B_16) (fun _ h9 => h9) rfl d_B_raise_30 ?_
        refine lv_iload_n hx hb d_B_raise_33 rfl (lv_at hl 3 rfl) ?_
        refine wz_if_ge (tgt := 44) hx hb d_B_raise_34 (by decide) (by omega) (by omega) (fun c34 => ?_) (fun c34 => ?_)
        · refine lv_aload_n hx hb d_B_raise_44 rfl (lv_at hl 2 rfl) ?_
          refine pw_get (ci := 1) (C := R_F) (T := T_F) (N := 3) hx hb hq i_F hown hw (by omega) hFx_at_25 rfl 0 (by decide) (hq _ fl_B_69) (fun _ h9 => h9) rfl d_B_raise_45 ?_
          refine lv_iload_n hx hb d_B_raise_48 rfl (lv_at hl 0 rfl) ?_
          refine pw_callv hw (va_runV (As := [.ref (ad (83)), .ref (ad (x + 1)), .int (iI ((n.natAbs : Int)))]) (rest := []) ⟨hx, hb, hml, hown, hq⟩ (c_B_raiseWhole l D ty ad M F25 H.size hM 0 83 (x + 1) (xt) n.natAbs (by omega) (by omega) (by omega) hxt m25_82 w83_at_25 wx1_at_25 w91_at_25) (cwV 3 hq (gV ml_B_143 im_B_raiseWhole se_B_raiseWhole in_B m_B_raiseWhole) rfl rfl rfl (by decide +kernel) ⟨Nat.le_of_ble_eq_true rfl, Nat.le_of_ble_eq_true rfl⟩) (pw_preV hw (by omega) m25_82 rfl) rfl rfl hl.1 rfl (lv_room (Nat.le_of_ble_eq_true rfl)) d_B_raise_49 ⟨Nat.le_of_ble_eq_true rfl, Nat.le_of_ble_eq_true rfl⟩) (fun F49 H locs q49 hw => ?_)
          obtain ⟨⟨rv49, w83, hs49a, hs49b⟩, w91, hf49⟩ := q49
          have w85_at_49 : Wa ty ad F49 (85) 136 := Wa.mv w85_at_25 (hf49 (85) (by omega) (by omega) (by omega) (by omega)) (hf49 (85 + 1) (by omega) (by omega) (by omega) (by omega))
          have w87_at_49 : Wa ty ad F49 (87) 136 := Wa.mv w87_at_25 (hf49 (87) (by omega) (by omega) (by omega) (by omega)) (hf49 (87 + 1) (by omega) (by omega) (by omega) (by omega))
          have w89_at_49 : Wa ty ad F49 (89) 136 := Wa.mv w89_at_25 (hf49 (89) (by omega) (by omega) (by omega) (by omega)) (hf49 (89 + 1) (by omega) (by omega) (by omega) (by omega))
          have hD_at_49 : F49 (93) = .inr (3, [.ref (ad (93 + 1)), .long (f0), .long (g0), .long (h0), .long (k0)]) := (hf49 (93) (by omega) (by omega) (by omega) (by omega)).trans hD_at_25
          have w94_at_49 : Wa ty ad F49 (93 + 1) 136 := Wa.mv w94_at_25 (hf49 (93 + 1) (by omega) (by omega) (by omega) (by omega)) (hf49 (93 + 1 + 1) (by omega) (by omega) (by omega) (by omega))
          have hFx_at_49 : F49 (x) = .inr (1, [.ref (ad (x + 1)), .ref (ad (x + 3)), .int (iI ((xs : Int)))]) := (hf49 (x) (by omega) (by omega) (by omega) (by omega)).trans hFx_at_25
          have wx1_at_49 : Wv ty ad F49 (x + 1) 67 (xt) := Wv.mv wx1_at_25 (hf49 (x + 1) (by omega) (by omega) (by omega) (by omega)) (hf49 (x + 1 + 1) (by omega) (by omega) (by omega) (by omega))
          have wx3_at_49 : Wv ty ad F49 (x + 3) 67 (xb) := Wv.mv wx3_at_25 (hf49 (x + 3) (by omega) (by omega) (by omega) (by omega)) (hf49 (x + 3 + 1) (by omega) (by omega) (by omega) (by omega))
          have m25_82_at_49 : F49 (82) = .inr (4, [.ref (ad (83)), .ref (ad (85)), .ref (ad (87)), .ref (ad (89)), .ref (ad (91)), .ref (ad (93)), .int (iI (0))]) := (hf49 (82) (by omega) (by omega) (by omega) (by omega)).trans m25_82
          refine lv_aload_n hx hb d_B_raise_52 rfl (lv_at hl 1 rfl) ?_
          refine lv_aload_n hx hb d_B_raise_53 rfl (lv_at hl 1 rfl) ?_
          refine pw_get (ci := 4) (C := R_B) (T := T_B) (N := 7) hx hb hq i_B hown hw (by omega) m25_82_at_49 rfl 1 (by decide) (hq _ fl_B_20) (fun _ h9 => h9) rfl d_B_raise_54 ?_
          refine lv_iload_n hx hb d_B_raise_57 rfl (lv_at hl 3 rfl) ?_
          refine wz_if_ge (tgt := 68) hx hb d_B_raise_58 (by decide) (by omega) (by omega) (fun c58 => ?_) (fun c58 => ?_)
          · refine lv_aload_n hx hb d_B_raise_68 rfl (lv_at hl 2 rfl) ?_
            refine pw_get (ci := 1) (C := R_F) (T := T_F) (N := 3) hx hb hq i_F hown hw (by omega) hFx_at_49 rfl 1 (by decide) (hq _ fl_B_72) (fun _ h9 => h9) rfl d_B_raise_69 ?_
            refine lv_iload_n hx hb d_B_raise_72 rfl (lv_at hl 0 rfl) ?_
            refine pw_callv hw (va_runV (As := [.ref (ad (85)), .ref (ad (x + 3)), .int (iI ((n.natAbs : Int)))]) (rest := []) ⟨hx, hb, hml, hown, hq⟩ (c_B_raiseWhole l D ty ad M F49 H.size hM 0 85 (x + 3) (xb) n.natAbs (by omega) (by omega) (by omega) hxb m25_82_at_49 w85_at_49 wx3_at_49 w91) (cwV 3 hq (gV ml_B_143 im_B_raiseWhole se_B_raiseWhole in_B m_B_raiseWhole) rfl rfl rfl (by decide +kernel) ⟨Nat.le_of_ble_eq_true rfl, Nat.le_of_ble_eq_true rfl⟩) (pw_preV hw (by omega) m25_82_at_49 rfl) rfl rfl hl.1 rfl (lv_room (Nat.le_of_ble_eq_true rfl)) d_B_raise_73 ⟨Nat.le_of_ble_eq_true rfl, Nat.le_of_ble_eq_true rfl⟩) (fun F73 H locs q73 hw => ?_)
            obtain ⟨⟨rv73, w85, hs73a, hs73b⟩, w91, hf73⟩ := q73
            have w87_at_73 : Wa ty ad F73 (87) 136 := Wa.mv w87_at_49 (hf73 (87) (by omega) (by omega) (by omega) (by omega)) (hf73 (87 + 1) (by omega) (by omega) (by omega) (by omega))
            have w89_at_73 : Wa ty ad F73 (89) 136 := Wa.mv w89_at_49 (hf73 (89) (by omega) (by omega) (by omega) (by omega)) (hf73 (89 + 1) (by omega) (by omega) (by omega) (by omega))
            have hD_at_73 : F73 (93) = .inr (3, [.ref (ad (93 + 1)), .long (f0), .long (g0), .long (h0), .long (k0)]) := (hf73 (93) (by omega) (by omega) (by omega) (by omega)).trans hD_at_49
            have w94_at_73 : Wa ty ad F73 (93 + 1) 136 := Wa.mv w94_at_49 (hf73 (93 + 1) (by omega) (by omega) (by omega) (by omega)) (hf73 (93 + 1 + 1) (by omega) (by omega) (by omega) (by omega))
            have hFx_at_73 : F73 (x) = .inr (1, [.ref (ad (x + 1)), .ref (ad (x + 3)), .int (iI ((xs : Int)))]) := (hf73 (x) (by omega) (by omega) (by omega) (by omega)).trans hFx_at_49
            have wx1_at_73 : Wv ty ad F73 (x + 1) 67 (xt) := Wv.mv wx1_at_49 (hf73 (x + 1) (by omega) (by omega) (by omega) (by omega)) (hf73 (x + 1 + 1) (by omega) (by omega) (by omega) (by omega))
            have wx3_at_73 : Wv ty ad F73 (x + 3) 67 (xb) := Wv.mv wx3_at_49 (hf73 (x + 3) (by omega) (by omega) (by omega) (by omega)) (hf73 (x + 3 + 1) (by omega) (by omega) (by omega) (by omega))
            have m25_82_at_73 : F73 (82) = .inr (4, [.ref (ad (83)), .ref (ad (85)), .ref (ad (87)), .ref (ad (89)), .ref (ad (91)), .ref (ad (93)), .int (iI (0))]) := (hf73 (82) (by omega) (by omega) (by omega) (by omega)).trans m25_82_at_49
            have w83_at_73 : Wv ty ad F73 (83) 136 (rv49) := Wv.mv w83 (hf73 (83) (by omega) (by omega) (by omega) (by omega)) (hf73 (83 + 1) (by omega) (by omega) (by omega) (by omega))
            rw [← hQ]
            exact pw_vret hx hb hr hlocks hw (⟨⟨rv49, rv73, ⟨by split <;> omega, by rw [if_neg (by omega)]; exact m25_82_at_73, w83_at_73, w85, w87_at_73, w89_at_73, w91, ⟨_, _, _, _, hD_at_73⟩, w94_at_73⟩, by rw [if_neg (by omega)]; exact ⟨hs49a, hs49b⟩, by rw [if_neg (by omega)]; exact ⟨hs73a, hs73b⟩⟩, fun y9 h9 => (hf73 (y9) (by omega) (by omega) (by omega) (by omega)).trans ((hf49 (y9) (by omega) (by omega) (by omega) (by omega)).trans (show F25 (y9) = F (y9) from by rw [eF25]; exact va_up_ne _ _ (by omega)))⟩) d_B_raise_76
          · exact absurd c58 (by omega)
        · refine lv_aload_n hx hb d_B_raise_37 rfl (lv_at hl 2 rfl) ?_
          refine pw_get (ci := 1) (C := R_F) (T := T_F) (N := 3) hx hb hq i_F hown hw (by omega) hFx_at_25 rfl 1 (by decide) (hq _ fl_B_72) (fun _ h9 => h9) rfl d_B_raise_38 ?_
          refine lv_goto (tgt := 48) hx hb d_B_raise_41 (by decide) ?_
          refine lv_iload_n hx hb d_B_raise_48 rfl (lv_at hl 0 rfl) ?_
          refine pw_callv hw (va_runV (As := [.ref (ad (83)), .ref (ad (x + 3)), .int (iI ((n.natAbs : Int)))]) (rest := []) ⟨hx, hb, hml, hown, hq⟩ (c_B_raiseWhole l D ty ad M F25 H.size hM 0 83 (x + 3) (xb) n.natAbs (by omega) (by omega) (by omega) hxb m25_82 w83_at_25 wx3_at_25 w91_at_25) (cwV 3 hq (gV ml_B_143 im_B_raiseWhole se_B_raiseWhole in_B m_B_raiseWhole) rfl rfl rfl (by decide +kernel) ⟨Nat.le_of_ble_eq_true rfl, Nat.le_of_ble_eq_true rfl⟩) (pw_preV hw (by omega) m25_82 rfl) rfl rfl hl.1 rfl (lv_room (Nat.le_of_ble_eq_true rfl)) d_B_raise_49 ⟨Nat.le_of_ble_eq_true rfl, Nat.le_of_ble_eq_true rfl⟩) (fun F49 H locs q49 hw => ?_)
          obtain ⟨⟨rv49, w83, hs49a, hs49b⟩, w91, hf49⟩ := q49
          have w85_at_49 : Wa ty ad F49 (85) 136 := Wa.mv w85_at_25 (hf49 (85) (by omega) (by omega) (by omega) (by omega)) (hf49 (85 + 1) (by omega) (by omega) (by omega) (by omega))
          have w87_at_49 : Wa ty ad F49 (87) 136 := Wa.mv w87_at_25 (hf49 (87) (by omega) (by omega) (by omega) (by omega)) (hf49 (87 + 1) (by omega) (by omega) (by omega) (by omega))
          have w89_at_49 : Wa ty ad F49 (89) 136 := Wa.mv w89_at_25 (hf49 (89) (by omega) (by omega) (by omega) (by omega)) (hf49 (89 + 1) (by omega) (by omega) (by omega) (by omega))
          have hD_at_49 : F49 (93) = .inr (3, [.ref (ad (93 + 1)), .long (f0), .long (g0), .long (h0), .long (k0)]) := (hf49 (93) (by omega) (by omega) (by omega) (by omega)).trans hD_at_25
          have w94_at_49 : Wa ty ad F49 (93 + 1) 136 := Wa.mv w94_at_25 (hf49 (93 + 1) (by omega) (by omega) (by omega) (by omega)) (hf49 (93 + 1 + 1) (by omega) (by omega) (by omega) (by omega))
          have hFx_at_49 : F49 (x) = .inr (1, [.ref (ad (x + 1)), .ref (ad (x + 3)), .int (iI ((xs : Int)))]) := (hf49 (x) (by omega) (by omega) (by omega) (by omega)).trans hFx_at_25
          have wx1_at_49 : Wv ty ad F49 (x + 1) 67 (xt) := Wv.mv wx1_at_25 (hf49 (x + 1) (by omega) (by omega) (by omega) (by omega)) (hf49 (x + 1 + 1) (by omega) (by omega) (by omega) (by omega))
          have wx3_at_49 : Wv ty ad F49 (x + 3) 67 (xb) := Wv.mv wx3_at_25 (hf49 (x + 3) (by omega) (by omega) (by omega) (by omega)) (hf49 (x + 3 + 1) (by omega) (by omega) (by omega) (by omega))
          have m25_82_at_49 : F49 (82) = .inr (4, [.ref (ad (83)), .ref (ad (85)), .ref (ad (87)), .ref (ad (89)), .ref (ad (91)), .ref (ad (93)), .int (iI (0))]) := (hf49 (82) (by omega) (by omega) (by omega) (by omega)).trans m25_82
          refine lv_aload_n hx hb d_B_raise_52 rfl (lv_at hl 1 rfl) ?_
          refine lv_aload_n hx hb d_B_raise_53 rfl (lv_at hl 1 rfl) ?_
          refine pw_get (ci := 4) (C := R_B) (T := T_B) (N := 7) hx hb hq i_B hown hw (by omega) m25_82_at_49 rfl 1 (by decide) (hq _ fl_B_20) (fun _ h9 => h9) rfl d_B_raise_54 ?_
          refine lv_iload_n hx hb d_B_raise_57 rfl (lv_at hl 3 rfl) ?_
          refine wz_if_ge (tgt := 68) hx hb d_B_raise_58 (by decide) (by omega) (by omega) (fun c58 => ?_) (fun c58 => ?_)
          · exact absurd c58 (by omega)
          · refine lv_aload_n hx hb d_B_raise_61 rfl (lv_at hl 2 rfl) ?_
            refine pw_get (ci := 1) (C := R_F) (T := T_F) (N := 3) hx hb hq i_F hown hw (by omega) hFx_at_49 rfl 0 (by decide) (hq _ fl_B_69) (fun _ h9 => h9) rfl d_B_raise_62 ?_
            refine lv_goto (tgt := 72) hx hb d_B_raise_65 (by decide) ?_
            refine lv_iload_n hx hb d_B_raise_72 rfl (lv_at hl 0 rfl) ?_
            refine pw_callv hw (va_runV (As := [.ref (ad (85)), .ref (ad (x + 1)), .int (iI ((n.natAbs : Int)))]) (rest := []) ⟨hx, hb, hml, hown, hq⟩ (c_B_raiseWhole l D ty ad M F49 H.size hM 0 85 (x + 1) (xt) n.natAbs (by omega) (by omega) (by omega) hxt m25_82_at_49 w85_at_49 wx1_at_49 w91) (cwV 3 hq (gV ml_B_143 im_B_raiseWhole se_B_raiseWhole in_B m_B_raiseWhole) rfl rfl rfl (by decide +kernel) ⟨Nat.le_of_ble_eq_true rfl, Nat.le_of_ble_eq_true rfl⟩) (pw_preV hw (by omega) m25_82_at_49 rfl) rfl rfl hl.1 rfl (lv_room (Nat.le_of_ble_eq_true rfl)) d_B_raise_73 ⟨Nat.le_of_ble_eq_true rfl, Nat.le_of_ble_eq_true rfl⟩) (fun F73 H locs q73 hw => ?_)
            obtain ⟨⟨rv73, w85, hs73a, hs73b⟩, w91, hf73⟩ := q73
            have w87_at_73 : Wa ty ad F73 (87) 136 := Wa.mv w87_at_49 (hf73 (87) (by omega) (by omega) (by omega) (by omega)) (hf73 (87 + 1) (by omega) (by omega) (by omega) (by omega))
            have w89_at_73 : Wa ty ad F73 (89) 136 := Wa.mv w89_at_49 (hf73 (89) (by omega) (by omega) (by omega) (by omega)) (hf73 (89 + 1) (by omega) (by omega) (by omega) (by omega))
            have hD_at_73 : F73 (93) = .inr (3, [.ref (ad (93 + 1)), .long (f0), .long (g0), .long (h0), .long (k0)]) := (hf73 (93) (by omega) (by omega) (by omega) (by omega)).trans hD_at_49
            have w94_at_73 : Wa ty ad F73 (93 + 1) 136 := Wa.mv w94_at_49 (hf73 (93 + 1) (by omega) (by omega) (by omega) (by omega)) (hf73 (93 + 1 + 1) (by omega) (by omega) (by omega) (by omega))
            have hFx_at_73 : F73 (x) = .inr (1, [.ref (ad (x + 1)), .ref (ad (x + 3)), .int (iI ((xs : Int)))]) := (hf73 (x) (by omega) (by omega) (by omega) (by omega)).trans hFx_at_49
            have wx1_at_73 : Wv ty ad F73 (x + 1) 67 (xt) := Wv.mv wx1_at_49 (hf73 (x + 1) (by omega) (by omega) (by omega) (by omega)) (hf73 (x + 1 + 1) (by omega) (by omega) (by omega) (by omega))
            have wx3_at_73 : Wv ty ad F73 (x + 3) 67 (xb) := Wv.mv wx3_at_49 (hf73 (x + 3) (by omega) (by omega) (by omega) (by omega)) (hf73 (x + 3 + 1) (by omega) (by omega) (by omega) (by omega))
            have m25_82_at_73 : F73 (82) = .inr (4, [.ref (ad (83)), .ref (ad (85)), .ref (ad (87)), .ref (ad (89)), .ref (ad (91)), .ref (ad (93)), .int (iI (0))]) := (hf73 (82) (by omega) (by omega) (by omega) (by omega)).trans m25_82_at_49
            have w83_at_73 : Wv ty ad F73 (83) 136 (rv49) := Wv.mv w83 (hf73 (83) (by omega) (by omega) (by omega) (by omega)) (hf73 (83 + 1) (by omega) (by omega) (by omega) (by omega))
            rw [← hQ]
            exact pw_vret hx hb hr hlocks hw (⟨⟨rv49, rv73, ⟨by split <;> omega, by rw [if_neg (by omega)]; exact m25_82_at_73, w83_at_73, w85, w87_at_73, w89_at_73, w91, ⟨_, _, _, _, hD_at_73⟩, w94_at_73⟩, by rw [if_pos (by omega)]; exact ⟨hs49a, hs49b⟩, by rw [if_pos (by omega)]; exact ⟨hs73a, hs73b⟩⟩, fun y9 h9 => (hf73 (y9) (by omega) (by omega) (by omega) (by omega)).trans ((hf49 (y9) (by omega) (by omega) (by omega) (by omega)).trans (show F25 (y9) = F (y9) from by rw [eF25]; exact va_up_ne _ _ (by omega)))⟩) d_B_raise_76
      · refine wz_iconst (n := 1) hx hb d_B_raise_20 ?_
        refine lv_goto (tgt := 25) hx hb d_B_raise_21 (by decide) ?_
        refine pw_put (ci := 4) (C := R_B) (T := T_B) (N := 7) (ty := .boolean) (fs' := [.ref (ad (83)), .ref (ad (85)), .ref (ad (87)), .ref (ad (89)), .ref (ad (91)), .ref (ad (93)), .int (iI (1))]) hx hb hq i_B ft_B ft_B_ok n_B hown hw (by omega) hB rfl 6 (by decide) (hq _ fl_B_39) (fun _ h9 => h9) rfl (by decide +kernel) rfl rfl (Nat.le_of_ble_eq_true rfl) rfl d_B_raise_25 (fun F25 H locs eF25 hw => ?_)
        have m25_82 : F25 (82) = .inr (4, [.ref (ad (83)), .ref (ad (85)), .ref (ad (87)), .ref (ad (89)), .ref (ad (91)), .ref (ad (93)), .int (iI (1))]) := by rw [eF25]; exact va_up_self ..
        have w83_at_25 : Wa ty ad F25 (83) 136 := Wa.mv w83 (show F25 (83) = F (83) from by rw [eF25]; exact va_up_ne _ _ (by omega)) (show F25 (83 + 1) = F (83 + 1) from by rw [eF25]; exact va_up_ne _ _ (by omega))
        have w85_at_25 : Wa ty ad F25 (85) 136 := Wa.mv w85 (show F25 (85) = F (85) from by rw [eF25]; exact va_up_ne _ _ (by omega)) (show F25 (85 + 1) = F (85 + 1) from by rw [eF25]; exact va_up_ne _ _ (by omega))
        have w87_at_25 : Wa ty ad F25 (87) 136 := Wa.mv w87 (show F25 (87) = F (87) from by rw [eF25]; exact va_up_ne _ _ (by omega)) (show F25 (87 + 1) = F (87 + 1) from by rw [eF25]; exact va_up_ne _ _ (by omega))
        have w89_at_25 : Wa ty ad F25 (89) 136 := Wa.mv w89 (show F25 (89) = F (89) from by rw [eF25]; exact va_up_ne _ _ (by omega)) (show F25 (89 + 1) = F (89 + 1) from by rw [eF25]; exact va_up_ne _ _ (by omega))
        have w91_at_25 : Wa ty ad F25 (91) 136 := Wa.mv w91 (show F25 (91) = F (91) from by rw [eF25]; exact va_up_ne _ _ (by omega)) (show F25 (91 + 1) = F (91 + 1) from by rw [eF25]; exact va_up_ne _ _ (by omega))
        have hD_at_25 : F25 (93) = .inr (3, [.ref (ad (93 + 1)), .long (f0), .long (g0), .long (h0), .long (k0)]) := (show F25 (93) = F (93) from by rw [eF25]; exact va_up_ne _ _ (by omega)).trans hD
        have w94_at_25 : Wa ty ad F25 (93 + 1) 136 := Wa.mv w94 (show F25 (93 + 1) = F (93 + 1) from by rw [eF25]; exact va_up_ne _ _ (by omega)) (show F25 (93 + 1 + 1) = F (93 + 1 + 1) from by rw [eF25]; exact va_up_ne _ _ (by omega))
        have hFx_at_25 : F25 (x) = .inr (1, [.ref (ad (x + 1)), .ref (ad (x + 3)), .int (iI ((xs : Int)))]) := (show F25 (x) = F (x) from by rw [eF25]; exact va_up_ne _ _ (by omega)).trans hFx
        have wx1_at_25 : Wv ty ad F25 (x + 1) 67 (xt) := Wv.mv wx1 (show F25 (x + 1) = F (x + 1) from by rw [eF25]; exact va_up_ne _ _ (by omega)) (show F25 (x + 1 + 1) = F (x + 1 + 1) from by rw [eF25]; exact va_up_ne _ _ (by omega))
        have wx3_at_25 : Wv ty ad F25 (x + 3) 67 (xb) := Wv.mv wx3 (show F25 (x + 3) = F (x + 3) from by rw [eF25]; exact va_up_ne _ _ (by omega)) (show F25 (x + 3 + 1) = F (x + 3 + 1) from by rw [eF25]; exact va_up_ne _ _ (by omega))
        refine lv_aload_n hx hb d_B_raise_28 rfl (lv_at hl 1 rfl) ?_
        refine lv_aload_n hx hb d_B_raise_29 rfl (lv_at hl 1 rfl) ?_
        refine pw_get (ci := 4) (C := R_B) (T := T_B) (N := 7) hx hb hq i_B hown hw (by omega) m25_82 rfl 0 (by decide) (hq _ fl_B_16) (fun _ h9 => h9) rfl d_B_raise_30 ?_
        refine lv_iload_n hx hb d_B_raise_33 rfl (lv_at hl 3 rfl) ?_
        refine wz_if_ge (tgt := 44) hx hb d_B_raise_34 (by decide) (by omega) (by omega) (fun c34 => ?_) (fun c34 => ?_)
        · refine lv_aload_n hx hb d_B_raise_44 rfl (lv_at hl 2 rfl) ?_
          refine pw_get (ci := 1) (C := R_F) (T := T_F) (N := 3) hx hb hq i_F hown hw (by omega) hFx_at_25 rfl 0 (by decide) (hq _ fl_B_69) (fun _ h9 => h9) rfl d_B_raise_45 ?_
          refine lv_iload_n hx hb d_B_raise_48 rfl (lv_at hl 0 rfl) ?_
          refine pw_callv hw (va_runV (As := [.ref (ad (83)), .ref (ad (x + 1)), .int (iI ((n.natAbs : Int)))]) (rest := []) ⟨hx, hb, hml, hown, hq⟩ (c_B_raiseWhole l D ty ad M F25 H.size hM 1 83 (x + 1) (xt) n.natAbs (by omega) (by omega) (by omega) hxt m25_82 w83_at_25 wx1_at_25 w91_at_25) (cwV 3 hq (gV ml_B_143 im_B_raiseWhole se_B_raiseWhole in_B m_B_raiseWhole) rfl rfl rfl (by decide +kernel) ⟨Nat.le_of_ble_eq_true rfl, Nat.le_of_ble_eq_true rfl⟩) (pw_preV hw (by omega) m25_82 rfl) rfl rfl hl.1 rfl (lv_room (Nat.le_of_ble_eq_true rfl)) d_B_raise_49 ⟨Nat.le_of_ble_eq_true rfl, Nat.le_of_ble_eq_true rfl⟩) (fun F49 H locs q49 hw => ?_)
          obtain ⟨⟨rv49, w83, hs49a, hs49b⟩, w91, hf49⟩ := q49
          have w85_at_49 : Wa ty ad F49 (85) 136 := Wa.mv w85_at_25 (hf49 (85) (by omega) (by omega) (by omega) (by omega)) (hf49 (85 + 1) (by omega) (by omega) (by omega) (by omega))
          have w87_at_49 : Wa ty ad F49 (87) 136 := Wa.mv w87_at_25 (hf49 (87) (by omega) (by omega) (by omega) (by omega)) (hf49 (87 + 1) (by omega) (by omega) (by omega) (by omega))
          have w89_at_49 : Wa ty ad F49 (89) 136 := Wa.mv w89_at_25 (hf49 (89) (by omega) (by omega) (by omega) (by omega)) (hf49 (89 + 1) (by omega) (by omega) (by omega) (by omega))
          have hD_at_49 : F49 (93) = .inr (3, [.ref (ad (93 + 1)), .long (f0), .long (g0), .long (h0), .long (k0)]) := (hf49 (93) (by omega) (by omega) (by omega) (by omega)).trans hD_at_25
          have w94_at_49 : Wa ty ad F49 (93 + 1) 136 := Wa.mv w94_at_25 (hf49 (93 + 1) (by omega) (by omega) (by omega) (by omega)) (hf49 (93 + 1 + 1) (by omega) (by omega) (by omega) (by omega))
          have hFx_at_49 : F49 (x) = .inr (1, [.ref (ad (x + 1)), .ref (ad (x + 3)), .int (iI ((xs : Int)))]) := (hf49 (x) (by omega) (by omega) (by omega) (by omega)).trans hFx_at_25
          have wx1_at_49 : Wv ty ad F49 (x + 1) 67 (xt) := Wv.mv wx1_at_25 (hf49 (x + 1) (by omega) (by omega) (by omega) (by omega)) (hf49 (x + 1 + 1) (by omega) (by omega) (by omega) (by omega))
          have wx3_at_49 : Wv ty ad F49 (x + 3) 67 (xb) := Wv.mv wx3_at_25 (hf49 (x + 3) (by omega) (by omega) (by omega) (by omega)) (hf49 (x + 3 + 1) (by omega) (by omega) (by omega) (by omega))
          have m25_82_at_49 : F49 (82) = .inr (4, [.ref (ad (83)), .ref (ad (85)), .ref (ad (87)), .ref (ad (89)), .ref (ad (91)), .ref (ad (93)), .int (iI (1))]) := (hf49 (82) (by omega) (by omega) (by omega) (by omega)).trans m25_82
          refine lv_aload_n hx hb d_B_raise_52 rfl (lv_at hl 1 rfl) ?_
          refine lv_aload_n hx hb d_B_raise_53 rfl (lv_at hl 1 rfl) ?_
          refine pw_get (ci := 4) (C := R_B) (T := T_B) (N := 7) hx hb hq i_B hown hw (by omega) m25_82_at_49 rfl 1 (by decide) (hq _ fl_B_20) (fun _ h9 => h9) rfl d_B_raise_54 ?_
          refine lv_iload_n hx hb d_B_raise_57 rfl (lv_at hl 3 rfl) ?_
          refine wz_if_ge (tgt := 68) hx hb d_B_raise_58 (by decide) (by omega) (by omega) (fun c58 => ?_) (fun c58 => ?_)
          · refine lv_aload_n hx hb d_B_raise_68 rfl (lv_at hl 2 rfl) ?_
            refine pw_get (ci := 1) (C := R_F) (T := T_F) (N := 3) hx hb hq i_F hown hw (by omega) hFx_at_49 rfl 1 (by decide) (hq _ fl_B_72) (fun _ h9 => h9) rfl d_B_raise_69 ?_
            refine lv_iload_n hx hb d_B_raise_72 rfl (lv_at hl 0 rfl) ?_
            refine pw_callv hw (va_runV (As := [.ref (ad (85)), .ref (ad (x + 3)), .int (iI ((n.natAbs : Int)))]) (rest := []) ⟨hx, hb, hml, hown, hq⟩ (c_B_raiseWhole l D ty ad M F49 H.size hM 1 85 (x + 3) (xb) n.natAbs (by omega) (by omega) (by omega) hxb m25_82_at_49 w85_at_49 wx3_at_49 w91) (cwV 3 hq (gV ml_B_143 im_B_raiseWhole se_B_raiseWhole in_B m_B_raiseWhole) rfl rfl rfl (by decide +kernel) ⟨Nat.le_of_ble_eq_true rfl, Nat.le_of_ble_eq_true rfl⟩) (pw_preV hw (by omega) m25_82_at_49 rfl) rfl rfl hl.1 rfl (lv_room (Nat.le_of_ble_eq_true rfl)) d_B_raise_73 ⟨Nat.le_of_ble_eq_true rfl, Nat.le_of_ble_eq_true rfl⟩) (fun F73 H locs q73 hw => ?_)
            obtain ⟨⟨rv73, w85, hs73a, hs73b⟩, w91, hf73⟩ := q73
            have w87_at_73 : Wa ty ad F73 (87) 136 := Wa.mv w87_at_49 (hf73 (87) (by omega) (by omega) (by omega) (by omega)) (hf73 (87 + 1) (by omega) (by omega) (by omega) (by omega))
            have w89_at_73 : Wa ty ad F73 (89) 136 := Wa.mv w89_at_49 (hf73 (89) (by omega) (by omega) (by omega) (by omega)) (hf73 (89 + 1) (by omega) (by omega) (by omega) (by omega))
            have hD_at_73 : F73 (93) = .inr (3, [.ref (ad (93 + 1)), .long (f0), .long (g0), .long (h0), .long (k0)]) := (hf73 (93) (by omega) (by omega) (by omega) (by omega)).trans hD_at_49
            have w94_at_73 : Wa ty ad F73 (93 + 1) 136 := Wa.mv w94_at_49 (hf73 (93 + 1) (by omega) (by omega) (by omega) (by omega)) (hf73 (93 + 1 + 1) (by omega) (by omega) (by omega) (by omega))
            have hFx_at_73 : F73 (x) = .inr (1, [.ref (ad (x + 1)), .ref (ad (x + 3)), .int (iI ((xs : Int)))]) := (hf73 (x) (by omega) (by omega) (by omega) (by omega)).trans hFx_at_49
            have wx1_at_73 : Wv ty ad F73 (x + 1) 67 (xt) := Wv.mv wx1_at_49 (hf73 (x + 1) (by omega) (by omega) (by omega) (by omega)) (hf73 (x + 1 + 1) (by omega) (by omega) (by omega) (by omega))
            have wx3_at_73 : Wv ty ad F73 (x + 3) 67 (xb) := Wv.mv wx3_at_49 (hf73 (x + 3) (by omega) (by omega) (by omega) (by omega)) (hf73 (x + 3 + 1) (by omega) (by omega) (by omega) (by omega))
            have m25_82_at_73 : F73 (82) = .inr (4, [.ref (ad (83)), .ref (ad (85)), .ref (ad (87)), .ref (ad (89)), .ref (ad (91)), .ref (ad (93)), .int (iI (1))]) := (hf73 (82) (by omega) (by omega) (by omega) (by omega)).trans m25_82_at_49
            have w83_at_73 : Wv ty ad F73 (83) 136 (rv49) := Wv.mv w83 (hf73 (83) (by omega) (by omega) (by omega) (by omega)) (hf73 (83 + 1) (by omega) (by omega) (by omega) (by omega))
            rw [← hQ]
            exact pw_vret hx hb hr hlocks hw (⟨⟨rv49, rv73, ⟨by split <;> omega, by rw [if_pos (by omega)]; exact m25_82_at_73, w83_at_73, w85, w87_at_73, w89_at_73, w91, ⟨_, _, _, _, hD_at_73⟩, w94_at_73⟩, by rw [if_neg (by omega)]; exact ⟨hs49a, hs49b⟩, by rw [if_neg (by omega)]; exact ⟨hs73a, hs73b⟩⟩, fun y9 h9 => (hf73 (y9) (by omega) (by omega) (by omega) (by omega)).trans ((hf49 (y9) (by omega) (by omega) (by omega) (by omega)).trans (show F25 (y9) = F (y9) from by rw [eF25]; exact va_up_ne _ _ (by omega)))⟩) d_B_raise_76
          · exact absurd c58 (by omega)
        · refine lv_aload_n hx hb d_B_raise_37 rfl (lv_at hl 2 rfl) ?_
          refine pw_get (ci := 1) (C := R_F) (T := T_F) (N := 3) hx hb hq i_F hown hw (by omega) hFx_at_25 rfl 1 (by decide) (hq _ fl_B_72) (fun _ h9 => h9) rfl d_B_raise_38 ?_
          refine lv_goto (tgt := 48) hx hb d_B_raise_41 (by decide) ?_
          refine lv_iload_n hx hb d_B_raise_48 rfl (lv_at hl 0 rfl) ?_
          refine pw_callv hw (va_runV (As := [.ref (ad (83)), .ref (ad (x + 3)), .int (iI ((n.natAbs : Int)))]) (rest := []) ⟨hx, hb, hml, hown, hq⟩ (c_B_raiseWhole l D ty ad M F25 H.size hM 1 83 (x + 3) (xb) n.natAbs (by omega) (by omega) (by omega) hxb m25_82 w83_at_25 wx3_at_25 w91_at_25) (cwV 3 hq (gV ml_B_143 im_B_raiseWhole se_B_raiseWhole in_B m_B_raiseWhole) rfl rfl rfl (by decide +kernel) ⟨Nat.le_of_ble_eq_true rfl, Nat.le_of_ble_eq_true rfl⟩) (pw_preV hw (by omega) m25_82 rfl) rfl rfl hl.1 rfl (lv_room (Nat.le_of_ble_eq_true rfl)) d_B_raise_49 ⟨Nat.le_of_ble_eq_true rfl, Nat.le_of_ble_eq_true rfl⟩) (fun F49 H locs q49 hw => ?_)
          obtain ⟨⟨rv49, w83, hs49a, hs49b⟩, w91, hf49⟩ := q49
          have w85_at_49 : Wa ty ad F49 (85) 136 := Wa.mv w85_at_25 (hf49 (85) (by omega) (by omega) (by omega) (by omega)) (hf49 (85 + 1) (by omega) (by omega) (by omega) (by omega))
          have w87_at_49 : Wa ty ad F49 (87) 136 := Wa.mv w87_at_25 (hf49 (87) (by omega) (by omega) (by omega) (by omega)) (hf49 (87 + 1) (by omega) (by omega) (by omega) (by omega))
          have w89_at_49 : Wa ty ad F49 (89) 136 := Wa.mv w89_at_25 (hf49 (89) (by omega) (by omega) (by omega) (by omega)) (hf49 (89 + 1) (by omega) (by omega) (by omega) (by omega))
          have hD_at_49 : F49 (93) = .inr (3, [.ref (ad (93 + 1)), .long (f0), .long (g0), .long (h0), .long (k0)]) := (hf49 (93) (by omega) (by omega) (by omega) (by omega)).trans hD_at_25
          have w94_at_49 : Wa ty ad F49 (93 + 1) 136 := Wa.mv w94_at_25 (hf49 (93 + 1) (by omega) (by omega) (by omega) (by omega)) (hf49 (93 + 1 + 1) (by omega) (by omega) (by omega) (by omega))
          have hFx_at_49 : F49 (x) = .inr (1, [.ref (ad (x + 1)), .ref (ad (x + 3)), .int (iI ((xs : Int)))]) := (hf49 (x) (by omega) (by omega) (by omega) (by omega)).trans hFx_at_25
          have wx1_at_49 : Wv ty ad F49 (x + 1) 67 (xt) := Wv.mv wx1_at_25 (hf49 (x + 1) (by omega) (by omega) (by omega) (by omega)) (hf49 (x + 1 + 1) (by omega) (by omega) (by omega) (by omega))
          have wx3_at_49 : Wv ty ad F49 (x + 3) 67 (xb) := Wv.mv wx3_at_25 (hf49 (x + 3) (by omega) (by omega) (by omega) (by omega)) (hf49 (x + 3 + 1) (by omega) (by omega) (by omega) (by omega))
          have m25_82_at_49 : F49 (82) = .inr (4, [.ref (ad (83)), .ref (ad (85)), .ref (ad (87)), .ref (ad (89)), .ref (ad (91)), .ref (ad (93)), .int (iI (1))]) := (hf49 (82) (by omega) (by omega) (by omega) (by omega)).trans m25_82
          refine lv_aload_n hx hb d_B_raise_52 rfl (lv_at hl 1 rfl) ?_
          refine lv_aload_n hx hb d_B_raise_53 rfl (lv_at hl 1 rfl) ?_
          refine pw_get (ci := 4) (C := R_B) (T := T_B) (N := 7) hx hb hq i_B hown hw (by omega) m25_82_at_49 rfl 1 (by decide) (hq _ fl_B_20) (fun _ h9 => h9) rfl d_B_raise_54 ?_
          refine lv_iload_n hx hb d_B_raise_57 rfl (lv_at hl 3 rfl) ?_
          refine wz_if_ge (tgt := 68) hx hb d_B_raise_58 (by decide) (by omega) (by omega) (fun c58 => ?_) (fun c58 => ?_)
          · exact absurd c58 (by omega)
          · refine lv_aload_n hx hb d_B_raise_61 rfl (lv_at hl 2 rfl) ?_
            refine pw_get (ci := 1) (C := R_F) (T := T_F) (N := 3) hx hb hq i_F hown hw (by omega) hFx_at_49 rfl 0 (by decide) (hq _ fl_B_69) (fun _ h9 => h9) rfl d_B_raise_62 ?_
            refine lv_goto (tgt := 72) hx hb d_B_raise_65 (by decide) ?_
            refine lv_iload_n hx hb d_B_raise_72 rfl (lv_at hl 0 rfl) ?_
            refine pw_callv hw (va_runV (As := [.ref (ad (85)), .ref (ad (x + 1)), .int (iI ((n.natAbs : Int)))]) (rest := []) ⟨hx, hb, hml, hown, hq⟩ (c_B_raiseWhole l D ty ad M F49 H.size hM 1 85 (x + 1) (xt) n.natAbs (by omega) (by omega) (by omega) hxt m25_82_at_49 w85_at_49 wx1_at_49 w91) (cwV 3 hq (gV ml_B_143 im_B_raiseWhole se_B_raiseWhole in_B m_B_raiseWhole) rfl rfl rfl (by decide +kernel) ⟨Nat.le_of_ble_eq_true rfl, Nat.le_of_ble_eq_true rfl⟩) (pw_preV hw (by omega) m25_82_at_49 rfl) rfl rfl hl.1 rfl (lv_room (Nat.le_of_ble_eq_true rfl)) d_B_raise_73 ⟨Nat.le_of_ble_eq_true rfl, Nat.le_of_ble_eq_true rfl⟩) (fun F73 H locs q73 hw => ?_)
            obtain ⟨⟨rv73, w85, hs73a, hs73b⟩, w91, hf73⟩ := q73
            have w87_at_73 : Wa ty ad F73 (87) 136 := Wa.mv w87_at_49 (hf73 (87) (by omega) (by omega) (by omega) (by omega)) (hf73 (87 + 1) (by omega) (by omega) (by omega) (by omega))
            have w89_at_73 : Wa ty ad F73 (89) 136 := Wa.mv w89_at_49 (hf73 (89) (by omega) (by omega) (by omega) (by omega)) (hf73 (89 + 1) (by omega) (by omega) (by omega) (by omega))
            have hD_at_73 : F73 (93) = .inr (3, [.ref (ad (93 + 1)), .long (f0), .long (g0), .long (h0), .long (k0)]) := (hf73 (93) (by omega) (by omega) (by omega) (by omega)).trans hD_at_49
            have w94_at_73 : Wa ty ad F73 (93 + 1) 136 := Wa.mv w94_at_49 (hf73 (93 + 1) (by omega) (by omega) (by omega) (by omega)) (hf73 (93 + 1 + 1) (by omega) (by omega) (by omega) (by omega))
            have hFx_at_73 : F73 (x) = .inr (1, [.ref (ad (x + 1)), .ref (ad (x + 3)), .int (iI ((xs : Int)))]) := (hf73 (x) (by omega) (by omega) (by omega) (by omega)).trans hFx_at_49
            have wx1_at_73 : Wv ty ad F73 (x + 1) 67 (xt) := Wv.mv wx1_at_49 (hf73 (x + 1) (by omega) (by omega) (by omega) (by omega)) (hf73 (x + 1 + 1) (by omega) (by omega) (by omega) (by omega))
            have wx3_at_73 : Wv ty ad F73 (x + 3) 67 (xb) := Wv.mv wx3_at_49 (hf73 (x + 3) (by omega) (by omega) (by omega) (by omega)) (hf73 (x + 3 + 1) (by omega) (by omega) (by omega) (by omega))
            have m25_82_at_73 : F73 (82) = .inr (4, [.ref (ad (83)), .ref (ad (85)), .ref (ad (87)), .ref (ad (89)), .ref (ad (91)), .ref (ad (93)), .int (iI (1))]) := (hf73 (82) (by omega) (by omega) (by omega) (by omega)).trans m25_82_at_49
            have w83_at_73 : Wv ty ad F73 (83) 136 (rv49) := Wv.mv w83 (hf73 (83) (by omega) (by omega) (by omega) (by omega)) (hf73 (83 + 1) (by omega) (by omega) (by omega) (by omega))
            rw [← hQ]
            exact pw_vret hx hb hr hlocks hw (⟨⟨rv49, rv73, ⟨by split <;> omega, by rw [if_pos (by omega)]; exact m25_82_at_73, w83_at_73, w85, w87_at_73, w89_at_73, w91, ⟨_, _, _, _, hD_at_73⟩, w94_at_73⟩, by rw [if_pos (by omega)]; exact ⟨hs49a, hs49b⟩, by rw [if_pos (by omega)]; exact ⟨hs73a, hs73b⟩⟩, fun y9 h9 => (hf73 (y9) (by omega) (by omega) (by omega) (by omega)).trans ((hf49 (y9) (by omega) (by omega) (by omega) (by omega)).trans (show F25 (y9) = F (y9) from by rw [eF25]; exact va_up_ne _ _ (by omega)))⟩) d_B_raise_76
  rw [hH, hlo] at hgo
  exact hgo
set_option maxHeartbeats 4000000 in
set_option maxRecDepth 100000 in
/-- Bench.keep(target) -/
theorem c_B_keep (l : Launch) (D : va_G) (ty : Nat → ClassId) (ad : Nat → Nat) (M : Nat) (F : Nat → va_E) (sz : Nat) (hM : 97 < M) (tq bq bb : Nat) (hBn : BnT ty ad F tq bq bb) (x t0 b0 s0 : Nat) (hMx : x + 4 < M) (hRx : Frc ty ad F x t0 b0 s0) (hx82 : x + 4 < 82)  :
    CI l y_B_keep w_B_keep ({ frames := 4, cells := 0, slots := 0, locals := 82 } : Room) [.ref (ad (82)), .ref (ad (x))] D ty ad M F sz (fun r F1 => (sm tq ∧ sm bq → r = iI 0 ∧ Frc ty ad F1 x tq bq (if bb = 1 ∧ tq ≠ 0 then 1 else 0) ∧ ∀ y, y < x ∨ x + 4 < y → F1 y = F y) ∧ (¬ (sm tq ∧ sm bq) → r = iI (-1) ∧ F1 = F)) := by
  refine Met.ofW (cc := b_B_keep) (maxL := 2) (ret := (some .int)) (by decide) rfl ?_
  intro p e s m args below meth c s₁ B hml hv
  obtain ⟨rfl, hsz, hP, hK, hD0⟩ := hv
  have hx := B.exec
  have hb := B.bytes
  have hr := B.returns
  have hts := atoms_spec (ws := w_B_keep) B.pre
  have hq : ∀ w ∈ wT, w.before _ s = true := fun w h => hts w (List.mem_cons_of_mem _ h)
  have hown : s.vm.findClass R_B = some m.cls := findClass_of_methodNamed B.named
  have hlocks := B.notSynchronized
  subst hsz
  have hw := pw_start hP hK hD0
  have hl := lv_entry ([.ref (ad (82)), .ref (ad (x))]) (n := 2) (Nat.le_of_ble_eq_true rfl)
  rw [lg_entry_eq]
  generalize (lg_sl ([.ref (ad (82)), .ref (ad (x))]) ++ List.replicate (2 - (lg_sl ([.ref (ad (82)), .ref (ad (x))])).length) Slot.unset).toArray = ls at hl ⊢
  have hl : lv_has ls 2 [(0, .ref (ad (82))), (1, .ref (ad (x)))] := hl
  change W p l e ({ frames := 4, cells := 0, slots := 0, locals := 82 } : Room) s m ([.ref (ad (82)), .ref (ad (x))]).toArray below meth c s.heap [] 0 0 (MQ below (va_Qi (fun r F1 => (sm tq ∧ sm bq → r = iI 0 ∧ Frc ty ad F1 x tq bq (if bb = 1 ∧ tq ≠ 0 then 1 else 0) ∧ ∀ y, y < x ∨ x + 4 < y → F1 y = F y) ∧ (¬ (sm tq ∧ sm bq) → r = iI (-1) ∧ F1 = F)) (pAt D classes (tysL ty) ad M (pA ad M s.heap.size)) (pA ad M s.heap.size)) ([.ref (ad (82)), .ref (ad (x))]).toArray s 0 0 (pA ad M s.heap.size)) (F0 m 0 ls [])
  generalize hQ : MQ below (va_Qi (fun r F1 => (sm tq ∧ sm bq → r = iI 0 ∧ Frc ty ad F1 x tq bq (if bb = 1 ∧ tq ≠ 0 then 1 else 0) ∧ ∀ y, y < x ∨ x + 4 < y → F1 y = F y) ∧ (¬ (sm tq ∧ sm bq) → r = iI (-1) ∧ F1 = F)) (pAt D classes (tysL ty) ad M (pA ad M s.heap.size)) (pA ad M s.heap.size)) ([.ref (ad (82)), .ref (ad (x))]).toArray s 0 0 (pA ad M s.heap.size) = Q
  obtain ⟨H, hH⟩ : ∃ H, H = s.heap := ⟨_, rfl⟩
  obtain ⟨locs, hlo⟩ : ∃ z : List Loc, z = [] := ⟨_, rfl⟩
  have hw : pw D classes (tysL ty) ad M F (pA ad M s.heap.size) s H locs := by rw [hH, hlo]; exact hw
  have hgo : W p l e ({ frames := 4, cells := 0, slots := 0, locals := 82 } : Room) s m ([.ref (ad (82)), .ref (ad (x))]).toArray below meth c H locs 0 0 Q (F0 m 0 ls []) := by
    obtain ⟨hbb, hB, w83, w85, w87, w89, w91, ⟨f0, g0, h0, k0, hD⟩, w94⟩ := hBn
    obtain ⟨hbx, hFx, wx1, wx3⟩ := hRx
    refine lv_aload_n hx hb d_B_keep_0 rfl (lv_at hl 0 rfl) ?_
    refine pw_get (ci := 4) (C := R_B) (T := T_B) (N := 7) hx hb hq i_B hown hw (by omega) hB rfl 0 (by decide) (hq _ fl_B_16) (fun _ h9 => h9) rfl d_B_keep_1 ?_
    refine pw_calli hw (va_runV (As := []) (rest := []) ⟨hx, hb, hml, hown, hq⟩ (c_W_isSmallEnough l D ty ad M F H.size (83) 136 (tq) (by omega) (by omega) w83) (cwV 0 hq (gV ml_B_66 im_W_isSmallEnough se_W_isSmallEnough in_W m_W_isSmallEnough) rfl rfl rfl (by decide +kernel) ⟨Nat.le_of_ble_eq_true rfl, Nat.le_of_ble_eq_true rfl⟩) (pw_preWa hw (by omega) ((w83).a)) rfl rfl hl.1 rfl (lv_room (Nat.le_of_ble_eq_true rfl)) d_B_keep_4 ⟨Nat.le_of_ble_eq_true rfl, Nat.le_of_ble_eq_true rfl⟩) (fun r4 F4 H locs q4 hw => ?_)
    obtain ⟨er4, eF4⟩ := q4
    rw [eF4] at hw
    clear eF4
    subst er4
    refine wz_if_eq (tgt := 20) hx hb d_B_keep_7 (by decide) (by split <;> omega) (by split <;> omega) (fun c7 => ?_) (fun c7 => ?_)
    · have hs1 : ¬ sm tq := (ite_z (P := tq < 2 ^ 2048)).mp c7
      refine wz_iconst (n := -1) hx hb d_B_keep_20 ?_
      rw [← hQ]
      exact pw_iret hx hb hr hlocks hw (⟨fun h9 => absurd h9.1 hs1, fun _ => ⟨rfl, rfl⟩⟩) d_B_keep_21
    · have hs1 : sm tq := (ite_nz (P := tq < 2 ^ 2048)).mp c7
      refine lv_aload_n hx hb d_B_keep_10 rfl (lv_at hl 0 rfl) ?_
      refine pw_get (ci := 4) (C := R_B) (T := T_B) (N := 7) hx hb hq i_B hown hw (by omega) hB rfl 1 (by decide) (hq _ fl_B_20) (fun _ h9 => h9) rfl d_B_keep_11 ?_
      refine pw_calli hw (va_runV (As := []) (rest := []) ⟨hx, hb, hml, hown, hq⟩ (c_W_isSmallEnough l D ty ad M F H.size (85) 136 (bq) (by omega) (by omega) w85) (cwV 0 hq (gV ml_B_66 im_W_isSmallEnough se_W_isSmallEnough in_W m_W_isSmallEnough) rfl rfl rfl (by decide +kernel) ⟨Nat.le_of_ble_eq_true rfl, Nat.le_of_ble_eq_true rfl⟩) (pw_preWa hw (by omega) ((w85).a)) rfl rfl hl.1 rfl (lv_room (Nat.le_of_ble_eq_true rfl)) d_B_keep_14 ⟨Nat.le_of_ble_eq_true rfl, Nat.le_of_ble_eq_true rfl⟩) (fun r14 F14 H locs q14 hw => ?_)
      obtain ⟨er14, eF14⟩ := q14
      rw [eF14] at hw
      clear eF14
      subst er14
      refine wz_if_ne (tgt := 22) hx hb d_B_keep_17 (by decide) (by split <;> omega) (by split <;> omega) (fun c17 => ?_) (fun c17 => ?_)
      · have hs2 : sm bq := (ite_nz (P := bq < 2 ^ 2048)).mp c17
        refine lv_aload_n hx hb d_B_keep_22 rfl (lv_at hl 1 rfl) ?_
        refine pw_get (ci := 1) (C := R_F) (T := T_F) (N := 3) hx hb hq i_F hown hw (by omega) hFx rfl 0 (by decide) (hq _ fl_B_69) (fun _ h9 => h9) rfl d_B_keep_23 ?_
        refine lv_aload_n hx hb d_B_keep_26 rfl (lv_at hl 0 rfl) ?_
        refine pw_get (ci := 4) (C := R_B) (T := T_B) (N := 7) hx hb hq i_B hown hw (by omega) hB rfl 0 (by decide) (hq _ fl_B_16) (fun _ h9 => h9) rfl d_B_keep_27 ?_
        refine pw_callv hw (va_runV (As := [.ref (ad (83))]) (rest := []) ⟨hx, hb, hml, hown, hq⟩ (c_W_become l D ty ad M F H.size (x + 1) (83) 67 136 (tq) (by omega) (by omega) (by omega) (by omega) (by omega) (hs1.f67) (wx1).a w83) (cwV 1 hq (gV ml_B_47 im_W_become se_W_become in_W m_W_become) rfl rfl rfl (by decide +kernel) ⟨Nat.le_of_ble_eq_true rfl, Nat.le_of_ble_eq_true rfl⟩) (pw_preWa hw (by omega) ((wx1).a)) rfl rfl hl.1 rfl (lv_room (Nat.le_of_ble_eq_true rfl)) d_B_keep_30 ⟨Nat.le_of_ble_eq_true rfl, Nat.le_of_ble_eq_true rfl⟩) (fun F30 H locs q30 hw => ?_)
        obtain ⟨wx1, hf30⟩ := q30
        have hB_at_30 : F30 (82) = .inr (4, [.ref (ad (83)), .ref (ad (85)), .ref (ad (87)), .ref (ad (89)), .ref (ad (91)), .ref (ad (93)), .int (iI ((bb : Int)))]) := (hf30 (82) (by omega) (by omega)).trans hB
        have w83_at_30 : Wv ty ad F30 (83) 136 (tq) := Wv.mv w83 (hf30 (83) (by omega) (by omega)) (hf30 (83 + 1) (by omega) (by omega))
        have w85_at_30 : Wv ty ad F30 (85) 136 (bq) := Wv.mv w85 (hf30 (85) (by omega) (by omega)) (hf30 (85 + 1) (by omega) (by omega))
        have w87_at_30 : Wa ty ad F30 (87) 136 := Wa.mv w87 (hf30 (87) (by omega) (by omega)) (hf30 (87 + 1) (by omega) (by omega))
        have w89_at_30 : Wa ty ad F30 (89) 136 := Wa.mv w89 (hf30 (89) (by omega) (by omega)) (hf30 (89 + 1) (by omega) (by omega))
        have w91_at_30 : Wa ty ad F30 (91) 136 := Wa.mv w91 (hf30 (91) (by omega) (by omega)) (hf30 (91 + 1) (by omega) (by omega))
        have hD_at_30 : F30 (93) = .inr (3, [.ref (ad (93 + 1)), .long (f0), .long (g0), .long (h0), .long (k0)]) := (hf30 (93) (by omega) (by omega)).trans hD
        have w94_at_30 : Wa ty ad F30 (93 + 1) 136 := Wa.mv w94 (hf30 (93 + 1) (by omega) (by omega)) (hf30 (93 + 1 + 1) (by omega) (by omega))
        have hFx_at_30 : F30 (x) = .inr (1, [.ref (ad (x + 1)), .ref (ad (x + 3)), .int (iI ((s0 : Int)))]) := (hf30 (x) (by omega) (by omega)).trans hFx
        have wx3_at_30 : Wv ty ad F30 (x + 3) 67 (b0) := Wv.mv wx3 (hf30 (x + 3) (by omega) (by omega)) (hf30 (x + 3 + 1) (by omega) (by omega))
        refine lv_aload_n hx hb d_B_keep_33 rfl (lv_at hl 1 rfl) ?_
        refine pw_get (ci := 1) (C := R_F) (T := T_F) (N := 3) hx hb hq i_F hown hw (by omega) hFx_at_30 rfl 1 (by decide) (hq _ fl_B_72) (fun _ h9 => h9) rfl d_B_keep_34 ?_
        refine lv_aload_n hx hb d_B_keep_37 rfl (lv_at hl 0 rfl) ?_
        refine pw_get (ci := 4) (C := R_B) (T := T_B) (N := 7) hx hb hq i_B hown hw (by omega) hB_at_30 rfl 1 (by decide) (hq _ fl_B_20) (fun _ h9 => h9) rfl d_B_keep_38 ?_
        refine pw_callv hw (va_runV (As := [.ref (ad (85))]) (rest := []) ⟨hx, hb, hml, hown, hq⟩ (c_W_become l D ty ad M F30 H.size (x + 3) (85) 67 136 (bq) (by omega) (by omega) (by omega) (by omega) (by omega) (hs2.f67) (wx3_at_30).a w85_at_30) (cwV 1 hq (gV ml_B_47 im_W_become se_W_become in_W m_W_become) rfl rfl rfl (by decide +kernel) ⟨Nat.le_of_ble_eq_true rfl, Nat.le_of_ble_eq_true rfl⟩) (pw_preWa hw (by omega) ((wx3_at_30).a)) rfl rfl hl.1 rfl (lv_room (Nat.le_of_ble_eq_true rfl)) d_B_keep_41 ⟨Nat.le_of_ble_eq_true rfl, Nat.le_of_ble_eq_true rfl⟩) (fun F41 H locs q41 hw => ?_)
        obtain ⟨wx3, hf41⟩ := q41
        have hB_at_41 : F41 (82) = .inr (4, [.ref (ad (83)), .ref (ad (85)), .ref (ad (87)), .ref (ad (89)), .ref (ad (91)), .ref (ad (93)), .int (iI ((bb : Int)))]) := (hf41 (82) (by omega) (by omega)).trans hB_at_30
        have w83_at_41 : Wv ty ad F41 (83) 136 (tq) := Wv.mv w83_at_30 (hf41 (83) (by omega) (by omega)) (hf41 (83 + 1) (by omega) (by omega))
        have w85_at_41 : Wv ty ad F41 (85) 136 (bq) := Wv.mv w85_at_30 (hf41 (85) (by omega) (by omega)) (hf41 (85 + 1) (by omega) (by omega))
        have w87_at_41 : Wa ty ad F41 (87) 136 := Wa.mv w87_at_30 (hf41 (87) (by omega) (by omega)) (hf41 (87 + 1) (by omega) (by omega))
        have w89_at_41 : Wa ty ad F41 (89) 136 := Wa.mv w89_at_30 (hf41 (89) (by omega) (by omega)) (hf41 (89 + 1) (by omega) (by omega))
        have w91_at_41 : Wa ty ad F41 (91) 136 := Wa.mv w91_at_30 (hf41 (91) (by omega) (by omega)) (hf41 (91 + 1) (by omega) (by omega))
        have hD_at_41 : F41 (93) = .inr (3, [.ref (ad (93 + 1)), .long (f0), .long (g0), .long (h0), .long (k0)]) := (hf41 (93) (by omega) (by omega)).trans hD_at_30
        have w94_at_41 : Wa ty ad F41 (93 + 1) 136 := Wa.mv w94_at_30 (hf41 (93 + 1) (by omega) (by omega)) (hf41 (93 + 1 + 1) (by omega) (by omega))
        have hFx_at_41 : F41 (x) = .inr (1, [.ref (ad (x + 1)), .ref (ad (x + 3)), .int (iI ((s0 : Int)))]) := (hf41 (x) (by omega) (by omega)).trans hFx_at_30
        have wx1_at_41 : Wv ty ad F41 (x + 1) 67 (tq) := Wv.mv wx1 (hf41 (x + 1) (by omega) (by omega)) (hf41 (x + 1 + 1) (by omega) (by omega))
        refine lv_aload_n hx hb d_B_keep_44 rfl (lv_at hl 1 rfl) ?_
        refine lv_aload_n hx hb d_B_keep_45 rfl (lv_at hl 0 rfl) ?_
        refine pw_get (ci := 4) (C := R_B) (T := T_B) (N := 7) hx hb hq i_B hown hw (by omega) hB_at_41 rfl 6 (by decide) (hq _ fl_B_39) (fun _ h9 => h9) rfl d_B_keep_46 ?_
        refine wz_if_eq (tgt := 66) hx hb d_B_keep_49 (by decide) (by omega) (by omega) (fun c49 => ?_) (fun c49 => ?_)
        · refine wz_iconst (n := 0) hx hb d_B_keep_66 ?_
          refine pw_put (ci := 1) (C := R_F) (T := T_F) (N := 3) (ty := .boolean) (fs' := [.ref (ad (x + 1)), .ref (ad (x + 3)), .int (iI (0))]) hx hb hq i_F ft_F ft_F_ok n_F hown hw (by omega) hFx_at_41 rfl 2 (by decide) (hq _ fl_B_76) (fun _ h9 => h9) rfl (by decide +kernel) rfl rfl (Nat.le_of_ble_eq_true rfl) rfl d_B_keep_67 (fun F67 H locs eF67 hw => ?_)
          have m67_x : F67 (x) = .inr (1, [.ref (ad (x + 1)), .ref (ad (x + 3)), .int (iI (0))]) := by rw [eF67]; exact va_up_self ..
          have hB_at_67 : F67 (82) = .inr (4, [.ref (ad (83)), .ref (ad (85)), .ref (ad (87)), .ref (ad (89)), .ref (ad (91)), .ref (ad (93)), .int (iI ((bb : Int)))]) := (show F67 (82) = F41 (82) from by rw [eF67]; exact va_up_ne _ _ (by omega)).trans hB_at_41
          have w83_at_67 : Wv ty ad F67 (83) 136 (tq) := Wv.mv w83_at_41 (show F67 (83) = F41 (83) from by rw [eF67]; exact va_up_ne _ _ (by omega)) (show F67 (83 + 1) = F41 (83 + 1) from by rw [eF67]; exact va_up_ne _ _ (by omega))
          have w85_at_67 : Wv ty ad F67 (85) 136 (bq) := Wv.mv w85_at_41 (show F67 (85) = F41 (85) from by rw [eF67]; exact va_up_ne _ _ (by omega)) (show F67 (85 + 1) = F41 (85 + 1) from by rw [eF67]; exact va_up_ne _ _ (by omega))
          have w87_at_67 : Wa ty ad F67 (87) 136 := Wa.mv w87_at_41 (show F67 (87) = F41 (87) from by rw [eF67]; exact va_up_ne _ _ (by omega)) (show F67 (87 + 1) = F41 (87 + 1) from by rw [eF67]; exact va_up_ne _ _ (by omega))
          have w89_at_67 : Wa ty ad F67 (89) 136 := Wa.mv w89_at_41 (show F67 (89) = F41 (89) from by rw [eF67]; exact va_up_ne _ _ (by omega)) (show F67 (89 + 1) = F41 (89 + 1) from by rw [eF67]; exact va_up_ne _ _ (by omega))
          have w91_at_67 : Wa ty ad F67 (91) 136 := Wa.mv w91_at_41 (show F67 (91) = F41 (91) from by rw [eF67]; exact va_up_ne _ _ (by omega)) (show F67 (91 + 1) = F41 (91 + 1) from by rw [eF67]; exact va_up_ne _ _ (by omega))
          have hD_at_67 : F67 (93) = .inr (3, [.ref (ad (93 + 1)), .long (f0), .long (g0), .long (h0), .long (k0)]) := (show F67 (93) = F41 (93) from by rw [eF67]; exact va_up_ne _ _ (by omega)).trans hD_at_41
          have w94_at_67 : Wa ty ad F67 (93 + 1) 136 := Wa.mv w94_at_41 (show F67 (93 + 1) = F41 (93 + 1) from by rw [eF67]; exact va_up_ne _ _ (by omega)) (show F67 (93 + 1 + 1) = F41 (93 + 1 + 1) from by rw [eF67]; exact va_up_ne _ _ (by omega))
          have wx1_at_67 : Wv ty ad F67 (x + 1) 67 (tq) := Wv.mv wx1_at_41 (show F67 (x + 1) = F41 (x + 1) from by rw [eF67]; exact va_up_ne _ _ (by omega)) (show F67 (x + 1 + 1) = F41 (x + 1 + 1) from by rw [eF67]; exact va_up_ne _ _ (by omega))
          have wx3_at_67 : Wv ty ad F67 (x + 3) 67 (bq) := Wv.mv wx3 (show F67 (x + 3) = F41 (x + 3) from by rw [eF67]; exact va_up_ne _ _ (by omega)) (show F67 (x + 3 + 1) = F41 (x + 3 + 1) from by rw [eF67]; exact va_up_ne _ _ (by omega))
          refine wz_iconst (n := 0) hx hb d_B_keep_70 ?_
          rw [← hQ]
          exact pw_iret hx hb hr hlocks hw (⟨fun _ => ⟨rfl, by rw [if_neg (fun h9 => absurd h9.1 (by omega))]; exact ⟨by omega, m67_x, wx1_at_67, wx3_at_67⟩, fun y9 h9 => (show F67 (y9) = F41 (y9) from by rw [eF67]; exact va_up_ne _ _ (by omega)).trans ((hf41 (y9) (by omega) (by omega)).trans (hf30 (y9) (by omega) (by omega)))⟩, fun h9 => absurd ⟨hs1, hs2⟩ h9⟩) d_B_keep_71
        · refine lv_aload_n hx hb d_B_keep_52 rfl (lv_at hl 0 rfl) ?_
          refine pw_get (ci := 4) (C := R_B) (T := T_B) (N := 7) hx hb hq i_B hown hw (by omega) hB_at_41 rfl 0 (by decide) (hq _ fl_B_16) (fun _ h9 => h9) rfl d_B_keep_53 ?_
          refine pw_calli hw (va_runV (As := []) (rest := [.ref (ad (x))]) ⟨hx, hb, hml, hown, hq⟩ (c_W_isZero l D ty ad M F41 H.size (83) 136 (tq) (by omega) (by omega) w83_at_41) (cwV 0 hq (gV ml_B_73 im_W_isZero se_W_isZero in_W m_W_isZero) rfl rfl rfl (by decide +kernel) ⟨Nat.le_of_ble_eq_true rfl, Nat.le_of_ble_eq_true rfl⟩) (pw_preWa hw (by omega) ((w83_at_41).a)) rfl rfl hl.1 rfl (lv_room (Nat.le_of_ble_eq_true rfl)) d_B_keep_56 ⟨Nat.le_of_ble_eq_true rfl, Nat.le_of_ble_eq_true rfl⟩) (fun r56 F56 H locs q56 hw => ?_)
          obtain ⟨er56, eF56⟩ := q56
          rw [eF56] at hw
          clear eF56
          subst er56
          refine wz_if_ne (tgt := 66) hx hb d_B_keep_59 (by decide) (by split <;> omega) (by split <;> omega) (fun c59 => ?_) (fun c59 => ?_)
          · have hz := ite_nz.mp c59
            refine wz_iconst (n := 0) hx hb d_B_keep_66 ?_
            refine pw_put (ci := 1) (C := R_F) (T := T_F) (N := 3) (ty := .boolean) (fs' := [.ref (ad (x + 1)), .ref (ad (x + 3)), .int (iI (0))]) hx hb hq i_F ft_F ft_F_ok n_F hown hw (by omega) hFx_at_41 rfl 2 (by decide) (hq _ fl_B_76) (fun _ h9 => h9) rfl (by decide +kernel) rfl rfl (Nat.le_of_ble_eq_true rfl) rfl d_B_keep_67 (fun F67 H locs eF67 hw => ?_)
            have m67_x : F67 (x) = .inr (1, [.ref (ad (x + 1)), .ref (ad (x + 3)), .int (iI (0))]) := by rw [eF67]; exact va_up_self ..
            have hB_at_67 : F67 (82) = .inr (4, [.ref (ad (83)), .ref (ad (85)), .ref (ad (87)), .ref (ad (89)), .ref (ad (91)), .ref (ad (93)), .int (iI ((bb : Int)))]) := (show F67 (82) = F41 (82) from by rw [eF67]; exact va_up_ne _ _ (by omega)).trans hB_at_41
            have w83_at_67 : Wv ty ad F67 (83) 136 (tq) := Wv.mv w83_at_41 (show F67 (83) = F41 (83) from by rw [eF67]; exact va_up_ne _ _ (by omega)) (show F67 (83 + 1) = F41 (83 + 1) from by rw [eF67]; exact va_up_ne _ _ (by omega))
            have w85_at_67 : Wv ty ad F67 (85) 136 (bq) := Wv.mv w85_at_41 (show F67 (85) = F41 (85) from by rw [eF67]; exact va_up_ne _ _ (by omega)) (show F67 (85 + 1) = F41 (85 + 1) from by rw [eF67]; exact va_up_ne _ _ (by omega))
            have w87_at_67 : Wa ty ad F67 (87) 136 := Wa.mv w87_at_41 (show F67 (87) = F41 (87) from by rw [eF67]; exact va_up_ne _ _ (by omega)) (show F67 (87 + 1) = F41 (87 + 1) from by rw [eF67]; exact va_up_ne _ _ (by omega))
            have w89_at_67 : Wa ty ad F67 (89) 136 := Wa.mv w89_at_41 (show F67 (89) = F41 (89) from by rw [eF67]; exact va_up_ne _ _ (by omega)) (show F67 (89 + 1) = F41 (89 + 1) from by rw [eF67]; exact va_up_ne _ _ (by omega))
            have w91_at_67 : Wa ty ad F67 (91) 136 := Wa.mv w91_at_41 (show F67 (91) = F41 (91) from by rw [eF67]; exact va_up_ne _ _ (by omega)) (show F67 (91 + 1) = F41 (91 + 1) from by rw [eF67]; exact va_up_ne _ _ (by omega))
            have hD_at_67 : F67 (93) = .inr (3, [.ref (ad (93 + 1)), .long (f0), .long (g0), .long (h0), .long (k0)]) := (show F67 (93) = F41 (93) from by rw [eF67]; exact va_up_ne _ _ (by omega)).trans hD_at_41
            have w94_at_67 : Wa ty ad F67 (93 + 1) 136 := Wa.mv w94_at_41 (show F67 (93 + 1) = F41 (93 + 1) from by rw [eF67]; exact va_up_ne _ _ (by omega)) (show F67 (93 + 1 + 1) = F41 (93 + 1 + 1) from by rw [eF67]; exact va_up_ne _ _ (by omega))
            have wx1_at_67 : Wv ty ad F67 (x + 1) 67 (tq) := Wv.mv wx1_at_41 (show F67 (x + 1) = F41 (x + 1) from by rw [eF67]; exact va_up_ne _ _ (by omega)) (show F67 (x + 1 + 1) = F41 (x + 1 + 1) from by rw [eF67]; exact va_up_ne _ _ (by omega))
            have wx3_at_67 : Wv ty ad F67 (x + 3) 67 (bq) := Wv.mv wx3 (show F67 (x + 3) = F41 (x + 3) from by rw [eF67]; exact va_up_ne _ _ (by omega)) (show F67 (x + 3 + 1) = F41 (x + 3 + 1) from by rw [eF67]; exact va_up_ne _ _ (by omega))
            refine wz_iconst (n := 0) hx hb d_B_keep_70 ?_
            rw [← hQ]
            exact pw_iret hx hb hr hlocks hw (⟨fun _ => ⟨rfl, by rw [if_neg (fun h9 => h9.2 hz)]; exact ⟨by omega, m67_x, wx1_at_67, wx3_at_67⟩, fun y9 h9 => (show F67 (y9) = F41 (y9) from by rw [eF67]; exact va_up_ne _ _ (by omega)).trans ((hf41 (y9) (by omega) (by omega)).trans (hf30 (y9) (by omega) (by omega)))⟩, fun h9 => absurd ⟨hs1, hs2⟩ h9⟩) d_B_keep_71
          · have hz := ite_z.mp c59
            refine wz_iconst (n := 1) hx hb d_B_keep_62 ?_
            refine lv_goto (tgt := 67) hx hb d_B_keep_63 (by decide) ?_
            refine pw_put (ci := 1) (C := R_F) (T := T_F) (N := 3) (ty := .boolean) (fs' := [.ref (ad (x + 1)), .ref (ad (x + 3)), .int (iI (1))]) hx hb hq i_F ft_F ft_F_ok n_F hown hw (by omega) hFx_at_41 rfl 2 (by decide) (hq _ fl_B_76) (fun _ h9 => h9) rfl (by decide +kernel) rfl rfl (Nat.le_of_ble_eq_true rfl) rfl d_B_keep_67 (fun F67 H locs eF67 hw => ?_)
            have m67_x : F67 (x) = .inr (1, [.ref (ad (x + 1)), .ref (ad (x + 3)), .int (iI (1))]) := by rw [eF67]; exact va_up_self ..
            have hB_at_67 : F67 (82) = .inr (4, [.ref (ad (83)), .ref (ad (85)), .ref (ad (87)), .ref (ad (89)), .ref (ad (91)), .ref (ad (93)), .int (iI ((bb : Int)))]) := (show F67 (82) = F41 (82) from by rw [eF67]; exact va_up_ne _ _ (by omega)).trans hB_at_41
            have w83_at_67 : Wv ty ad F67 (83) 136 (tq) := Wv.mv w83_at_41 (show F67 (83) = F41 (83) from by rw [eF67]; exact va_up_ne _ _ (by omega)) (show F67 (83 + 1) = F41 (83 + 1) from by rw [eF67]; exact va_up_ne _ _ (by omega))
            have w85_at_67 : Wv ty ad F67 (85) 136 (bq) := Wv.mv w85_at_41 (show F67 (85) = F41 (85) from by rw [eF67]; exact va_up_ne _ _ (by omega)) (show F67 (85 + 1) = F41 (85 + 1) from by rw [eF67]; exact va_up_ne _ _ (by omega))
            have w87_at_67 : Wa ty ad F67 (87) 136 := Wa.mv w87_at_41 (show F67 (87) = F41 (87) from by rw [eF67]; exact va_up_ne _ _ (by omega)) (show F67 (87 + 1) = F41 (87 + 1) from by rw [eF67]; exact va_up_ne _ _ (by omega))
            have w89_at_67 : Wa ty ad F67 (89) 136 := Wa.mv w89_at_41 (show F67 (89) = F41 (89) from by rw [eF67]; exact va_up_ne _ _ (by omega)) (show F67 (89 + 1) = F41 (89 + 1) from by rw [eF67]; exact va_up_ne _ _ (by omega))
            have w91_at_67 : Wa ty ad F67 (91) 136 := Wa.mv w91_at_41 (show F67 (91) = F41 (91) from by rw [eF67]; exact va_up_ne _ _ (by omega)) (show F67 (91 + 1) = F41 (91 + 1) from by rw [eF67]; exact va_up_ne _ _ (by omega))
            have hD_at_67 : F67 (93) = .inr (3, [.ref (ad (93 + 1)), .long (f0), .long (g0), .long (h0), .long (k0)]) := (show F67 (93) = F41 (93) from by rw [eF67]; exact va_up_ne _ _ (by omega)).trans hD_at_41
            have w94_at_67 : Wa ty ad F67 (93 + 1) 136 := Wa.mv w94_at_41 (show F67 (93 + 1) = F41 (93 + 1) from by rw [eF67]; exact va_up_ne _ _ (by omega)) (show F67 (93 + 1 + 1) = F41 (93 + 1 + 1) from by rw [eF67]; exact va_up_ne _ _ (by omega))
            have wx1_at_67 : Wv ty ad F67 (x + 1) 67 (tq) := Wv.mv wx1_at_41 (show F67 (x + 1) = F41 (x + 1) from by rw [eF67]; exact va_up_ne _ _ (by omega)) (show F67 (x + 1 + 1) = F41 (x + 1 + 1) from by rw [eF67]; exact va_up_ne _ _ (by omega))
            have wx3_at_67 : Wv ty ad F67 (x + 3) 67 (bq) := Wv.mv wx3 (show F67 (x + 3) = F41 (x + 3) from by rw [eF67]; exact va_up_ne _ _ (by omega)) (show F67 (x + 3 + 1) = F41 (x + 3 + 1) from by rw [eF67]; exact va_up_ne _ _ (by omega))
            refine wz_iconst (n := 0) hx hb d_B_keep_70 ?_
            rw [← hQ]
            exact pw_iret hx hb hr hlocks hw (⟨fun _ => ⟨rfl, by rw [if_pos ⟨by omega, hz⟩]; exact ⟨by omega, m67_x, wx1_at_67, wx3_at_67⟩, fun y9 h9 => (show F67 (y9) = F41 (y9) from by rw [eF67]; exact va_up_ne _ _ (by omega)).trans ((hf41 (y9) (by omega) (by omega)).trans (hf30 (y9) (by omega) (by omega)))⟩, fun h9 => absurd ⟨hs1, hs2⟩ h9⟩) d_B_keep_71
      · have hs2 : ¬ sm bq := (ite_z (P := bq < 2 ^ 2048)).mp c17
        refine wz_iconst (n := -1) hx hb d_B_keep_20 ?_
        rw [← hQ]
        exact pw_iret hx hb hr hlocks hw (⟨fun h9 => absurd h9.2 hs2, fun _ => ⟨rfl, rfl⟩⟩) d_B_keep_21
  rw [hH, hlo] at hgo
  exact hgo
set_option maxHeartbeats 4000000 in
set_option maxRecDepth 100000 in
/-- Bench.keepReduced(target) -/
theorem c_B_keepReduced (l : Launch) (D : va_G) (ty : Nat → ClassId) (ad : Nat → Nat) (M : Nat) (F : Nat → va_E) (sz : Nat) (hM : 97 < M) (tq bq bb : Nat) (hBn : BnT ty ad F tq bq bb) (hmt : md tq) (hmb : md bq) (x t0 b0 s0 : Nat) (hMx : x + 4 < M) (hRx : Frc ty ad F x t0 b0 s0) (hx82 : x + 4 < 82)  :
    CI l y_B_keepReduced w_B_keepReduced ({ frames := 5, cells := 0, slots := 0, locals := 135 } : Room) [.ref (ad (82)), .ref (ad (x))] D ty ad M F sz (fun r F1 => ((sm (tq / Nat.gcd tq bq) ∧ sm (bq / Nat.gcd tq bq) → r = iI 0 ∧ Frc ty ad F1 x (tq / Nat.gcd tq bq) (bq / Nat.gcd tq bq) (if bb = 1 ∧ (tq / Nat.gcd tq bq) ≠ 0 then 1 else 0) ∧ ∀ y, y < x ∨ x + 4 < y → y < 82 ∨ 95 < y → F1 y = F y) ∧ (¬ (sm (tq / Nat.gcd tq bq) ∧ sm (bq / Nat.gcd tq bq)) → r = iI (-1) ∧ frB F F1)) ∧ Bn ty ad F1) := by
  refine Met.ofW (cc := b_B_keepReduced) (maxL := 3) (ret := (some .int)) (by decide) rfl ?_
  intro p e s m args below meth c s₁ B hml hv
  obtain ⟨rfl, hsz, hP, hK, hD0⟩ := hv
  have hx := B.exec
  have hb := B.bytes
  have hr := B.returns
  have hts := atoms_spec (ws := w_B_keepReduced) B.pre
  have hq : ∀ w ∈ wT, w.before _ s = true := fun w h => hts w (List.mem_cons_of_mem _ h)
  have hown : s.vm.findClass R_B = some m.cls := findClass_of_methodNamed B.named
  have hlocks := B.notSynchronized
  subst hsz
  have hw := pw_start hP hK hD0
  have hl := lv_entry ([.ref (ad (82)), .ref (ad (x))]) (n := 3) (Nat.le_of_ble_eq_true rfl)
  rw [lg_entry_eq]
  generalize (lg_sl ([.ref (ad (82)), .ref (ad (x))]) ++ List.replicate (3 - (lg_sl ([.ref (ad (82)), .ref (ad (x))])).length) Slot.unset).toArray = ls at hl ⊢
  have hl : lv_has ls 3 [(0, .ref (ad (82))), (1, .ref (ad (x)))] := hl
  change W p l e ({ frames := 5, cells := 0, slots := 0, locals := 135 } : Room) s m ([.ref (ad (82)), .ref (ad (x))]).toArray below meth c s.heap [] 0 0 (MQ below (va_Qi (fun r F1 => ((sm (tq / Nat.gcd tq bq) ∧ sm (bq / Nat.gcd tq bq) → r = iI 0 ∧ Frc ty ad F1 x (tq / Nat.gcd tq bq) (bq / Nat.gcd tq bq) (if bb = 1 ∧ (tq / Nat.gcd tq bq) ≠ 0 then 1 else 0) ∧ ∀ y, y < x ∨ x + 4 < y → y < 82 ∨ 95 < y → F1 y = F y) ∧ (¬ (sm (tq / Nat.gcd tq bq) ∧ sm (bq / Nat.gcd tq bq)) → r = iI (-1) ∧ frB F F1)) ∧ Bn ty ad F1) (pAt D classes (tysL ty) ad M (pA ad M s.heap.size)) (pA ad M s.heap.size)) ([.ref (ad (82)), .ref (ad (x))]).toArray s 0 0 (pA ad M s.heap.size)) (F0 m 0 ls [])
  generalize hQ : MQ below (va_Qi (fun r F1 => ((sm (tq / Nat.gcd tq bq) ∧ sm (bq / Nat.gcd tq bq) → r = iI 0 ∧ Frc ty ad F1 x (tq / Nat.gcd tq bq) (bq / Nat.gcd tq bq) (if bb = 1 ∧ (tq / Nat.gcd tq bq) ≠ 0 then 1 else 0) ∧ ∀ y, y < x ∨ x + 4 < y → y < 82 ∨ 95 < y → F1 y = F y) ∧ (¬ (sm (tq / Nat.gcd tq bq) ∧ sm (bq / Nat.gcd tq bq)) → r = iI (-1) ∧ frB F F1)) ∧ Bn ty ad F1) (pAt D classes (tysL ty) ad M (pA ad M s.heap.size)) (pA ad M s.heap.size)) ([.ref (ad (82)), .ref (ad (x))]).toArray s 0 0 (pA ad M s.heap.size) = Q
  obtain ⟨H, hH⟩ : ∃ H, H = s.heap := ⟨_, rfl⟩
  obtain ⟨locs, hlo⟩ : ∃ z : List Loc, z = [] := ⟨_, rfl⟩
  have hw : pw D classes (tysL ty) ad M F (pA ad M s.heap.size) s H locs := by rw [hH, hlo]; exact hw
  have hgo : W p l e ({ frames := 5, cells := 0, slots := 0, locals := 135 } : Room) s m ([.ref (ad (82)), .ref (ad (x))]).toArray below meth c H locs 0 0 Q (F0 m 0 ls []) := by
    obtain ⟨hbb, hB, w83, w85, w87, w89, w91, ⟨f0, g0, h0, k0, hD⟩, w94⟩ := hBn
    obtain ⟨hbx, hFx, wx1, wx3⟩ := hRx
    refine lv_aload_n hx hb d_B_keepReduced_0 rfl (lv_at hl 0 rfl) ?_
    refine pw_get (ci := 4) (C := R_B) (T := T_B) (N := 7) hx hb hq i_B hown hw (by omega) hB rfl 1 (by decide) (hq _ fl_B_20) (fun _ h9 => h9) rfl d_B_keepReduced_1 ?_
    refine pw_calli hw (va_runV (As := []) (rest := []) ⟨hx, hb, hml, hown, hq⟩ (c_W_isOne l D ty ad M F H.size (85) 136 (bq) (by omega) (by omega) w85) (cwV 0 hq (gV ml_B_43 im_W_isOne se_W_isOne in_W m_W_isOne) rfl rfl rfl (by decide +kernel) ⟨Nat.le_of_ble_eq_true rfl, Nat.le_of_ble_eq_true rfl⟩) (pw_preWa hw (by omega) ((w85).a)) rfl rfl hl.1 rfl (lv_room (Nat.le_of_ble_eq_true rfl)) d_B_keepReduced_4 ⟨Nat.le_of_ble_eq_true rfl, Nat.le_of_ble_eq_true rfl⟩) (fun r4 F4 H locs q4 hw => ?_)
    obtain ⟨er4, eF4⟩ := q4
    rw [eF4] at hw
    clear eF4
    subst er4
    refine wz_if_ne (tgt := 66) hx hb d_B_keepReduced_7 (by decide) (by split <;> omega) (by split <;> omega) (fun c7 => ?_) (fun c7 => ?_)
    · have hz := ite_nz.mp c7
      refine lv_aload_n hx hb d_B_keepReduced_66 rfl (lv_at hl 0 rfl) ?_
      refine lv_aload_n hx hb d_B_keepReduced_67 rfl (lv_at hl 1 rfl) ?_
      refine pw_calli hw (va_runV (As := [.ref (ad (x))]) (rest := []) ⟨hx, hb, hml, hown, hq⟩ (c_B_keep l D ty ad M F H.size hM (tq) (bq) bb ⟨hbb, hB, w83, w85, w87, w89, w91, ⟨_, _, _, _, hD⟩, w94⟩ x t0 b0 s0 hMx ⟨hbx, hFx, wx1, wx3⟩ hx82) (cwV 1 hq (gV ml_B_59 im_B_keep se_B_keep in_B m_B_keep) rfl rfl rfl (by decide +kernel) ⟨Nat.le_of_ble_eq_true rfl, Nat.le_of_ble_eq_true rfl⟩) (pw_preV hw (by omega) hB rfl) rfl rfl hl.1 rfl (lv_room (Nat.le_of_ble_eq_true rfl)) d_B_keepReduced_68 ⟨Nat.le_of_ble_eq_true rfl, Nat.le_of_ble_eq_true rfl⟩) (fun r68 F68 H locs q68 hw => ?_)
      obtain ⟨hk1, hk2⟩ := q68
      have hBn9 : Bn ty ad F := ⟨⟨bb, hbb, hB⟩, (w83).a, (w85).a, w87, w89, w91, ⟨_, _, _, _, hD⟩, w94⟩
      rw [← hQ]
      exact pw_iret hx hb hr hlocks hw (by
        have h7 := kr_fin hx82 hk1 hk2 hBn9 (fun y9 h9 => rfl)
        rw [show Nat.gcd tq bq = 1 by rw [hz]; exact Nat.gcd_one_right _, Nat.div_one, Nat.div_one]
        exact h7) d_B_keepReduced_71
    · have hz := ite_z.mp c7
      refine lv_aload_n hx hb d_B_keepReduced_10 rfl (lv_at hl 0 rfl) ?_
      refine pw_get (ci := 4) (C := R_B) (T := T_B) (N := 7) hx hb hq i_B hown hw (by omega) hB rfl 2 (by decide) (hq _ fl_B_23) (fun _ h9 => h9) rfl d_B_keepReduced_11 ?_
      refine lv_aload_n hx hb d_B_keepReduced_14 rfl (lv_at hl 0 rfl) ?_
      refine pw_get (ci := 4) (C := R_B) (T := T_B) (N := 7) hx hb hq i_B hown hw (by omega) hB rfl 0 (by decide) (hq _ fl_B_16) (fun _ h9 => h9) rfl d_B_keepReduced_15 ?_
      refine pw_callv hw (va_runV (As := [.ref (ad (83))]) (rest := []) ⟨hx, hb, hml, hown, hq⟩ (c_W_become l D ty ad M F H.size (87) (83) 136 136 (tq) (by omega) (by omega) (by omega) (by omega) (by omega) (hmt.f136) w87 w83) (cwV 1 hq (gV ml_B_47 im_W_become se_W_become in_W m_W_become) rfl rfl rfl (by decide +kernel) ⟨Nat.le_of_ble_eq_true rfl, Nat.le_of_ble_eq_true rfl⟩) (pw_preWa hw (by omega) w87) rfl rfl hl.1 rfl (lv_room (Nat.le_of_ble_eq_true rfl)) d_B_keepReduced_18 ⟨Nat.le_of_ble_eq_true rfl, Nat.le_of_ble_eq_true rfl⟩) (fun F18 H locs q18 hw => ?_)
      obtain ⟨w87, hf18⟩ := q18
      have hB_at_18 : F18 (82) = .inr (4, [.ref (ad (83)), .ref (ad (85)), .ref (ad (87)), .ref (ad (89)), .ref (ad (91)), .ref (ad (93)), .int (iI ((bb : Int)))]) := (hf18 (82) (by omega) (by omega)).trans hB
      have w83_at_18 : Wv ty ad F18 (83) 136 (tq) := Wv.mv w83 (hf18 (83) (by omega) (by omega)) (hf18 (83 + 1) (by omega) (by omega))
      have w85_at_18 : Wv ty ad F18 (85) 136 (bq) := Wv.mv w85 (hf18 (85) (by omega) (by omega)) (hf18 (85 + 1) (by omega) (by omega))
      have w89_at_18 : Wa ty ad F18 (89) 136 := Wa.mv w89 (hf18 (89) (by omega) (by omega)) (hf18 (89 + 1) (by omega) (by omega))
      have w91_at_18 : Wa ty ad F18 (91) 136 := Wa.mv w91 (hf18 (91) (by omega) (by omega)) (hf18 (91 + 1) (by omega) (by omega))
      have hD_at_18 : F18 (93) = .inr (3, [.ref (ad (93 + 1)), .long (f0), .long (g0), .long (h0), .long (k0)]) := (hf18 (93) (by omega) (by omega)).trans hD
      have w94_at_18 : Wa ty ad F18 (93 + 1) 136 := Wa.mv w94 (hf18 (93 + 1) (by omega) (by omega)) (hf18 (93 + 1 + 1) (by omega) (by omega))
      have hFx_at_18 : F18 (x) = .inr (1, [.ref (ad (x + 1)), .ref (ad (x + 3)), .int (iI ((s0 : Int)))]) := (hf18 (x) (by omega) (by omega)).trans hFx
      have wx1_at_18 : Wv ty ad F18 (x + 1) 67 (t0) := Wv.mv wx1 (hf18 (x + 1) (by omega) (by omega)) (hf18 (x + 1 + 1) (by omega) (by omega))
      have wx3_at_18 : Wv ty ad F18 (x + 3) 67 (b0) := Wv.mv wx3 (hf18 (x + 3) (by omega) (by omega)) (hf18 (x + 3 + 1) (by omega) (by omega))
      refine lv_aload_n hx hb d_B_keepReduced_21 rfl (lv_at hl 0 rfl) ?_
      refine pw_get (ci := 4) (C := R_B) (T := T_B) (N := 7) hx hb hq i_B hown hw (by omega) hB_at_18 rfl 3 (by decide) (hq _ fl_B_26) (fun _ h9 => h9) rfl d_B_keepReduced_22 ?_
      refine lv_aload_n hx hb d_B_keepReduced_25 rfl (lv_at hl 0 rfl) ?_
      refine pw_get (ci := 4) (C := R_B) (T := T_B) (N := 7) hx hb hq i_B hown hw (by omega) hB_at_18 rfl 1 (by decide) (hq _ fl_B_20) (fun _ h9 => h9) rfl d_B_keepReduced_26 ?_
      refine pw_callv hw (va_runV (As := [.ref (ad (85))]) (rest := []) ⟨hx, hb, hml, hown, hq⟩ (c_W_become l D ty ad M F18 H.size (89) (85) 136 136 (bq) (by omega) (by omega) (by omega) (by omega) (by omega) (hmb.f136) w89_at_18 w85_at_18) (cwV 1 hq (gV ml_B_47 im_W_become se_W_become in_W m_W_become) rfl rfl rfl (by decide +kernel) ⟨Nat.le_of_ble_eq_true rfl, Nat.le_of_ble_eq_true rfl⟩) (pw_preWa hw (by omega) w89_at_18) rfl rfl hl.1 rfl (lv_room (Nat.le_of_ble_eq_true rfl)) d_B_keepReduced_29 ⟨Nat.le_of_ble_eq_true rfl, Nat.le_of_ble_eq_true rfl⟩) (fun F29 H locs q29 hw => ?_)
      obtain ⟨w89, hf29⟩ := q29
      have hB_at_29 : F29 (82) = .inr (4, [.ref (ad (83)), .ref (ad (85)), .ref (ad (87)), .ref (ad (89)), .ref (ad (91)), .ref (ad (93)), .int (iI ((bb : Int)))]) := (hf29 (82) (by omega) (by omega)).trans hB_at_18
      have w83_at_29 : Wv ty ad F29 (83) 136 (tq) := Wv.mv w83_at_18 (hf29 (83) (by omega) (by omega)) (hf29 (83 + 1) (by omega) (by omega))
      have w85_at_29 : Wv ty ad F29 (85) 136 (bq) := Wv.mv w85_at_18 (hf29 (85) (by omega) (by omega)) (hf29 (85 + 1) (by omega) (by omega))
      have w91_at_29 : Wa ty ad F29 (91) 136 := Wa.mv w91_at_18 (hf29 (91) (by omega) (by omega)) (hf29 (91 + 1) (by omega) (by omega))
      have hD_at_29 : F29 (93) = .inr (3, [.ref (ad (93 + 1)), .long (f0), .long (g0), .long (h0), .long (k0)]) := (hf29 (93) (by omega) (by omega)).trans hD_at_18
      have w94_at_29 : Wa ty ad F29 (93 + 1) 136 := Wa.mv w94_at_18 (hf29 (93 + 1) (by omega) (by omega)) (hf29 (93 + 1 + 1) (by omega) (by omega))
      have hFx_at_29 : F29 (x) = .inr (1, [.ref (ad (x + 1)), .ref (ad (x + 3)), .int (iI ((s0 : Int)))]) := (hf29 (x) (by omega) (by omega)).trans hFx_at_18
      have wx1_at_29 : Wv ty ad F29 (x + 1) 67 (t0) := Wv.mv wx1_at_18 (hf29 (x + 1) (by omega) (by omega)) (hf29 (x + 1 + 1) (by omega) (by omega))
      have wx3_at_29 : Wv ty ad F29 (x + 3) 67 (b0) := Wv.mv wx3_at_18 (hf29 (x + 3) (by omega) (by omega)) (hf29 (x + 3 + 1) (by omega) (by omega))
      have w87_at_29 : Wv ty ad F29 (87) 136 (tq) := Wv.mv w87 (hf29 (87) (by omega) (by omega)) (hf29 (87 + 1) (by omega) (by omega))
      refine lv_aload_n hx hb d_B_keepReduced_32 rfl (lv_at hl 0 rfl) ?_
      refine pw_get (ci := 4) (C := R_B) (T := T_B) (N := 7) hx hb hq i_B hown hw (by omega) hB_at_29 rfl 5 (by decide) (hq _ fl_B_35) (fun _ h9 => h9) rfl d_B_keepReduced_33 ?_
      refine lv_aload_n hx hb d_B_keepReduced_36 rfl (lv_at hl 0 rfl) ?_
      refine pw_get (ci := 4) (C := R_B) (T := T_B) (N := 7) hx hb hq i_B hown hw (by omega) hB_at_29 rfl 2 (by decide) (hq _ fl_B_23) (fun _ h9 => h9) rfl d_B_keepReduced_37 ?_
      refine lv_aload_n hx hb d_B_keepReduced_40 rfl (lv_at hl 0 rfl) ?_
      refine pw_get (ci := 4) (C := R_B) (T := T_B) (N := 7) hx hb hq i_B hown hw (by omega) hB_at_29 rfl 3 (by decide) (hq _ fl_B_26) (fun _ h9 => h9) rfl d_B_keepReduced_41 ?_
      refine pw_callr hw (va_runV (As := [.ref (ad (87)), .ref (ad (89))]) (rest := []) ⟨hx, hb, hml, hown, hq⟩ (c_D_greatestCommon l D ty ad M F29 H.size 93 87 89 (tq) (bq) (by omega) (by omega) (by omega) (by omega) (by omega) (by omega) (hmt.f135) (hmb.f135) _ _ _ _ hD_at_29 w87_at_29 w89 w94_at_29) (cwV 2 hq (gV ml_B_51 im_D_greatestCommon se_D_greatestCommon in_D m_D_greatestCommon) rfl rfl rfl (by decide +kernel) ⟨Nat.le_of_ble_eq_true rfl, Nat.le_of_ble_eq_true rfl⟩) (pw_preV hw (by omega) hD_at_29 rfl) rfl rfl hl.1 rfl (lv_room (Nat.le_of_ble_eq_true rfl)) d_B_keepReduced_44 ⟨Nat.le_of_ble_eq_true rfl, Nat.le_of_ble_eq_true rfl⟩) (fun r44 F44 H locs q44 hw => ?_)
      dsimp only at q44
      obtain ⟨hid, wg, w87, w89, w94, ⟨f1, g1, h1, k1, hD44⟩, hf44⟩ := q44
      have hB_at_44 : F44 (82) = .inr (4, [.ref (ad (83)), .ref (ad (85)), .ref (ad (87)), .ref (ad (89)), .ref (ad (91)), .ref (ad (93)), .int (iI ((bb : Int)))]) := (hf44 (82) (by omega) (by omega) (by omega) (by omega) (by omega) (by omega) (by omega)).trans hB_at_29
      have w83_at_44 : Wv ty ad F44 (83) 136 (tq) := Wv.mv w83_at_29 (hf44 (83) (by omega) (by omega) (by omega) (by omega) (by omega) (by omega) (by omega)) (hf44 (83 + 1) (by omega) (by omega) (by omega) (by omega) (by omega) (by omega) (by omega))
      have w85_at_44 : Wv ty ad F44 (85) 136 (bq) := Wv.mv w85_at_29 (hf44 (85) (by omega) (by omega) (by omega) (by omega) (by omega) (by omega) (by omega)) (hf44 (85 + 1) (by omega) (by omega) (by omega) (by omega) (by omega) (by omega) (by omega))
      have w91_at_44 : Wa ty ad F44 (91) 136 := Wa.mv w91_at_29 (hf44 (91) (by omega) (by omega) (by omega) (by omega) (by omega) (by omega) (by omega)) (hf44 (91 + 1) (by omega) (by omega) (by omega) (by omega) (by omega) (by omega) (by omega))
      have hFx_at_44 : F44 (x) = .inr (1, [.ref (ad (x + 1)), .ref (ad (x + 3)), .int (iI ((s0 : Int)))]) := (hf44 (x) (by omega) (by omega) (by omega) (by omega) (by omega) (by omega) (by omega)).trans hFx_at_29
      have wx1_at_44 : Wv ty ad F44 (x + 1) 67 (t0) := Wv.mv wx1_at_29 (hf44 (x + 1) (by omega) (by omega) (by omega) (by omega) (by omega) (by omega) (by omega)) (hf44 (x + 1 + 1) (by omega) (by omega) (by omega) (by omega) (by omega) (by omega) (by omega))
      have wx3_at_44 : Wv ty ad F44 (x + 3) 67 (b0) := Wv.mv wx3_at_29 (hf44 (x + 3) (by omega) (by omega) (by omega) (by omega) (by omega) (by omega) (by omega)) (hf44 (x + 3 + 1) (by omega) (by omega) (by omega) (by omega) (by omega) (by omega) (by omega))
      refine lv_astore_n (lv' := [(2, .ref (ad (r44))), (0, .ref (ad (82))), (1, .ref (ad (x)))]) hx hb d_B_keepReduced_47 rfl hl (by decide) rfl (fun ls hl => ?_)
      refine lv_aload_n hx hb d_B_keepReduced_48 rfl (lv_at hl 1 rfl) ?_
      refine lv_aload_n hx hb d_B_keepReduced_49 rfl (lv_at hl 1 rfl) ?_
      refine pw_get (ci := 4) (C := R_B) (T := T_B) (N := 7) hx hb hq i_B hown hw (by omega) hB_at_44 rfl 0 (by decide) (hq _ fl_B_16) (fun _ h9 => h9) rfl d_B_keepReduced_50 ?_
      refine lv_aload_n hx hb d_B_keepReduced_53 rfl (lv_at hl 0 rfl) ?_
      refine pw_callv hw (va_runV (As := [.ref (ad (83)), .ref (ad (r44))]) (rest := []) ⟨hx, hb, hml, hown, hq⟩ (c_B_divideOut l D ty ad M F44 H.size hM bb 83 (r44) (tq) (Nat.gcd tq bq) (by omega) (by omega) hmt hB_at_44 w83_at_44 wg w91_at_44) (cwV 2 hq (gV ml_B_55 im_B_divideOut se_B_divideOut in_B m_B_divideOut) rfl rfl rfl (by decide +kernel) ⟨Nat.le_of_ble_eq_true rfl, Nat.le_of_ble_eq_true rfl⟩) (pw_preV hw (by omega) hB_at_44 rfl) rfl rfl hl.1 rfl (lv_room (Nat.le_of_ble_eq_true rfl)) d_B_keepReduced_54 ⟨Nat.le_of_ble_eq_true rfl, Nat.le_of_ble_eq_true rfl⟩) (fun F54 H locs q54 hw => ?_)
      obtain ⟨w83, w91, hf54⟩ := q54
      have hB_at_54 : F54 (82) = .inr (4, [.ref (ad (83)), .ref (ad (85)), .ref (ad (87)), .ref (ad (89)), .ref (ad (91)), .ref (ad (93)), .int (iI ((bb : Int)))]) := (hf54 (82) (by omega) (by omega) (by omega) (by omega)).trans hB_at_44
      have w85_at_54 : Wv ty ad F54 (85) 136 (bq) := Wv.mv w85_at_44 (hf54 (85) (by omega) (by omega) (by omega) (by omega)) (hf54 (85 + 1) (by omega) (by omega) (by omega) (by omega))
      have hFx_at_54 : F54 (x) = .inr (1, [.ref (ad (x + 1)), .ref (ad (x + 3)), .int (iI ((s0 : Int)))]) := (hf54 (x) (by omega) (by omega) (by omega) (by omega)).trans hFx_at_44
      have wx1_at_54 : Wv ty ad F54 (x + 1) 67 (t0) := Wv.mv wx1_at_44 (hf54 (x + 1) (by omega) (by omega) (by omega) (by omega)) (hf54 (x + 1 + 1) (by omega) (by omega) (by omega) (by omega))
      have wx3_at_54 : Wv ty ad F54 (x + 3) 67 (b0) := Wv.mv wx3_at_44 (hf54 (x + 3) (by omega) (by omega) (by omega) (by omega)) (hf54 (x + 3 + 1) (by omega) (by omega) (by omega) (by omega))
      have wg_at_54 : Wv ty ad F54 (r44) 136 (Nat.gcd tq bq) := Wv.mv wg (hf54 (r44) (by omega) (by omega) (by omega) (by omega)) (hf54 (r44 + 1) (by omega) (by omega) (by omega) (by omega))
      have w87_at_54 : Wa ty ad F54 (87) 136 := Wa.mv w87 (hf54 (87) (by omega) (by omega) (by omega) (by omega)) (hf54 (87 + 1) (by omega) (by omega) (by omega) (by omega))
      have w89_at_54 : Wa ty ad F54 (89) 136 := Wa.mv w89 (hf54 (89) (by omega) (by omega) (by omega) (by omega)) (hf54 (89 + 1) (by omega) (by omega) (by omega) (by omega))
      have w94_at_54 : Wa ty ad F54 (93 + 1) 136 := Wa.mv w94 (hf54 (93 + 1) (by omega) (by omega) (by omega) (by omega)) (hf54 (93 + 1 + 1) (by omega) (by omega) (by omega) (by omega))
      have hD44_at_54 : F54 (93) = .inr (3, [.ref (ad (93 + 1)), .long (f1), .long (g1), .long (h1), .long (k1)]) := (hf54 (93) (by omega) (by omega) (by omega) (by omega)).trans hD44
      refine lv_aload_n hx hb d_B_keepReduced_57 rfl (lv_at hl 1 rfl) ?_
      refine lv_aload_n hx hb d_B_keepReduced_58 rfl (lv_at hl 1 rfl) ?_
      refine pw_get (ci := 4) (C := R_B) (T := T_B) (N := 7) hx hb hq i_B hown hw (by omega) hB_at_54 rfl 1 (by decide) (hq _ fl_B_20) (fun _ h9 => h9) rfl d_B_keepReduced_59 ?_
      refine lv_aload_n hx hb d_B_keepReduced_62 rfl (lv_at hl 0 rfl) ?_
      refine pw_callv hw (va_runV (As := [.ref (ad (85)), .ref (ad (r44))]) (rest := []) ⟨hx, hb, hml, hown, hq⟩ (c_B_divideOut l D ty ad M F54 H.size hM bb 85 (r44) (bq) (Nat.gcd tq bq) (by omega) (by omega) hmb hB_at_54 w85_at_54 wg_at_54 w91) (cwV 2 hq (gV ml_B_55 im_B_divideOut se_B_divideOut in_B m_B_divideOut) rfl rfl rfl (by decide +kernel) ⟨Nat.le_of_ble_eq_true rfl, Nat.le_of_ble_eq_true rfl⟩) (pw_preV hw (by omega) hB_at_54 rfl) rfl rfl hl.1 rfl (lv_room (Nat.le_of_ble_eq_true rfl)) d_B_keepReduced_63 ⟨Nat.le_of_ble_eq_true rfl, Nat.le_of_ble_eq_true rfl⟩) (fun F63 H locs q63 hw => ?_)
      obtain ⟨w85, w91, hf63⟩ := q63
      have hB_at_63 : F63 (82) = .inr (4, [.ref (ad (83)), .ref (ad (85)), .ref (ad (87)), .ref (ad (89)), .ref (ad (91)), .ref (ad (93)), .int (iI ((bb : Int)))]) := (hf63 (82) (by omega) (by omega) (by omega) (by omega)).trans hB_at_54
      have hFx_at_63 : F63 (x) = .inr (1, [.ref (ad (x + 1)), .ref (ad (x + 3)), .int (iI ((s0 : Int)))]) := (hf63 (x) (by omega) (by omega) (by omega) (by omega)).trans hFx_at_54
      have wx1_at_63 : Wv ty ad F63 (x + 1) 67 (t0) := Wv.mv wx1_at_54 (hf63 (x + 1) (by omega) (by omega) (by omega) (by omega)) (hf63 (x + 1 + 1) (by omega) (by omega) (by omega) (by omega))
      have wx3_at_63 : Wv ty ad F63 (x + 3) 67 (b0) := Wv.mv wx3_at_54 (hf63 (x + 3) (by omega) (by omega) (by omega) (by omega)) (hf63 (x + 3 + 1) (by omega) (by omega) (by omega) (by omega))
      have wg_at_63 : Wv ty ad F63 (r44) 136 (Nat.gcd tq bq) := Wv.mv wg_at_54 (hf63 (r44) (by omega) (by omega) (by omega) (by omega)) (hf63 (r44 + 1) (by omega) (by omega) (by omega) (by omega))
      have w87_at_63 : Wa ty ad F63 (87) 136 := Wa.mv w87_at_54 (hf63 (87) (by omega) (by omega) (by omega) (by omega)) (hf63 (87 + 1) (by omega) (by omega) (by omega) (by omega))
      have w89_at_63 : Wa ty ad F63 (89) 136 := Wa.mv w89_at_54 (hf63 (89) (by omega) (by omega) (by omega) (by omega)) (hf63 (89 + 1) (by omega) (by omega) (by omega) (by omega))
      have w94_at_63 : Wa ty ad F63 (93 + 1) 136 := Wa.mv w94_at_54 (hf63 (93 + 1) (by omega) (by omega) (by omega) (by omega)) (hf63 (93 + 1 + 1) (by omega) (by omega) (by omega) (by omega))
      have hD44_at_63 : F63 (93) = .inr (3, [.ref (ad (93 + 1)), .long (f1), .long (g1), .long (h1), .long (k1)]) := (hf63 (93) (by omega) (by omega) (by omega) (by omega)).trans hD44_at_54
      have w83_at_63 : Wv ty ad F63 (83) 136 (tq / Nat.gcd tq bq) := Wv.mv w83 (hf63 (83) (by omega) (by omega) (by omega) (by omega)) (hf63 (83 + 1) (by omega) (by omega) (by omega) (by omega))
      refine lv_aload_n hx hb d_B_keepReduced_66 rfl (lv_at hl 1 rfl) ?_
      refine lv_aload_n hx hb d_B_keepReduced_67 rfl (lv_at hl 2 rfl) ?_
      refine pw_calli hw (va_runV (As := [.ref (ad (x))]) (rest := []) ⟨hx, hb, hml, hown, hq⟩ (c_B_keep l D ty ad M F63 H.size hM (tq / Nat.gcd tq bq) (bq / Nat.gcd tq bq) bb ⟨hbb, hB_at_63, w83_at_63, w85, w87_at_63, w89_at_63, w91, ⟨_, _, _, _, hD44_at_63⟩, w94_at_63⟩ x t0 b0 s0 hMx ⟨hbx, hFx_at_63, wx1_at_63, wx3_at_63⟩ hx82) (cwV 1 hq (gV ml_B_59 im_B_keep se_B_keep in_B m_B_keep) rfl rfl rfl (by decide +kernel) ⟨Nat.le_of_ble_eq_true rfl, Nat.le_of_ble_eq_true rfl⟩) (pw_preV hw (by omega) hB_at_63 rfl) rfl rfl hl.1 rfl (lv_room (Nat.le_of_ble_eq_true rfl)) d_B_keepReduced_68 ⟨Nat.le_of_ble_eq_true rfl, Nat.le_of_ble_eq_true rfl⟩) (fun r68 F68 H locs q68 hw => ?_)
      obtain ⟨hk1, hk2⟩ := q68
      have hBn9 : Bn ty ad F63 := ⟨⟨bb, hbb, hB_at_63⟩, (w83_at_63).a, (w85).a, w87_at_63, w89_at_63, w91, ⟨_, _, _, _, hD44_at_63⟩, w94_at_63⟩
      rw [← hQ]
      exact pw_iret hx hb hr hlocks hw (kr_fin hx82 hk1 hk2 hBn9 (fun y9 h9 => (hf63 (y9) (by omega) (by omega) (by omega) (by omega)).trans ((hf54 (y9) (by omega) (by omega) (by omega) (by omega)).trans ((hf44 (y9) (by omega) (by omega) (by omega) (by omega) (by omega) (by omega) (by omega)).trans ((hf29 (y9) (by omega) (by omega)).trans (hf18 (y9) (by omega) (by omega))))))) d_B_keepReduced_71
  rw [hH, hlo] at hgo
  exact hgo
set_option maxHeartbeats 4000000 in
set_option maxRecDepth 100000 in
/-- Bench.takeNumbers(number, by) -/
theorem c_B_takeNumbers (l : Launch) (D : va_G) (ty : Nat → ClassId) (ad : Nat → Nat) (M : Nat) (F : Nat → va_E) (sz : Nat) (hM : 97 < M) (hBn : Bn ty ad F) (n0 d0 : Int) (hn0 : -9223372036854775808 ≤ n0 ∧ n0 < 9223372036854775808) (hd0 : -9223372036854775808 ≤ d0 ∧ d0 < 9223372036854775808) :
    CV l y_B_takeNumbers w_B_takeNumbers ({ frames := 3, cells := 0, slots := 0, locals := 68 } : Room) [.ref (ad (82)), .long (iL (n0)), .long (iL (d0))] D ty ad M F sz (fun F1 => BnT ty ad F1 n0.natAbs d0.natAbs (if (n0 < 0 ↔ d0 < 0) then 0 else 1) ∧ frB F F1) := by
  refine Met.ofW (cc := b_B_takeNumbers) (maxL := 5) (ret := none) (by decide) rfl ?_
  intro p e s m args below meth c s₁ B hml hv
  obtain ⟨rfl, hsz, hP, hK, hD0⟩ := hv
  have hx := B.exec
  have hb := B.bytes
  have hr := B.returns
  have hts := atoms_spec (ws := w_B_takeNumbers) B.pre
  have hq : ∀ w ∈ wT, w.before _ s = true := fun w h => hts w (List.mem_cons_of_mem _ h)
  have hown : s.vm.findClass R_B = some m.cls := findClass_of_methodNamed B.named
  have hlocks := B.notSynchronized
  subst hsz
  have hw := pw_start hP hK hD0
  have hl := lv_entry ([.ref (ad (82)), .long (iL (n0)), .long (iL (d0))]) (n := 5) (Nat.le_of_ble_eq_true rfl)
  rw [lg_entry_eq]
  generalize (lg_sl ([.ref (ad (82)), .long (iL (n0)), .long (iL (d0))]) ++ List.replicate (5 - (lg_sl ([.ref (ad (82)), .long (iL (n0)), .long (iL (d0))])).length) Slot.unset).toArray = ls at hl ⊢
  have hl : lv_has ls 5 [(0, .ref (ad (82))), (1, .long (iL (n0))), (3, .long (iL (d0)))] := hl
  change W p l e ({ frames := 3, cells := 0, slots := 0, locals := 68 } : Room) s m ([.ref (ad (82)), .long (iL (n0)), .long (iL (d0))]).toArray below meth c s.heap [] 0 0 (MQ below (va_Qv (fun F1 => BnT ty ad F1 n0.natAbs d0.natAbs (if (n0 < 0 ↔ d0 < 0) then 0 else 1) ∧ frB F F1) (pAt D classes (tysL ty) ad M (pA ad M s.heap.size)) (pA ad M s.heap.size)) ([.ref (ad (82)), .long (iL (n0)), .long (iL (d0))]).toArray s 0 0 (pA ad M s.heap.size)) (F0 m 0 ls [])
  generalize hQ : MQ below (va_Qv (fun F1 => BnT ty ad F1 n0.natAbs d0.natAbs (if (n0 < 0 ↔ d0 < 0) then 0 else 1) ∧ frB F F1) (pAt D classes (tysL ty) ad M (pA ad M s.heap.size)) (pA ad M s.heap.size)) ([.ref (ad (82)), .long (iL (n0)), .long (iL (d0))]).toArray s 0 0 (pA ad M s.heap.size) = Q
  obtain ⟨H, hH⟩ : ∃ H, H = s.heap := ⟨_, rfl⟩
  obtain ⟨locs, hlo⟩ : ∃ z : List Loc, z = [] := ⟨_, rfl⟩
  have hw : pw D classes (tysL ty) ad M F (pA ad M s.heap.size) s H locs := by rw [hH, hlo]; exact hw
  have hgo : W p l e ({ frames := 3, cells := 0, slots := 0, locals := 68 } : Room) s m ([.ref (ad (82)), .long (iL (n0)), .long (iL (d0))]).toArray below meth c H locs 0 0 Q (F0 m 0 ls []) := by
    obtain ⟨⟨bb, hbb, hB⟩, w83, w85, w87, w89, w91, ⟨f0, g0, h0, k0, hD⟩, w94⟩ := hBn
    refine lv_aload_n hx hb d_B_takeNumbers_0 rfl (lv_at hl 0 rfl) ?_
    refine pw_get (ci := 4) (C := R_B) (T := T_B) (N := 7) hx hb hq i_B hown hw (by omega) hB rfl 0 (by decide) (hq _ fl_B_16) (fun _ h9 => h9) rfl d_B_takeNumbers_1 ?_
    refine lv_lload_n hx hb d_B_takeNumbers_4 rfl (lv_at hl 1 rfl) ?_
    refine wz_mabsl (z := (n0.natAbs : Int)) hx hb (hml.trans hl.1.symm) hown (hq _ ml_B_77) (hq _ st_JM_abs) (hq _ in_JM) (hq _ m_JM_abs) (Nat.le_of_ble_eq_true rfl) (Nat.le_of_ble_eq_true rfl) (Nat.zero_le _) (Nat.zero_le _) (by omega) (by omega) (rfl) d_B_takeNumbers_5 ?_
    refine pw_callv hw (va_runV (As := [.long (iL ((n0.natAbs : Int)))]) (rest := []) ⟨hx, hb, hml, hown, hq⟩ (c_W_becomeLong l D ty ad M F H.size (83) 136 (n0.natAbs) (by omega) (by omega) (by omega) (by omega) w83) (cwV 1 hq (gV ml_B_83 im_W_becomeLong se_W_becomeLong in_W m_W_becomeLong) rfl rfl rfl (by decide +kernel) ⟨Nat.le_of_ble_eq_true rfl, Nat.le_of_ble_eq_true rfl⟩) (pw_preWa hw (by omega) w83) rfl rfl hl.1 rfl (lv_room (Nat.le_of_ble_eq_true rfl)) d_B_takeNumbers_8 ⟨Nat.le_of_ble_eq_true rfl, Nat.le_of_ble_eq_true rfl⟩) (fun F8 H locs q8 hw => ?_)
    obtain ⟨w83, hf8⟩ := q8
    have hB_at_8 : F8 (82) = .inr (4, [.ref (ad (83)), .ref (ad (85)), .ref (ad (87)), .ref (ad (89)), .ref (ad (91)), .ref (ad (93)), .int (iI ((bb : Int)))]) := (hf8 (82) (by omega) (by omega)).trans hB
    have w85_at_8 : Wa ty ad F8 (85) 136 := Wa.mv w85 (hf8 (85) (by omega) (by omega)) (hf8 (85 + 1) (by omega) (by omega))
    have w87_at_8 : Wa ty ad F8 (87) 136 := Wa.mv w87 (hf8 (87) (by omega) (by omega)) (hf8 (87 + 1) (by omega) (by omega))
    have w89_at_8 : Wa ty ad F8 (89) 136 := Wa.mv w89 (hf8 (89) (by omega) (by omega)) (hf8 (89 + 1) (by omega) (by omega))
    have w91_at_8 : Wa ty ad F8 (91) 136 := Wa.mv w91 (hf8 (91) (by omega) (by omega)) (hf8 (91 + 1) (by omega) (by omega))
    have hD_at_8 : F8 (93) = .inr (3, [.ref (ad (93 + 1)), .long (f0), .long (g0), .long (h0), .long (k0)]) := (hf8 (93) (by omega) (by omega)).trans hD
    have w94_at_8 : Wa ty ad F8 (93 + 1) 136 := Wa.mv w94 (hf8 (93 + 1) (by omega) (by omega)) (hf8 (93 + 1 + 1) (by omega) (by omega))
    refine lv_aload_n hx hb d_B_takeNumbers_11 rfl (lv_at hl 0 rfl) ?_
    refine pw_get (ci := 4) (C := R_B) (T := T_B) (N := 7) hx hb hq i_B hown hw (by omega) hB_at_8 rfl 1 (by decide) (hq _ fl_B_20) (fun _ h9 => h9) rfl d_B_takeNumbers_12 ?_
    refine lv_lload_n hx hb d_B_takeNumbers_15 rfl (lv_at hl 2 rfl) ?_
    refine wz_mabsl (z := (d0.natAbs : Int)) hx hb (hml.trans hl.1.symm) hown (hq _ ml_B_77) (hq _ st_JM_abs) (hq _ in_JM) (hq _ m_JM_abs) (Nat.le_of_ble_eq_true rfl) (Nat.le_of_ble_eq_true rfl) (Nat.zero_le _) (Nat.zero_le _) (by omega) (by omega) (rfl) d_B_takeNumbers_16 ?_
    refine pw_callv hw (va_runV (As := [.long (iL ((d0.natAbs : Int)))]) (rest := []) ⟨hx, hb, hml, hown, hq⟩ (c_W_becomeLong l D ty ad M F8 H.size (85) 136 (d0.natAbs) (by omega) (by omega) (by omega) (by omega) w85_at_8) (cwV 1 hq (gV ml_B_83 im_W_becomeLong se_W_becomeLong in_W m_W_becomeLong) rfl rfl rfl (by decide +kernel) ⟨Nat.le_of_ble_eq_true rfl, Nat.le_of_ble_eq_true rfl⟩) (pw_preWa hw (by omega) w85_at_8) rfl rfl hl.1 rfl (lv_room (Nat.le_of_ble_eq_true rfl)) d_B_takeNumbers_19 ⟨Nat.le_of_ble_eq_true rfl, Nat.le_of_ble_eq_true rfl⟩) (fun F19 H locs q19 hw => ?_)
    obtain ⟨w85, hf19⟩ := q19
    have hB_at_19 : F19 (82) = .inr (4, [.ref (ad (83)), .ref (ad (85)), .ref (ad (87)), .ref (ad (89)), .ref (ad (91)), .ref (ad (93)), .int (iI ((bb : Int)))]) := (hf19 (82) (by omega) (by omega)).trans hB_at_8
    have w87_at_19 : Wa ty ad F19 (87) 136 := Wa.mv w87_at_8 (hf19 (87) (by omega) (by omega)) (hf19 (87 + 1) (by omega) (by omega))
    have w89_at_19 : Wa ty ad F19 (89) 136 := Wa.mv w89_at_8 (hf19 (89) (by omega) (by omega)) (hf19 (89 + 1) (by omega) (by omega))
    have w91_at_19 : Wa ty ad F19 (91) 136 := Wa.mv w91_at_8 (hf19 (91) (by omega) (by omega)) (hf19 (91 + 1) (by omega) (by omega))
    have hD_at_19 : F19 (93) = .inr (3, [.ref (ad (93 + 1)), .long (f0), .long (g0), .long (h0), .long (k0)]) := (hf19 (93) (by omega) (by omega)).trans hD_at_8
    have w94_at_19 : Wa ty ad F19 (93 + 1) 136 := Wa.mv w94_at_8 (hf19 (93 + 1) (by omega) (by omega)) (hf19 (93 + 1 + 1) (by omega) (by omega))
    have w83_at_19 : Wv ty ad F19 (83) 136 (n0.natAbs) := Wv.mv w83 (hf19 (83) (by omega) (by omega)) (hf19 (83 + 1) (by omega) (by omega))
    refine lv_aload_n hx hb d_B_takeNumbers_22 rfl (lv_at hl 0 rfl) ?_
    refine lv_lload_n hx hb d_B_takeNumbers_23 rfl (lv_at hl 1 rfl) ?_
    refine lv_lconst (v := iL 0) hx hb d_B_takeNumbers_24 (by decide) ?_
    refine wz_lcmp_ge (tgt := 33) hx hb d_B_takeNumbers_25 d_B_takeNumbers_26 (by decide) (by omega) (by omega) (by omega) (by omega) (fun c25 => ?_) (fun c25 => ?_)
    · refine wz_iconst (n := 0) hx hb d_B_takeNumbers_33 ?_
      refine lv_lload_n hx hb d_B_takeNumbers_34 rfl (lv_at hl 2 rfl) ?_
      refine lv_lconst (v := iL 0) hx hb d_B_takeNumbers_35 (by decide) ?_
      refine wz_lcmp_ge (tgt := 44) hx hb d_B_takeNumbers_36 d_B_takeNumbers_37 (by decide) (by omega) (by omega) (by omega) (by omega) (fun c36 => ?_) (fun c36 => ?_)
      · refine wz_iconst (n := 0) hx hb d_B_takeNumbers_44 ?_
        refine wz_icmp_eq (tgt := 52) hx hb d_B_takeNumbers_45 (by decide) (by omega) (by omega) (by omega) (by omega) (fun c45 => ?_) (fun c45 => ?_)
        · refine wz_iconst (n := 0) hx hb d_B_takeNumbers_52 ?_
          refine pw_put (ci := 4) (C := R_B) (T := T_B) (N := 7) (ty := .boolean) (fs' := [.ref (ad (83)), .ref (ad (85)), .ref (ad (87)), .ref (ad (89)), .ref (ad (91)), .ref (ad (93)), .int (iI (0))]) hx hb hq i_B ft_B ft_B_ok n_B hown hw (by omega) hB_at_19 rfl 6 (by decide) (hq _ fl_B_39) (fun _ h9 => h9) rfl (by decide +kernel) rfl rfl (Nat.le_of_ble_eq_true rfl) rfl d_B_takeNumbers_53 (fun F53 H locs eF53 hw => ?_)
          have m53_82 : F53 (82) = .inr (4, [.ref (ad (83)), .ref (ad (85)), .ref (ad (87)), .ref (ad (89)), .ref (ad (91)), .ref (ad (93)), .int (iI (0))]) := by rw [eF53]; exact va_up_self ..
          have w87_at_53 : Wa ty ad F53 (87) 136 := Wa.mv w87_at_19 (show F53 (87) = F19 (87) from by rw [eF53]; exact va_up_ne _ _ (by omega)) (show F53 (87 + 1) = F19 (87 + 1) from by rw [eF53]; exact va_up_ne _ _ (by omega))
          have w89_at_53 : Wa ty ad F53 (89) 136 := Wa.mv w89_at_19 (show F53 (89) = F19 (89) from by rw [eF53]; exact va_up_ne _ _ (by omega)) (show F53 (89 + 1) = F19 (89 + 1) from by rw [eF53]; exact va_up_ne _ _ (by omega))
          have w91_at_53 : Wa ty ad F53 (91) 136 := Wa.mv w91_at_19 (show F53 (91) = F19 (91) from by rw [eF53]; exact va_up_ne _ _ (by omega)) (show F53 (91 + 1) = F19 (91 + 1) from by rw [eF53]; exact va_up_ne _ _ (by omega))
          have hD_at_53 : F53 (93) = .inr (3, [.ref (ad (93 + 1)), .long (f0), .long (g0), .long (h0), .long (k0)]) := (show F53 (93) = F19 (93) from by rw [eF53]; exact va_up_ne _ _ (by omega)).trans hD_at_19
          have w94_at_53 : Wa ty ad F53 (93 + 1) 136 := Wa.mv w94_at_19 (show F53 (93 + 1) = F19 (93 + 1) from by rw [eF53]; exact va_up_ne _ _ (by omega)) (show F53 (93 + 1 + 1) = F19 (93 + 1 + 1) from by rw [eF53]; exact va_up_ne _ _ (by omega))
          have w83_at_53 : Wv ty ad F53 (83) 136 (n0.natAbs) := Wv.mv w83_at_19 (show F53 (83) = F19 (83) from by rw [eF53]; exact va_up_ne _ _ (by omega)) (show F53 (83 + 1) = F19 (83 + 1) from by rw [eF53]; exact va_up_ne _ _ (by omega))
          have w85_at_53 : Wv ty ad F53 (85) 136 (d0.natAbs) := Wv.mv w85 (show F53 (85) = F19 (85) from by rw [eF53]; exact va_up_ne _ _ (by omega)) (show F53 (85 + 1) = F19 (85 + 1) from by rw [eF53]; exact va_up_ne _ _ (by omega))
          rw [← hQ]
          exact pw_vret hx hb hr hlocks hw (⟨⟨by split <;> omega, by rw [if_pos (by omega)]; exact m53_82, w83_at_53, w85_at_53, w87_at_53, w89_at_53, w91_at_53, ⟨_, _, _, _, hD_at_53⟩, w94_at_53⟩, fun y9 h9 => (show F53 (y9) = F19 (y9) from by rw [eF53]; exact va_up_ne _ _ (by omega)).trans ((hf19 (y9) (by omega) (by omega)).trans (hf8 (y9) (by omega) (by omega)))⟩) d_B_takeNumbers_56
        · exact absurd c45 (by omega)
      · refine wz_iconst (n := 1) hx hb d_B_takeNumbers_40 ?_
        refine lv_goto (tgt := 45) hx hb d_B_takeNumbers_41 (by decide) ?_
        refine wz_icmp_eq (tgt := 52) hx hb d_B_takeNumbers_45 (by decide) (by omega) (by omega) (by omega) (by omega) (fun c45 => ?_) (fun c45 => ?_)
        · exact absurd c45 (by omega)
        · refine wz_iconst (n := 1) hx hb d_B_takeNumbers_48 ?_
          refine lv_goto (tgt := 53) hx hb d_B_takeNumbers_49 (by decide) ?_
          refine pw_put (ci := 4) (C := R_B) (T := T_B) (N := 7) (ty := .boolean) (fs' := [.ref (ad (83)), .ref (ad (85)), .ref (ad (87)), .ref (ad (89)), .ref (ad (91)), .ref (ad (93)), .int (iI (1))]) hx hb hq i_B ft_B ft_B_ok n_B hown hw (by omega) hB_at_19 rfl 6 (by decide) (hq _ fl_B_39) (fun _ h9 => h9) rfl (by decide +kernel) rfl rfl (Nat.le_of_ble_eq_true rfl) rfl d_B_takeNumbers_53 (fun F53 H locs eF53 hw => ?_)
          have m53_82 : F53 (82) = .inr (4, [.ref (ad (83)), .ref (ad (85)), .ref (ad (87)), .ref (ad (89)), .ref (ad (91)), .ref (ad (93)), .int (iI (1))]) := by rw [eF53]; exact va_up_self ..
          have w87_at_53 : Wa ty ad F53 (87) 136 := Wa.mv w87_at_19 (show F53 (87) = F19 (87) from by rw [eF53]; exact va_up_ne _ _ (by omega)) (show F53 (87 + 1) = F19 (87 + 1) from by rw [eF53]; exact va_up_ne _ _ (by omega))
          have w89_at_53 : Wa ty ad F53 (89) 136 := Wa.mv w89_at_19 (show F53 (89) = F19 (89) from by rw [eF53]; exact va_up_ne _ _ (by omega)) (show F53 (89 + 1) = F19 (89 + 1) from by rw [eF53]; exact va_up_ne _ _ (by omega))
          have w91_at_53 : Wa ty ad F53 (91) 136 := Wa.mv w91_at_19 (show F53 (91) = F19 (91) from by rw [eF53]; exact va_up_ne _ _ (by omega)) (show F53 (91 + 1) = F19 (91 + 1) from by rw [eF53]; exact va_up_ne _ _ (by omega))
          have hD_at_53 : F53 (93) = .inr (3, [.ref (ad (93 + 1)), .long (f0), .long (g0), .long (h0), .long (k0)]) := (show F53 (93) = F19 (93) from by rw [eF53]; exact va_up_ne _ _ (by omega)).trans hD_at_19
          have w94_at_53 : Wa ty ad F53 (93 + 1) 136 := Wa.mv w94_at_19 (show F53 (93 + 1) = F19 (93 + 1) from by rw [eF53]; exact va_up_ne _ _ (by omega)) (show F53 (93 + 1 + 1) = F19 (93 + 1 + 1) from by rw [eF53]; exact va_up_ne _ _ (by omega))
          have w83_at_53 : Wv ty ad F53 (83) 136 (n0.natAbs) := Wv.mv w83_at_19 (show F53 (83) = F19 (83) from by rw [eF53]; exact va_up_ne _ _ (by omega)) (show F53 (83 + 1) = F19 (83 + 1) from by rw [eF53]; exact va_up_ne _ _ (by omega))
          have w85_at_53 : Wv ty ad F53 (85) 136 (d0.natAbs) := Wv.mv w85 (show F53 (85) = F19 (85) from by rw [eF53]; exact va_up_ne _ _ (by omega)) (show F53 (85 + 1) = F19 (85 + 1) from by rw [eF53]; exact va_up_ne _ _ (by omega))
          rw [← hQ]
          exact pw_vret hx hb hr hlocks hw (⟨⟨by split <;> omega, by rw [if_neg (by omega)]; exact m53_82, w83_at_53, w85_at_53, w87_at_53, w89_at_53, w91_at_53, ⟨_, _, _, _, hD_at_53⟩, w94_at_53⟩, fun y9 h9 => (show F53 (y9) = F19 (y9) from by rw [eF53]; exact va_up_ne _ _ (by omega)).trans ((hf19 (y9) (by omega) (by omega)).trans (hf8 (y9) (by omega) (by omega)))⟩) d_B_takeNumbers_56
    · refine wz_iconst (n := 1) hx hb d_B_takeNumbers_29 ?_
      refine lv_goto (tgt := 34) hx hb d_B_takeNumbers_30 (by decide) ?_
      refine lv_lload_n hx hb d_B_takeNumbers_34 rfl (lv_at hl 2 rfl) ?_
      refine lv_lconst (v := iL 0) hx hb d_B_takeNumbers_35 (by decide) ?_
      refine wz_lcmp_ge (tgt := 44) hx hb d_B_takeNumbers_36 d_B_takeNumbers_37 (by decide) (by omega) (by omega) (by omega) (by omega) (fun c36 => ?_) (fun c36 => ?_)
      · refine wz_iconst (n := 0) hx hb d_B_takeNumbers_44 ?_
        refine wz_icmp_eq (tgt := 52) hx hb d_B_takeNumbers_45 (by decide) (by omega) (by omega) (by omega) (by omega) (fun c45 => ?_) (fun c45 => ?_)
        · exact absurd c45 (by omega)
        · refine wz_iconst (n := 1) hx hb d_B_takeNumbers_48 ?_
          refine lv_goto (tgt := 53) hx hb d_B_takeNumbers_49 (by decide) ?_
          refine pw_put (ci := 4) (C := R_B) (T := T_B) (N := 7) (ty := .boolean) (fs' := [.ref (ad (83)), .ref (ad (85)), .ref (ad (87)), .ref (ad (89)), .ref (ad (91)), .ref (ad (93)), .int (iI (1))]) hx hb hq i_B ft_B ft_B_ok n_B hown hw (by omega) hB_at_19 rfl 6 (by decide) (hq _ fl_B_39) (fun _ h9 => h9) rfl (by decide +kernel) rfl rfl (Nat.le_of_ble_eq_true rfl) rfl d_B_takeNumbers_53 (fun F53 H locs eF53 hw => ?_)
          have m53_82 : F53 (82) = .inr (4, [.ref (ad (83)), .ref (ad (85)), .ref (ad (87)), .ref (ad (89)), .ref (ad (91)), .ref (ad (93)), .int (iI (1))]) := by rw [eF53]; exact va_up_self ..
          have w87_at_53 : Wa ty ad F53 (87) 136 := Wa.mv w87_at_19 (show F53 (87) = F19 (87) from by rw [eF53]; exact va_up_ne _ _ (by omega)) (show F53 (87 + 1) = F19 (87 + 1) from by rw [eF53]; exact va_up_ne _ _ (by omega))
          have w89_at_53 : Wa ty ad F53 (89) 136 := Wa.mv w89_at_19 (show F53 (89) = F19 (89) from by rw [eF53]; exact va_up_ne _ _ (by omega)) (show F53 (89 + 1) = F19 (89 + 1) from by rw [eF53]; exact va_up_ne _ _ (by omega))
          have w91_at_53 : Wa ty ad F53 (91) 136 := Wa.mv w91_at_19 (show F53 (91) = F19 (91) from by rw [eF53]; exact va_up_ne _ _ (by omega)) (show F53 (91 + 1) = F19 (91 + 1) from by rw [eF53]; exact va_up_ne _ _ (by omega))
          have hD_at_53 : F53 (93) = .inr (3, [.ref (ad (93 + 1)), .long (f0), .long (g0), .long (h0), .long (k0)]) := (show F53 (93) = F19 (93) from by rw [eF53]; exact va_up_ne _ _ (by omega)).trans hD_at_19
          have w94_at_53 : Wa ty ad F53 (93 + 1) 136 := Wa.mv w94_at_19 (show F53 (93 + 1) = F19 (93 + 1) from by rw [eF53]; exact va_up_ne _ _ (by omega)) (show F53 (93 + 1 + 1) = F19 (93 + 1 + 1) from by rw [eF53]; exact va_up_ne _ _ (by omega))
          have w83_at_53 : Wv ty ad F53 (83) 136 (n0.natAbs) := Wv.mv w83_at_19 (show F53 (83) = F19 (83) from by rw [eF53]; exact va_up_ne _ _ (by omega)) (show F53 (83 + 1) = F19 (83 + 1) from by rw [eF53]; exact va_up_ne _ _ (by omega))
          have w85_at_53 : Wv ty ad F53 (85) 136 (d0.natAbs) := Wv.mv w85 (show F53 (85) = F19 (85) from by rw [eF53]; exact va_up_ne _ _ (by omega)) (show F53 (85 + 1) = F19 (85 + 1) from by rw [eF53]; exact va_up_ne _ _ (by omega))
          rw [← hQ]
          exact pw_vret hx hb hr hlocks hw (⟨⟨by split <;> omega, by rw [if_neg (by omega)]; exact m53_82, w83_at_53, w85_at_53, w87_at_53, w89_at_53, w91_at_53, ⟨_, _, _, _, hD_at_53⟩, w94_at_53⟩, fun y9 h9 => (show F53 (y9) = F19 (y9) from by rw [eF53]; exact va_up_ne _ _ (by omega)).trans ((hf19 (y9) (by omega) (by omega)).trans (hf8 (y9) (by omega) (by omega)))⟩) d_B_takeNumbers_56
      · refine wz_iconst (n := 1) hx hb d_B_takeNumbers_40 ?_
        refine lv_goto (tgt := 45) hx hb d_B_takeNumbers_41 (by decide) ?_
        refine wz_icmp_eq (tgt := 52) hx hb d_B_takeNumbers_45 (by decide) (by omega) (by omega) (by omega) (by omega) (fun c45 => ?_) (fun c45 => ?_)
        · refine wz_iconst (n := 0) hx hb d_B_takeNumbers_52 ?_
          refine pw_put (ci := 4) (C := R_B) (T := T_B) (N := 7) (ty := .boolean) (fs' := [.ref (ad (83)), .ref (ad (85)), .ref (ad (87)), .ref (ad (89)), .ref (ad (91)), .ref (ad (93)), .int (iI (0))]) hx hb hq i_B ft_B ft_B_ok n_B hown hw (by omega) hB_at_19 rfl 6 (by decide) (hq _ fl_B_39) (fun _ h9 => h9) rfl (by decide +kernel) rfl rfl (Nat.le_of_ble_eq_true rfl) rfl d_B_takeNumbers_53 (fun F53 H locs eF53 hw => ?_)
          have m53_82 : F53 (82) = .inr (4, [.ref (ad (83)), .ref (ad (85)), .ref (ad (87)), .ref (ad (89)), .ref (ad (91)), .ref (ad (93)), .int (iI (0))]) := by rw [eF53]; exact va_up_self ..
          have w87_at_53 : Wa ty ad F53 (87) 136 := Wa.mv w87_at_19 (show F53 (87) = F19 (87) from by rw [eF53]; exact va_up_ne _ _ (by omega)) (show F53 (87 + 1) = F19 (87 + 1) from by rw [eF53]; exact va_up_ne _ _ (by omega))
          have w89_at_53 : Wa ty ad F53 (89) 136 := Wa.mv w89_at_19 (show F53 (89) = F19 (89) from by rw [eF53]; exact va_up_ne _ _ (by omega)) (show F53 (89 + 1) = F19 (89 + 1) from by rw [eF53]; exact va_up_ne _ _ (by omega))
          have w91_at_53 : Wa ty ad F53 (91) 136 := Wa.mv w91_at_19 (show F53 (91) = F19 (91) from by rw [eF53]; exact va_up_ne _ _ (by omega)) (show F53 (91 + 1) = F19 (91 + 1) from by rw [eF53]; exact va_up_ne _ _ (by omega))
          have hD_at_53 : F53 (93) = .inr (3, [.ref (ad (93 + 1)), .long (f0), .long (g0), .long (h0), .long (k0)]) := (show F53 (93) = F19 (93) from by rw [eF53]; exact va_up_ne _ _ (by omega)).trans hD_at_19
          have w94_at_53 : Wa ty ad F53 (93 + 1) 136 := Wa.mv w94_at_19 (show F53 (93 + 1) = F19 (93 + 1) from by rw [eF53]; exact va_up_ne _ _ (by omega)) (show F53 (93 + 1 + 1) = F19 (93 + 1 + 1) from by rw [eF53]; exact va_up_ne _ _ (by omega))
          have w83_at_53 : Wv ty ad F53 (83) 136 (n0.natAbs) := Wv.mv w83_at_19 (show F53 (83) = F19 (83) from by rw [eF53]; exact va_up_ne _ _ (by omega)) (show F53 (83 + 1) = F19 (83 + 1) from by rw [eF53]; exact va_up_ne _ _ (by omega))
          have w85_at_53 : Wv ty ad F53 (85) 136 (d0.natAbs) := Wv.mv w85 (show F53 (85) = F19 (85) from by rw [eF53]; exact va_up_ne _ _ (by omega)) (show F53 (85 + 1) = F19 (85 + 1) from by rw [eF53]; exact va_up_ne _ _ (by omega))
          rw [← hQ]
          exact pw_vret hx hb hr hlocks hw (⟨⟨by split <;> omega, by rw [if_pos (by omega)]; exact m53_82, w83_at_53, w85_at_53, w87_at_53, w89_at_53, w91_at_53, ⟨_, _, _, _, hD_at_53⟩, w94_at_53⟩, fun y9 h9 => (show F53 (y9) = F19 (y9) from by rw [eF53]; exact va_up_ne _ _ (by omega)).trans ((hf19 (y9) (by omega) (by omega)).trans (hf8 (y9) (by omega) (by omega)))⟩) d_B_takeNumbers_56
        · exact absurd c45 (by omega)
  rw [hH, hlo] at hgo
  exact hgo
