/-! Text: tell, put, nines, turning: by program -/
set_option maxHeartbeats 4000000 in
set_option maxRecDepth 100000 in
/-- Text.tell(from, to, number) -/
theorem c_T_tell (l : Launch) (D : va_G) (ty : Nat → ClassId) (ad : Nat → Nat) (M : Nat) (F : Nat → va_E) (sz : Nat) (hM : 97 < M) (n : Nat) (tx : Nat → Nat) (hTx : Tx ty ad F n tx) (w i0 i1 : Nat) (hw83 : w = 83 ∨ w = 85) (hi0 : i0 ≤ i1) (hi1 : i1 ≤ n) (hdig : ∀ j, i0 ≤ j → j < i1 → isd (tx j)) (hwa : Wa ty ad F w 136) :
    CI l y_T_tell w_T_tell ({ frames := 4, cells := 0, slots := 0, locals := 81 } : Room) [.ref (ad (96)), .int (iI ((i0 : Int))), .int (iI ((i1 : Int))), .ref (ad (w))] D ty ad M F sz (fun r F1 => (sm (dval tx i0 (i1 - i0)) → r = iI 1 ∧ Wv ty ad F1 w 136 (dval tx i0 (i1 - i0))) ∧ (¬ sm (dval tx i0 (i1 - i0)) → r = iI 0) ∧ Wa ty ad F1 w 136 ∧ ∀ y, y ≠ w → y ≠ w + 1 → F1 y = F y) := by
  refine Met.ofW (cc := b_T_tell) (maxL := 7) (ret := (some .boolean)) (by decide) rfl ?_
  intro p e s m args below meth c s₁ B hml hv
  obtain ⟨rfl, hsz, hP, hK, hD0⟩ := hv
  have hx := B.exec
  have hb := B.bytes
  have hr := B.returns
  have hts := atoms_spec (ws := w_T_tell) B.pre
  have hq : ∀ w ∈ wT, w.before _ s = true := fun w h => hts w (List.mem_cons_of_mem _ h)
  have hown : s.vm.findClass R_T = some m.cls := findClass_of_methodNamed B.named
  have hlocks := B.notSynchronized
  subst hsz
  have hw := pw_start hP hK hD0
  have hl := lv_entry ([.ref (ad (96)), .int (iI ((i0 : Int))), .int (iI ((i1 : Int))), .ref (ad (w))]) (n := 7) (Nat.le_of_ble_eq_true rfl)
  rw [lg_entry_eq]
  generalize (lg_sl ([.ref (ad (96)), .int (iI ((i0 : Int))), .int (iI ((i1 : Int))), .ref (ad (w))]) ++ List.replicate (7 - (lg_sl ([.ref (ad (96)), .int (iI ((i0 : Int))), .int (iI ((i1 : Int))), .ref (ad (w))])).length) Slot.unset).toArray = ls at hl ⊢
  have hl : lv_has ls 7 [(0, .ref (ad (96))), (1, .int (iI ((i0 : Int)))), (2, .int (iI ((i1 : Int)))), (3, .ref (ad (w)))] := hl
  change W p l e ({ frames := 4, cells := 0, slots := 0, locals := 81 } : Room) s m ([.ref (ad (96)), .int (iI ((i0 : Int))), .int (iI ((i1 : Int))), .ref (ad (w))]).toArray below meth c s.heap [] 0 0 (MQ below (va_Qi (fun r F1 => (sm (dval tx i0 (i1 - i0)) → r = iI 1 ∧ Wv ty ad F1 w 136 (dval tx i0 (i1 - i0))) ∧ (¬ sm (dval tx i0 (i1 - i0)) → r = iI 0) ∧ Wa ty ad F1 w 136 ∧ ∀ y, y ≠ w → y ≠ w + 1 → F1 y = F y) (pAt D classes (tysL ty) ad M (pA ad M s.heap.size)) (pA ad M s.heap.size)) ([.ref (ad (96)), .int (iI ((i0 : Int))), .int (iI ((i1 : Int))), .ref (ad (w))]).toArray s 0 0 (pA ad M s.heap.size)) (F0 m 0 ls [])
  generalize hQ : MQ below (va_Qi (fun r F1 => (sm (dval tx i0 (i1 - i0)) → r = iI 1 ∧ Wv ty ad F1 w 136 (dval tx i0 (i1 - i0))) ∧ (¬ sm (dval tx i0 (i1 - i0)) → r = iI 0) ∧ Wa ty ad F1 w 136 ∧ ∀ y, y ≠ w → y ≠ w + 1 → F1 y = F y) (pAt D classes (tysL ty) ad M (pA ad M s.heap.size)) (pA ad M s.heap.size)) ([.ref (ad (96)), .int (iI ((i0 : Int))), .int (iI ((i1 : Int))), .ref (ad (w))]).toArray s 0 0 (pA ad M s.heap.size) = Q
  obtain ⟨H, hH⟩ : ∃ H, H = s.heap := ⟨_, rfl⟩
  obtain ⟨locs, hlo⟩ : ∃ z : List Loc, z = [] := ⟨_, rfl⟩
  have hw : pw D classes (tysL ty) ad M F (pA ad M s.heap.size) s H locs := by rw [hH, hlo]; exact hw
  have hgo : W p l e ({ frames := 4, cells := 0, slots := 0, locals := 81 } : Room) s m ([.ref (ad (96)), .int (iI ((i0 : Int))), .int (iI ((i1 : Int))), .ref (ad (w))]).toArray below meth c H locs 0 0 Q (F0 m 0 ls []) := by
    obtain ⟨hT, g, hC, hn, hg, hlt⟩ := hTx
    obtain ⟨nw, gw, hO_w, hA_w⟩ := hwa
    refine lv_aload_n hx hb d_T_tell_0 rfl (lv_at hl 3 rfl) ?_
    refine wz_iconst (n := 0) hx hb d_T_tell_1 ?_
    refine pw_put (ci := 0) (C := R_W) (T := T_W) (N := 2) (ty := .int) (fs' := [.ref (ad (w + 1)), .int (iI (0))]) hx hb hq i_W ft_W ft_W_ok n_W hown hw (by omega) hO_w rfl 1 (by decide) (hq _ fl_T_60) (fun _ h9 => h9) rfl (by decide +kernel) rfl rfl (Nat.le_of_ble_eq_true rfl) rfl d_T_tell_2 (fun F2 H locs eF2 hw => ?_)
    have m2_w : F2 (w) = .inr (0, [.ref (ad (w + 1)), .int (iI (0))]) := by rw [eF2]; exact va_up_self ..
    have hT_at_2 : F2 (96) = .inr (2, [.ref (ad (97)), .int (iI ((n : Int)))]) := (show F2 (96) = F (96) from by rw [eF2]; exact va_up_ne _ _ (by omega)).trans hT
    have hC_at_2 : F2 (97) = .inl (ty 1, 1400, .inl (g)) := (show F2 (97) = F (97) from by rw [eF2]; exact va_up_ne _ _ (by omega)).trans hC
    have hA_w_at_2 : F2 (w + 1) = .inl (ty 0, 136, .inl (gw)) := (show F2 (w + 1) = F (w + 1) from by rw [eF2]; exact va_up_ne _ _ (by omega)).trans hA_w
    have ww : Wv ty ad F2 (w) 136 (0) := ⟨0, gw, ⟨m2_w, hA_w_at_2⟩, Nat.zero_le _, fun i hi => absurd hi (by omega), Or.inl rfl, rfl⟩
    refine wz_iconst (n := 0) hx hb d_T_tell_5 ?_
    refine lv_istore (lv' := [(4, .int (iI (0))), (0, .ref (ad (96))), (1, .int (iI ((i0 : Int)))), (2, .int (iI ((i1 : Int)))), (3, .ref (ad (w)))]) hx hb d_T_tell_6 hl (by decide) rfl (fun ls hl => ?_)
    refine wz_iconst (n := 1) hx hb d_T_tell_8 ?_
    refine lv_istore (lv' := [(5, .int (iI (1))), (4, .int (iI (0))), (0, .ref (ad (96))), (1, .int (iI ((i0 : Int)))), (2, .int (iI ((i1 : Int)))), (3, .ref (ad (w)))]) hx hb d_T_tell_9 hl (by decide) rfl (fun ls hl => ?_)
    refine lv_iload_n hx hb d_T_tell_11 rfl (lv_at hl 3 rfl) ?_
    refine lv_istore (lv' := [(6, .int (iI ((i0 : Int)))), (5, .int (iI (1))), (4, .int (iI (0))), (0, .ref (ad (96))), (1, .int (iI ((i0 : Int)))), (2, .int (iI ((i1 : Int)))), (3, .ref (ad (w)))]) hx hb d_T_tell_12 hl (by decide) rfl (fun ls hl => ?_)
    have K14 : ∀ (fuel : Nat) (i ex v dg : Nat) (F14 : Nat → va_E) (H : Heap) (locs : List Loc) (ls : Array Slot), i1 - i < fuel → (i0 ≤ i ∧ i ≤ i1) → (ex ≤ 8) → (dg < 10 ^ ex) → (v * 10 ^ ex + dg = dval tx i0 (i - i0)) → (sm v) → (i = i1 → ex = 0) → (∀ y, y ≠ w → y ≠ w + 1 → F14 y = F y) → F14 (96) = .inr (2, [.ref (ad (97)), .int (iI ((n : Int)))]) → F14 (97) = .inl (ty 1, 1400, .inl (g)) → Wv ty ad F14 (w) 136 (v) → pw D classes (tysL ty) ad M F14 (pA ad M s.heap.size) s H locs → lv_has ls 7 [(6, .int (iI ((i : Int)))), (5, .int (iI (((10 ^ ex : Nat) : Int)))), (4, .int (iI ((dg : Int)))), (0, .ref (ad (96))), (1, .int (iI ((i0 : Int)))), (2, .int (iI ((i1 : Int)))), (3, .ref (ad (w)))] → W p l e ({ frames := 4, cells := 0, slots := 0, locals := 81 } : Room) s m ([.ref (ad (96)), .int (iI ((i0 : Int))), .int (iI ((i1 : Int))), .ref (ad (w))]).toArray below meth c H locs 0 0 Q (F0 m 14 ls []) := by
      intro fuel
      induction fuel with
      | zero => intro i ex v dg F14 H locs ls hfuel hi hex hdgl hval hsv hend hfr hT hC ww hw hl; exact absurd hfuel (Nat.not_lt_zero _)
      | succ fuel ih14 =>
        intro i ex v dg F14 H locs ls hfuel hi hex hdgl hval hsv hend hfr hT hC ww hw hl
        refine lv_iload hx hb d_T_tell_14 (lv_at hl 0 rfl) ?_
        refine lv_iload_n hx hb d_T_tell_16 rfl (lv_at hl 5 rfl) ?_
        refine wz_icmp_ge (tgt := 88) hx hb d_T_tell_17 (by decide) (by omega) (by omega) (by omega) (by omega) (fun c17 => ?_) (fun c17 => ?_)
        · have hi9 : i = i1 := by omega
          have hex9 := hend hi9
          have hv8 : v = dval tx i0 (i1 - i0) := by
            rw [hex9, Nat.pow_zero] at hval hdgl
            rw [← hi9, ← hval]; omega
          refine wz_iconst (n := 1) hx hb d_T_tell_88 ?_
          rw [← hQ]
          exact pw_zret hx hb hr (by decide) hlocks hw (⟨fun _ => ⟨rfl, by rw [← hv8]; exact ww⟩, fun h9 => absurd (by rw [← hv8]; exact hsv) h9, (ww).a, hfr⟩) d_T_tell_89
        · have htl := hlt i (by omega)
          have hdi := hdig i (by omega) (by omega)
          have hp9 : 10 ^ (ex + 1) = 10 ^ ex * 10 := Nat.pow_succ ..
          have hp8 : 10 ^ ex ≤ 10 ^ 8 := Nat.pow_le_pow_right (by decide) (by omega)
          have hd9 : dg * 10 + (tx i - 48) < 10 ^ (ex + 1) := by omega
          have hv9 : 10 ^ (ex + 1) * v + (dg * 10 + (tx i - 48)) = dval tx i0 (i + 1 - i0) := by
            rw [show i + 1 - i0 = (i - i0) + 1 by omega, dval_s, show i0 + (i - i0) = i by omega, ← hval, hp9]
            have : 10 ^ ex * 10 * v = v * 10 ^ ex * 10 := by ac_rfl
            omega
          have hp7 : 0 < 10 ^ ex := Nat.pow_pos (by decide)
          refine lv_iload hx hb d_T_tell_20 (lv_at hl 2 rfl) ?_
          refine wz_bipush (n := 10) hx hb d_T_tell_22 (by decide) ?_
          refine wz_imul (z := ((dg * 10 : Nat) : Int)) hx hb d_T_tell_24 (by omega) ?_
          refine lv_aload_n hx hb d_T_tell_25 rfl (lv_at hl 3 rfl) ?_
          refine lv_iload hx hb d_T_tell_26 (lv_at hl 0 rfl) ?_
          refine pw_calli hw (va_runV (As := [.int (iI ((i : Int)))]) (rest := [.int (iI (((dg * 10 : Nat) : Int)))]) ⟨hx, hb, hml, hown, hq⟩ (c_T_at l D ty ad M F14 H.size hM n tx ⟨hT, g, hC, hn, hg, hlt⟩ (i : Int) (by omega)) (cwV 1 hq (gV ml_T_42 im_T_at se_T_at in_T m_T_at) rfl rfl rfl (by decide +kernel) ⟨Nat.le_of_ble_eq_true rfl, Nat.le_of_ble_eq_true rfl⟩) (pw_preV hw (by omega) hT rfl) rfl rfl hl.1 rfl (lv_room (Nat.le_of_ble_eq_true rfl)) d_T_tell_28 ⟨Nat.le_of_ble_eq_true rfl, Nat.le_of_ble_eq_true rfl⟩) (fun r28 F28 H locs q28 hw => ?_)
          obtain ⟨er28, eF28⟩ := q28
          rw [eF28] at hw
          clear eF28
          rw [tat_n (by omega)] at er28
          subst er28
          refine wz_bipush (n := 48) hx hb d_T_tell_31 (by decide) ?_
          refine wz_isub (z := ((tx i - 48 : Nat) : Int)) hx hb d_T_tell_33 (by omega) ?_
          refine wz_iadd (z := ((dg * 10 + (tx i - 48) : Nat) : Int)) hx hb d_T_tell_34 (by omega) ?_
          refine lv_istore (lv' := [(4, .int (iI (((dg * 10 + (tx i - 48) : Nat) : Int)))), (6, .int (iI ((i : Int)))), (5, .int (iI (((10 ^ ex : Nat) : Int)))), (0, .ref (ad (96))), (1, .int (iI ((i0 : Int)))), (2, .int (iI ((i1 : Int)))), (3, .ref (ad (w)))]) hx hb d_T_tell_35 hl (by decide) rfl (fun ls hl => ?_)
          refine lv_iload hx hb d_T_tell_37 (lv_at hl 2 rfl) ?_
          refine wz_bipush (n := 10) hx hb d_T_tell_39 (by decide) ?_
          refine wz_imul (z := ((10 ^ (ex + 1) : Nat) : Int)) hx hb d_T_tell_41 (by rw [Nat.pow_succ, Int.natCast_mul]; rfl) ?_
          refine lv_istore (lv' := [(5, .int (iI (((10 ^ (ex + 1) : Nat) : Int)))), (4, .int (iI (((dg * 10 + (tx i - 48) : Nat) : Int)))), (6, .int (iI ((i : Int)))), (0, .ref (ad (96))), (1, .int (iI ((i0 : Int)))), (2, .int (iI ((i1 : Int)))), (3, .ref (ad (w)))]) hx hb d_T_tell_42 hl (by decide) rfl (fun ls hl => ?_)
          refine lv_iload hx hb d_T_tell_44 (lv_at hl 0 rfl) ?_
          refine lv_ldc (v := iI (1000000000)) hx hb hown (hq _ co_T_25) d_T_tell_46 ?_
          refine wz_icmp_eq (tgt := 59) hx hb d_T_tell_48 (by decide) (by omega) (by omega) (by omega) (by omega) (fun c48 => ?_) (fun c48 => ?_)
          · refine lv_aload_n hx hb d_T_tell_59 rfl (lv_at hl 6 rfl) ?_
            refine lv_iload hx hb d_T_tell_60 (lv_at hl 0 rfl) ?_
            refine lv_iload hx hb d_T_tell_62 (lv_at hl 1 rfl) ?_
            refine pw_callv hw (va_runV (As := [.int (iI (((10 ^ (ex + 1) : Nat) : Int))), .int (iI (((dg * 10 + (tx i - 48) : Nat) : Int)))]) (rest := []) ⟨hx, hb, hml, hown, hq⟩ (c_W_timesPlus l D ty ad M F14 H.size w 136 v (10 ^ (ex + 1)) (dg * 10 + (tx i - 48)) (by omega) (by omega) ww (by omega) (by omega) (by omega) (tell_fit hsv (by omega) (by omega))) (cwV 2 hq (gV ml_T_63 im_W_timesPlus se_W_timesPlus in_W m_W_timesPlus) rfl rfl rfl (by decide +kernel) ⟨Nat.le_of_ble_eq_true rfl, Nat.le_of_ble_eq_true rfl⟩) (pw_preWa hw (by omega) ((ww).a)) rfl rfl hl.1 rfl (lv_room (Nat.le_of_ble_eq_true rfl)) d_T_tell_64 ⟨Nat.le_of_ble_eq_true rfl, Nat.le_of_ble_eq_true rfl⟩) (fun F64 H locs q64 hw => ?_)
            obtain ⟨ww, hf64⟩ := q64
            have hT_at_64 : F64 (96) = .inr (2, [.ref (ad (97)), .int (iI ((n : Int)))]) := (hf64 (96) (by omega) (by omega)).trans hT
            have hC_at_64 : F64 (97) = .inl (ty 1, 1400, .inl (g)) := (hf64 (97) (by omega) (by omega)).trans hC
            refine lv_aload_n hx hb d_T_tell_67 rfl (lv_at hl 6 rfl) ?_
            refine pw_calli hw (va_runV (As := []) (rest := []) ⟨hx, hb, hml, hown, hq⟩ (c_W_isSmallEnough l D ty ad M F64 H.size (w) 136 (10 ^ (ex + 1) * v + (dg * 10 + (tx i - 48))) (by omega) (by omega) ww) (cwV 0 hq (gV ml_T_66 im_W_isSmallEnough se_W_isSmallEnough in_W m_W_isSmallEnough) rfl rfl rfl (by decide +kernel) ⟨Nat.le_of_ble_eq_true rfl, Nat.le_of_ble_eq_true rfl⟩) (pw_preWa hw (by omega) ((ww).a)) rfl rfl hl.1 rfl (lv_room (Nat.le_of_ble_eq_true rfl)) d_T_tell_68 ⟨Nat.le_of_ble_eq_true rfl, Nat.le_of_ble_eq_true rfl⟩) (fun r68 F68 H locs q68 hw => ?_)
            obtain ⟨er68, eF68⟩ := q68
            rw [eF68] at hw
            clear eF68
            subst er68
            refine wz_if_ne (tgt := 76) hx hb d_T_tell_71 (by decide) (by split <;> omega) (by split <;> omega) (fun c71 => ?_) (fun c71 => ?_)
            · have hs9 : sm (10 ^ (ex + 1) * v + (dg * 10 + (tx i - 48))) := (ite_nz (P := 10 ^ (ex + 1) * v + (dg * 10 + (tx i - 48)) < 2 ^ 2048)).mp c71
              refine wz_iconst (n := 0) hx hb d_T_tell_76 ?_
              refine lv_istore (lv' := [(4, .int (iI (0))), (5, .int (iI (((10 ^ (ex + 1) : Nat) : Int)))), (6, .int (iI ((i : Int)))), (0, .ref (ad (96))), (1, .int (iI ((i0 : Int)))), (2, .int (iI ((i1 : Int)))), (3, .ref (ad (w)))]) hx hb d_T_tell_77 hl (by decide) rfl (fun ls hl => ?_)
              refine wz_iconst (n := 1) hx hb d_T_tell_79 ?_
              refine lv_istore (lv' := [(5, .int (iI (1))), (4, .int (iI (0))), (6, .int (iI ((i : Int)))), (0, .ref (ad (96))), (1, .int (iI ((i0 : Int)))), (2, .int (iI ((i1 : Int)))), (3, .ref (ad (w)))]) hx hb d_T_tell_80 hl (by decide) rfl (fun ls hl => ?_)
              refine wz_iinc (z := (i : Int) + 1) (lv' := [(6, .int (iI ((i : Int) + 1))), (5, .int (iI (1))), (4, .int (iI (0))), (0, .ref (ad (96))), (1, .int (iI ((i0 : Int)))), (2, .int (iI ((i1 : Int)))), (3, .ref (ad (w)))]) hx hb d_T_tell_82 hl (k := 2) rfl (rfl) (by decide) rfl (fun ls hl => ?_)
              refine lv_goto (tgt := 14) hx hb d_T_tell_85 (by decide) ?_
              exact ih14 (i + 1) 0 (10 ^ (ex + 1) * v + (dg * 10 + (tx i - 48))) 0 _ _ _ ls (by omega) (by omega) (by omega) (by simp) (by rw [hv9]; simp) (hs9) (fun _ => rfl) (fun y9 h1 h2 => (hf64 (y9) (by omega) (by omega)).trans (hfr y9 h1 h2)) hT_at_64 hC_at_64 ww hw hl
            · have hs9 : ¬ sm (10 ^ (ex + 1) * v + (dg * 10 + (tx i - 48))) := (ite_z (P := 10 ^ (ex + 1) * v + (dg * 10 + (tx i - 48)) < 2 ^ 2048)).mp c71
              rw [hv9] at hs9
              have hs8 : ¬ sm (dval tx i0 (i1 - i0)) := fun h9 => hs9 (h9.le (dval_le tx i0 (by omega)))
              refine wz_iconst (n := 0) hx hb d_T_tell_74 ?_
              rw [← hQ]
              exact pw_zret hx hb hr (by decide) hlocks hw (⟨fun h9 => absurd h9 hs8, fun _ => rfl, (ww).a, fun y9 h1 h2 => (hf64 (y9) (by omega) (by omega)).trans (hfr y9 h1 h2)⟩) d_T_tell_75
          · have hex8 : ex ≠ 8 := fun h9 => by
              rw [h9] at c48
              exact c48 rfl
            refine lv_iload hx hb d_T_tell_51 (lv_at hl 2 rfl) ?_
            refine lv_iload_n hx hb d_T_tell_53 rfl (lv_at hl 5 rfl) ?_
            refine wz_iconst (n := 1) hx hb d_T_tell_54 ?_
            refine wz_isub (z := ((i1 - 1 : Nat) : Int)) hx hb d_T_tell_55 (by omega) ?_
            refine wz_icmp_ne (tgt := 82) hx hb d_T_tell_56 (by decide) (by omega) (by omega) (by omega) (by omega) (fun c56 => ?_) (fun c56 => ?_)
            · refine wz_iinc (z := (i : Int) + 1) (lv' := [(6, .int (iI ((i : Int) + 1))), (5, .int (iI (((10 ^ (ex + 1) : Nat) : Int)))), (4, .int (iI (((dg * 10 + (tx i - 48) : Nat) : Int)))), (0, .ref (ad (96))), (1, .int (iI ((i0 : Int)))), (2, .int (iI ((i1 : Int)))), (3, .ref (ad (w)))]) hx hb d_T_tell_82 hl (k := 2) rfl (rfl) (by decide) rfl (fun ls hl => ?_)
              refine lv_goto (tgt := 14) hx hb d_T_tell_85 (by decide) ?_
              exact ih14 (i + 1) (ex + 1) v (dg * 10 + (tx i - 48)) _ _ _ ls (by omega) (by omega) (by omega) (hd9) (by rw [← hv9, Nat.mul_comm]) (hsv) (fun h9 => absurd h9 (by omega)) (fun y9 h1 h2 => (rfl).trans (hfr y9 h1 h2)) hT hC ww hw hl
            · refine lv_aload_n hx hb d_T_tell_59 rfl (lv_at hl 6 rfl) ?_
              refine lv_iload hx hb d_T_tell_60 (lv_at hl 0 rfl) ?_
              refine lv_iload hx hb d_T_tell_62 (lv_at hl 1 rfl) ?_
              refine pw_callv hw (va_runV (As := [.int (iI (((10 ^ (ex + 1) : Nat) : Int))), .int (iI (((dg * 10 + (tx i - 48) : Nat) : Int)))]) (rest := []) ⟨hx, hb, hml, hown, hq⟩ (c_W_timesPlus l D ty ad M F14 H.size w 136 v (10 ^ (ex + 1)) (dg * 10 + (tx i - 48)) (by omega) (by omega) ww (by omega) (by omega) (by omega) (tell_fit hsv (by omega) (by omega))) (cwV 2 hq (gV ml_T_63 im_W_timesPlus se_W_timesPlus in_W m_W_timesPlus) rfl rfl rfl (by decide +kernel) ⟨Nat.le_of_ble_eq_true rfl, Nat.le_of_ble_eq_true rfl⟩) (pw_preWa hw (by omega) ((ww).a)) rfl rfl hl.1 rfl (lv_room (Nat.le_of_ble_eq_true rfl)) d_T_tell_64 ⟨Nat.le_of_ble_eq_true rfl, Nat.le_of_ble_eq_true rfl⟩) (fun F64 H locs q64 hw => ?_)
              obtain ⟨ww, hf64⟩ := q64
              have hT_at_64 : F64 (96) = .inr (2, [.ref (ad (97)), .int (iI ((n : Int)))]) := (hf64 (96) (by omega) (by omega)).trans hT
              have hC_at_64 : F64 (97) = .inl (ty 1, 1400, .inl (g)) := (hf64 (97) (by omega) (by omega)).trans hC
              refine lv_aload_n hx hb d_T_tell_67 rfl (lv_at hl 6 rfl) ?_
              refine pw_calli hw (va_runV (As := []) (rest := []) ⟨hx, hb, hml, hown, hq⟩ (c_W_isSmallEnough l D ty ad M F64 H.size (w) 136 (10 ^ (ex + 1) * v + (dg * 10 + (tx i - 48))) (by omega) (by omega) ww) (cwV 0 hq (gV ml_T_66 im_W_isSmallEnough se_W_isSmallEnough in_W m_W_isSmallEnough) rfl rfl rfl (by decide +kernel) ⟨Nat.le_of_ble_eq_true rfl, Nat.le_of_ble_eq_true rfl⟩) (pw_preWa hw (by omega) ((ww).a)) rfl rfl hl.1 rfl (lv_room (Nat.le_of_ble_eq_true rfl)) d_T_tell_68 ⟨Nat.le_of_ble_eq_true rfl, Nat.le_of_ble_eq_true rfl⟩) (fun r68 F68 H locs q68 hw => ?_)
              obtain ⟨er68, eF68⟩ := q68
              rw [eF68] at hw
              clear eF68
              subst er68
              refine wz_if_ne (tgt := 76) hx hb d_T_tell_71 (by decide) (by split <;> omega) (by split <;> omega) (fun c71 => ?_) (fun c71 => ?_)
              · have hs9 : sm (10 ^ (ex + 1) * v + (dg * 10 + (tx i - 48))) := (ite_nz (P := 10 ^ (ex + 1) * v + (dg * 10 + (tx i - 48)) < 2 ^ 2048)).mp c71
                refine wz_iconst (n := 0) hx hb d_T_tell_76 ?_
                refine lv_istore (lv' := [(4, .int (iI (0))), (5, .int (iI (((10 ^ (ex + 1) : Nat) : Int)))), (6, .int (iI ((i : Int)))), (0, .ref (ad (96))), (1, .int (iI ((i0 : Int)))), (2, .int (iI ((i1 : Int)))), (3, .ref (ad (w)))]) hx hb d_T_tell_77 hl (by decide) rfl (fun ls hl => ?_)
                refine wz_iconst (n := 1) hx hb d_T_tell_79 ?_
                refine lv_istore (lv' := [(5, .int (iI (1))), (4, .int (iI (0))), (6, .int (iI ((i : Int)))), (0, .ref (ad (96))), (1, .int (iI ((i0 : Int)))), (2, .int (iI ((i1 : Int)))), (3, .ref (ad (w)))]) hx hb d_T_tell_80 hl (by decide) rfl (fun ls hl => ?_)
                refine wz_iinc (z := (i : Int) + 1) (lv' := [(6, .int (iI ((i : Int) + 1))), (5, .int (iI (1))), (4, .int (iI (0))), (0, .ref (ad (96))), (1, .int (iI ((i0 : Int)))), (2, .int (iI ((i1 : Int)))), (3, .ref (ad (w)))]) hx hb d_T_tell_82 hl (k := 2) rfl (rfl) (by decide) rfl (fun ls hl => ?_)
                refine lv_goto (tgt := 14) hx hb d_T_tell_85 (by decide) ?_
                exact ih14 (i + 1) 0 (10 ^ (ex + 1) * v + (dg * 10 + (tx i - 48))) 0 _ _ _ ls (by omega) (by omega) (by omega) (by simp) (by rw [hv9]; simp) (hs9) (fun _ => rfl) (fun y9 h1 h2 => (hf64 (y9) (by omega) (by omega)).trans (hfr y9 h1 h2)) hT_at_64 hC_at_64 ww hw hl
              · have hs9 : ¬ sm (10 ^ (ex + 1) * v + (dg * 10 + (tx i - 48))) := (ite_z (P := 10 ^ (ex + 1) * v + (dg * 10 + (tx i - 48)) < 2 ^ 2048)).mp c71
                rw [hv9] at hs9
                have hs8 : ¬ sm (dval tx i0 (i1 - i0)) := fun h9 => hs9 (h9.le (dval_le tx i0 (by omega)))
                refine wz_iconst (n := 0) hx hb d_T_tell_74 ?_
                rw [← hQ]
                exact pw_zret hx hb hr (by decide) hlocks hw (⟨fun h9 => absurd h9 hs8, fun _ => rfl, (ww).a, fun y9 h1 h2 => (hf64 (y9) (by omega) (by omega)).trans (hfr y9 h1 h2)⟩) d_T_tell_75
    exact K14 _ i0 0 0 0 _ _ _ ls (Nat.lt_succ_self _) (by omega) (by omega) (by simp) (by simp [dval]) (sm_0) (fun _ => rfl) (fun y9 h1 h2 => show F2 (y9) = F (y9) from by rw [eF2]; exact va_up_ne _ _ (by omega)) hT_at_2 hC_at_2 ww hw hl
  rw [hH, hlo] at hgo
  exact hgo
set_option maxHeartbeats 4000000 in
set_option maxRecDepth 100000 in
/-- Text.put(ch) -/
theorem c_T_put (l : Launch) (D : va_G) (ty : Nat → ClassId) (ad : Nat → Nat) (M : Nat) (F : Nat → va_E) (sz : Nat) (hM : 97 < M) (n : Nat) (tx : Nat → Nat) (hTx : Tx ty ad F n tx) (ch : Nat) (hn1 : n < 1400) (hch : ch < 128) :
    CV l y_T_put w_T_put ({ frames := 0, cells := 0, slots := 0, locals := 0 } : Room) [.ref (ad (96)), .int (iI ((ch : Int)))] D ty ad M F sz (fun F1 => Tx ty ad F1 (n + 1) (txp tx n ch) ∧ frT F F1) := by
  refine Met.ofW (cc := b_T_put) (maxL := 2) (ret := none) (by decide) rfl ?_
  intro p e s m args below meth c s₁ B hml hv
  obtain ⟨rfl, hsz, hP, hK, hD0⟩ := hv
  have hx := B.exec
  have hb := B.bytes
  have hr := B.returns
  have hts := atoms_spec (ws := w_T_put) B.pre
  have hq : ∀ w ∈ wT, w.before _ s = true := fun w h => hts w (List.mem_cons_of_mem _ h)
  have hown : s.vm.findClass R_T = some m.cls := findClass_of_methodNamed B.named
  have hlocks := B.notSynchronized
  subst hsz
  have hw := pw_start hP hK hD0
  have hl := lv_entry ([.ref (ad (96)), .int (iI ((ch : Int)))]) (n := 2) (Nat.le_of_ble_eq_true rfl)
  rw [lg_entry_eq]
  generalize (lg_sl ([.ref (ad (96)), .int (iI ((ch : Int)))]) ++ List.replicate (2 - (lg_sl ([.ref (ad (96)), .int (iI ((ch : Int)))])).length) Slot.unset).toArray = ls at hl ⊢
  have hl : lv_has ls 2 [(0, .ref (ad (96))), (1, .int (iI ((ch : Int))))] := hl
  change W p l e ({ frames := 0, cells := 0, slots := 0, locals := 0 } : Room) s m ([.ref (ad (96)), .int (iI ((ch : Int)))]).toArray below meth c s.heap [] 0 0 (MQ below (va_Qv (fun F1 => Tx ty ad F1 (n + 1) (txp tx n ch) ∧ frT F F1) (pAt D classes (tysL ty) ad M (pA ad M s.heap.size)) (pA ad M s.heap.size)) ([.ref (ad (96)), .int (iI ((ch : Int)))]).toArray s 0 0 (pA ad M s.heap.size)) (F0 m 0 ls [])
  generalize hQ : MQ below (va_Qv (fun F1 => Tx ty ad F1 (n + 1) (txp tx n ch) ∧ frT F F1) (pAt D classes (tysL ty) ad M (pA ad M s.heap.size)) (pA ad M s.heap.size)) ([.ref (ad (96)), .int (iI ((ch : Int)))]).toArray s 0 0 (pA ad M s.heap.size) = Q
  obtain ⟨H, hH⟩ : ∃ H, H = s.heap := ⟨_, rfl⟩
  obtain ⟨locs, hlo⟩ : ∃ z : List Loc, z = [] := ⟨_, rfl⟩
  have hw : pw D classes (tysL ty) ad M F (pA ad M s.heap.size) s H locs := by rw [hH, hlo]; exact hw
  have hgo : W p l e ({ frames := 0, cells := 0, slots := 0, locals := 0 } : Room) s m ([.ref (ad (96)), .int (iI ((ch : Int)))]).toArray below meth c H locs 0 0 Q (F0 m 0 ls []) := by
    obtain ⟨hT, g, hC, hn, hg, hlt⟩ := hTx
    refine lv_aload_n hx hb d_T_put_0 rfl (lv_at hl 0 rfl) ?_
    refine pw_get (ci := 2) (C := R_T) (T := T_T) (N := 2) hx hb hq i_T hown hw (by omega) hT rfl 1 (by decide) (hq _ fl_T_15) (fun _ h9 => h9) rfl d_T_put_1 ?_
    refine lv_aload_n hx hb d_T_put_4 rfl (lv_at hl 0 rfl) ?_
    refine pw_get (ci := 2) (C := R_T) (T := T_T) (N := 2) hx hb hq i_T hown hw (by omega) hT rfl 0 (by decide) (hq _ fl_T_9) (fun _ h9 => h9) rfl d_T_put_5 ?_
    refine pw_alen (v := iI ((1400 : Nat) : Int)) hx hb hw 1 (by omega) hC rfl (iI_nat _).symm d_T_put_8 ?_
    refine wz_icmp_ge (tgt := 32) hx hb d_T_put_9 (by decide) (by omega) (by omega) (by omega) (by omega) (fun c9 => ?_) (fun c9 => ?_)
    · exact absurd c9 (by omega)
    · refine lv_aload_n hx hb d_T_put_12 rfl (lv_at hl 0 rfl) ?_
      refine pw_get (ci := 2) (C := R_T) (T := T_T) (N := 2) hx hb hq i_T hown hw (by omega) hT rfl 0 (by decide) (hq _ fl_T_9) (fun _ h9 => h9) rfl d_T_put_13 ?_
      refine lv_aload_n hx hb d_T_put_16 rfl (lv_at hl 0 rfl) ?_
      refine pw_get (ci := 2) (C := R_T) (T := T_T) (N := 2) hx hb hq i_T hown hw (by omega) hT rfl 1 (by decide) (hq _ fl_T_15) (fun _ h9 => h9) rfl d_T_put_17 ?_
      refine lv_iload_n hx hb d_T_put_20 rfl (lv_at hl 1 rfl) ?_
      refine pw_cast (k := n) hx hb hw 1 (by omega) hC rfl (iI_in (by omega) (by omega) (by omega)) ((iI_cl (by omega) (by omega)).trans (by omega)) (y := iI ((ch : Int))) (nar_ch (by omega)) d_T_put_21 (fun F21 H locs eF21 hw => ?_)
      obtain ⟨g1, eg1⟩ : ∃ z, z = upd g (n) (iI ((ch : Int))) := ⟨_, rfl⟩
      rw [← eg1] at eF21
      have m21_97 : F21 (97) = .inl (ty 1, 1400, .inl (g1)) := by rw [eF21]; exact va_up_self ..
      have hT_at_21 : F21 (96) = .inr (2, [.ref (ad (97)), .int (iI ((n : Int)))]) := (show F21 (96) = F (96) from by rw [eF21]; exact va_up_ne _ _ (by omega)).trans hT
      refine lv_aload_n hx hb d_T_put_22 rfl (lv_at hl 0 rfl) ?_
      refine lv_dup hx hb d_T_put_23 rfl ?_
      refine pw_get (ci := 2) (C := R_T) (T := T_T) (N := 2) hx hb hq i_T hown hw (by omega) hT_at_21 rfl 1 (by decide) (hq _ fl_T_15) (fun _ h9 => h9) rfl d_T_put_24 ?_
      refine wz_iconst (n := 1) hx hb d_T_put_27 ?_
      refine wz_iadd (z := ((n + 1 : Nat) : Int)) hx hb d_T_put_28 (by omega) ?_
      refine pw_put (ci := 2) (C := R_T) (T := T_T) (N := 2) (ty := .int) (fs' := [.ref (ad (97)), .int (iI (((n + 1 : Nat) : Int)))]) hx hb hq i_T ft_T ft_T_ok n_T hown hw (by omega) hT_at_21 rfl 1 (by decide) (hq _ fl_T_15) (fun _ h9 => h9) rfl (by decide +kernel) rfl rfl (Nat.le_of_ble_eq_true rfl) rfl d_T_put_29 (fun F29 H locs eF29 hw => ?_)
      have m29_96 : F29 (96) = .inr (2, [.ref (ad (97)), .int (iI (((n + 1 : Nat) : Int)))]) := by rw [eF29]; exact va_up_self ..
      have m21_97_at_29 : F29 (97) = .inl (ty 1, 1400, .inl (g1)) := (show F29 (97) = F21 (97) from by rw [eF29]; exact va_up_ne _ _ (by omega)).trans m21_97
      rw [← hQ]
      exact pw_vret hx hb hr hlocks hw (⟨⟨m29_96, g1, m21_97_at_29, by omega, fun i hi => by
        by_cases h9 : i = n
        · rw [h9, txp_s, eg1, pk_us]
        · rw [txp_n h9, eg1, pk_un h9]; exact hg i (by omega), fun i hi => by
        by_cases h9 : i = n
        · rw [h9, txp_s]; exact hch
        · rw [txp_n h9]; exact hlt i (by omega)⟩, fun y9 h1 h2 => (show F29 (y9) = F21 (y9) from by rw [eF29]; exact va_up_ne _ _ (by omega)).trans (show F21 (y9) = F (y9) from by rw [eF21]; exact va_up_ne _ _ (by omega))⟩) d_T_put_32
  rw [hH, hlo] at hgo
  exact hgo
set_option maxHeartbeats 4000000 in
set_option maxRecDepth 100000 in
/-- Text.putNineBackwards(d) -/
theorem c_T_putNineBackwards (l : Launch) (D : va_G) (ty : Nat → ClassId) (ad : Nat → Nat) (M : Nat) (F : Nat → va_E) (sz : Nat) (hM : 97 < M) (n : Nat) (tx : Nat → Nat) (hTx : Tx ty ad F n tx) (d : Nat) (hd : d < 1000000000) (hn9 : n + 9 ≤ 1400) :
    CV l y_T_putNineBackwards w_T_putNineBackwards ({ frames := 1, cells := 0, slots := 0, locals := 21 } : Room) [.ref (ad (96)), .int (iI ((d : Int)))] D ty ad M F sz (fun F1 => (∃ tz, Tx ty ad F1 (n + 9) tz ∧ (∀ j, j < n → tz j = tx j) ∧ ∀ j, j < 9 → tz (n + j) = 48 + d / 10 ^ j % 10) ∧ frT F F1) := by
  refine Met.ofW (cc := b_T_putNineBackwards) (maxL := 4) (ret := none) (by decide) rfl ?_
  intro p e s m args below meth c s₁ B hml hv
  obtain ⟨rfl, hsz, hP, hK, hD0⟩ := hv
  have hx := B.exec
  have hb := B.bytes
  have hr := B.returns
  have hts := atoms_spec (ws := w_T_putNineBackwards) B.pre
  have hq : ∀ w ∈ wT, w.before _ s = true := fun w h => hts w (List.mem_cons_of_mem _ h)
  have hown : s.vm.findClass R_T = some m.cls := findClass_of_methodNamed B.named
  have hlocks := B.notSynchronized
  subst hsz
  have hw := pw_start hP hK hD0
  have hl := lv_entry ([.ref (ad (96)), .int (iI ((d : Int)))]) (n := 4) (Nat.le_of_ble_eq_true rfl)
  rw [lg_entry_eq]
  generalize (lg_sl ([.ref (ad (96)), .int (iI ((d : Int)))]) ++ List.replicate (4 - (lg_sl ([.ref (ad (96)), .int (iI ((d : Int)))])).length) Slot.unset).toArray = ls at hl ⊢
  have hl : lv_has ls 4 [(0, .ref (ad (96))), (1, .int (iI ((d : Int))))] := hl
  change W p l e ({ frames := 1, cells := 0, slots := 0, locals := 21 } : Room) s m ([.ref (ad (96)), .int (iI ((d : Int)))]).toArray below meth c s.heap [] 0 0 (MQ below (va_Qv (fun F1 => (∃ tz, Tx ty ad F1 (n + 9) tz ∧ (∀ j, j < n → tz j = tx j) ∧ ∀ j, j < 9 → tz (n + j) = 48 + d / 10 ^ j % 10) ∧ frT F F1) (pAt D classes (tysL ty) ad M (pA ad M s.heap.size)) (pA ad M s.heap.size)) ([.ref (ad (96)), .int (iI ((d : Int)))]).toArray s 0 0 (pA ad M s.heap.size)) (F0 m 0 ls [])
  generalize hQ : MQ below (va_Qv (fun F1 => (∃ tz, Tx ty ad F1 (n + 9) tz ∧ (∀ j, j < n → tz j = tx j) ∧ ∀ j, j < 9 → tz (n + j) = 48 + d / 10 ^ j % 10) ∧ frT F F1) (pAt D classes (tysL ty) ad M (pA ad M s.heap.size)) (pA ad M s.heap.size)) ([.ref (ad (96)), .int (iI ((d : Int)))]).toArray s 0 0 (pA ad M s.heap.size) = Q
  obtain ⟨H, hH⟩ : ∃ H, H = s.heap := ⟨_, rfl⟩
  obtain ⟨locs, hlo⟩ : ∃ z : List Loc, z = [] := ⟨_, rfl⟩
  have hw : pw D classes (tysL ty) ad M F (pA ad M s.heap.size) s H locs := by rw [hH, hlo]; exact hw
  have hgo : W p l e ({ frames := 1, cells := 0, slots := 0, locals := 21 } : Room) s m ([.ref (ad (96)), .int (iI ((d : Int)))]).toArray below meth c H locs 0 0 Q (F0 m 0 ls []) := by
    refine lv_iload_n hx hb d_T_putNineBackwards_0 rfl (lv_at hl 1 rfl) ?_
    refine lv_istore_n (lv' := [(2, .int (iI ((d : Int)))), (0, .ref (ad (96))), (1, .int (iI ((d : Int))))]) hx hb d_T_putNineBackwards_1 rfl hl (by decide) rfl (fun ls hl => ?_)
    rw [show (d : Int) = ((d / 10 ^ 0 : Nat) : Int) by simp] at hl
    refine wz_iconst (n := 0) hx hb d_T_putNineBackwards_2 ?_
    refine lv_istore_n (lv' := [(3, .int (iI (0))), (2, .int (iI (((d / 10 ^ 0 : Nat) : Int)))), (0, .ref (ad (96))), (1, .int (iI (((d / 10 ^ 0 : Nat) : Int))))]) hx hb d_T_putNineBackwards_3 rfl hl (by decide) rfl (fun ls hl => ?_)
    have K4 : ∀ (fuel : Nat) (i : Nat) (tz : Nat → Nat) (F4 : Nat → va_E) (H : Heap) (locs : List Loc) (ls : Array Slot), 9 - i < fuel → (i ≤ 9) → (∀ j, j < n → tz j = tx j) → (∀ j, j < i → tz (n + j) = 48 + d / 10 ^ j % 10) → (∀ y, y ≠ 96 → y ≠ 97 → F4 y = F y) → Tx ty ad F4 (n + i) (tz) → pw D classes (tysL ty) ad M F4 (pA ad M s.heap.size) s H locs → lv_has ls 4 [(3, .int (iI ((i : Int)))), (2, .int (iI (((d / 10 ^ i : Nat) : Int)))), (0, .ref (ad (96)))] → W p l e ({ frames := 1, cells := 0, slots := 0, locals := 21 } : Room) s m ([.ref (ad (96)), .int (iI ((d : Int)))]).toArray below meth c H locs 0 0 Q (F0 m 4 ls []) := by
      intro fuel
      induction fuel with
      | zero => intro i tz F4 H locs ls hfuel hi hz1 hz2 hfr hTz hw hl; exact absurd hfuel (Nat.not_lt_zero _)
      | succ fuel ih4 =>
        intro i tz F4 H locs ls hfuel hi hz1 hz2 hfr hTz hw hl
        refine lv_iload_n hx hb d_T_putNineBackwards_4 rfl (lv_at hl 0 rfl) ?_
        refine wz_bipush (n := 9) hx hb d_T_putNineBackwards_5 (by decide) ?_
        refine wz_icmp_ge (tgt := 33) hx hb d_T_putNineBackwards_7 (by decide) (by omega) (by omega) (by omega) (by omega) (fun c7 => ?_) (fun c7 => ?_)
        · rw [← hQ]
          exact pw_vret hx hb hr hlocks hw (⟨⟨tz, by rw [show n + 9 = n + i by omega]; exact hTz, hz1, fun j hj => hz2 j (by omega)⟩, hfr⟩) d_T_putNineBackwards_33
        · have hdl : d / 10 ^ i ≤ d := Nat.div_le_self _ _
          have hm9 : d / 10 ^ i % 10 < 10 := Nat.mod_lt _ (by decide)
          refine lv_aload_n hx hb d_T_putNineBackwards_10 rfl (lv_at hl 2 rfl) ?_
          refine wz_bipush (n := 48) hx hb d_T_putNineBackwards_11 (by decide) ?_
          refine lv_iload_n hx hb d_T_putNineBackwards_13 rfl (lv_at hl 1 rfl) ?_
          refine wz_bipush (n := 10) hx hb d_T_putNineBackwards_14 (by decide) ?_
          refine wz_irem (a := d / 10 ^ i) (b := 10) (z := d / 10 ^ i % 10) hx hb d_T_putNineBackwards_16 (by omega) (by omega) (by omega) (rfl) ?_
          refine wz_iadd (z := ((48 + d / 10 ^ i % 10 : Nat) : Int)) hx hb d_T_putNineBackwards_17 (by omega) ?_
          refine lv_i2c (v := iI (((48 + d / 10 ^ i % 10 : Nat) : Int))) hx hb d_T_putNineBackwards_18 (i2c_ch (by omega)) ?_
          refine pw_callv hw (va_runV (As := [.int (iI (((48 + d / 10 ^ i % 10 : Nat) : Int)))]) (rest := []) ⟨hx, hb, hml, hown, hq⟩ (c_T_put l D ty ad M F4 H.size hM (n + i) (tz) hTz (48 + d / 10 ^ i % 10) (by omega) (by omega)) (cwV 1 hq (gV ml_T_34 im_T_put se_T_put in_T m_T_put) rfl rfl rfl (by decide +kernel) ⟨Nat.le_of_ble_eq_true rfl, Nat.le_of_ble_eq_true rfl⟩) (pw_preT hw (by omega) hTz) rfl rfl hl.1 rfl (lv_room (Nat.le_of_ble_eq_true rfl)) d_T_putNineBackwards_19 ⟨Nat.le_of_ble_eq_true rfl, Nat.le_of_ble_eq_true rfl⟩) (fun F19 H locs q19 hw => ?_)
          obtain ⟨hTz, hf19⟩ := q19
          refine lv_iload_n hx hb d_T_putNineBackwards_22 rfl (lv_at hl 1 rfl) ?_
          refine wz_bipush (n := 10) hx hb d_T_putNineBackwards_23 (by decide) ?_
          refine wz_idiv (a := d / 10 ^ i) (b := 10) (z := d / 10 ^ (i + 1)) hx hb d_T_putNineBackwards_25 (by omega) (by omega) (by omega) (by rw [Nat.pow_succ, Nat.div_div_eq_div_mul]) ?_
          refine lv_istore_n (lv' := [(2, .int (iI (((d / 10 ^ (i + 1) : Nat) : Int)))), (3, .int (iI ((i : Int)))), (0, .ref (ad (96)))]) hx hb d_T_putNineBackwards_26 rfl hl (by decide) rfl (fun ls hl => ?_)
          refine wz_iinc (z := ((i + 1 : Nat) : Int)) (lv' := [(3, .int (iI (((i + 1 : Nat) : Int)))), (2, .int (iI (((d / 10 ^ (i + 1) : Nat) : Int)))), (0, .ref (ad (96)))]) hx hb d_T_putNineBackwards_27 hl (k := 1) rfl (by omega) (by decide) rfl (fun ls hl => ?_)
          refine lv_goto (tgt := 4) hx hb d_T_putNineBackwards_30 (by decide) ?_
          exact ih4 (i + 1) (txp tz (n + i) (48 + d / 10 ^ i % 10)) _ _ _ ls (by omega) (by omega) (fun j hj => by rw [txp_n (by omega)]; exact hz1 j hj) (fun j hj => by
            by_cases h9 : j = i
            · rw [h9, txp_s]
            · rw [txp_n (by omega)]; exact hz2 j (by omega)) (fun y9 h1 h2 => (hf19 (y9) (by omega) (by omega)).trans (hfr y9 h1 h2)) (hTz) hw hl
    exact K4 _ 0 tx _ _ _ ls (Nat.lt_succ_self _) (by omega) (fun j hj => rfl) (fun j hj => absurd hj (by omega)) (fun y9 _ _ => rfl) (hTx) hw (lv_sub hl [0, 1, 2] rfl)
  rw [hH, hlo] at hgo
  exact hgo
set_option maxHeartbeats 4000000 in
set_option maxRecDepth 100000 in
/-- Text.turnRound(first, last) -/
theorem c_T_turnRound (l : Launch) (D : va_G) (ty : Nat → ClassId) (ad : Nat → Nat) (M : Nat) (F : Nat → va_E) (sz : Nat) (hM : 97 < M) (n : Nat) (tx : Nat → Nat) (hTx : Tx ty ad F n tx) (f0 l0 : Nat) (hfl : f0 ≤ l0) (hln : l0 < n) :
    CV l y_T_turnRound w_T_turnRound ({ frames := 0, cells := 0, slots := 0, locals := 0 } : Room) [.ref (ad (96)), .int (iI ((f0 : Int))), .int (iI ((l0 : Int)))] D ty ad M F sz (fun F1 => (∃ tz, Tx ty ad F1 n tz ∧ ∀ k, k < n → tz k = if f0 ≤ k ∧ k ≤ l0 then tx (f0 + l0 - k) else tx k) ∧ frT F F1) := by
  refine Met.ofW (cc := b_T_turnRound) (maxL := 6) (ret := none) (by decide) rfl ?_
  intro p e s m args below meth c s₁ B hml hv
  obtain ⟨rfl, hsz, hP, hK, hD0⟩ := hv
  have hx := B.exec
  have hb := B.bytes
  have hr := B.returns
  have hts := atoms_spec (ws := w_T_turnRound) B.pre
  have hq : ∀ w ∈ wT, w.before _ s = true := fun w h => hts w (List.mem_cons_of_mem _ h)
  have hown : s.vm.findClass R_T = some m.cls := findClass_of_methodNamed B.named
  have hlocks := B.notSynchronized
  subst hsz
  have hw := pw_start hP hK hD0
  have hl := lv_entry ([.ref (ad (96)), .int (iI ((f0 : Int))), .int (iI ((l0 : Int)))]) (n := 6) (Nat.le_of_ble_eq_true rfl)
  rw [lg_entry_eq]
  generalize (lg_sl ([.ref (ad (96)), .int (iI ((f0 : Int))), .int (iI ((l0 : Int)))]) ++ List.replicate (6 - (lg_sl ([.ref (ad (96)), .int (iI ((f0 : Int))), .int (iI ((l0 : Int)))])).length) Slot.unset).toArray = ls at hl ⊢
  have hl : lv_has ls 6 [(0, .ref (ad (96))), (1, .int (iI ((f0 : Int)))), (2, .int (iI ((l0 : Int))))] := hl
  change W p l e ({ frames := 0, cells := 0, slots := 0, locals := 0 } : Room) s m ([.ref (ad (96)), .int (iI ((f0 : Int))), .int (iI ((l0 : Int)))]).toArray below meth c s.heap [] 0 0 (MQ below (va_Qv (fun F1 => (∃ tz, Tx ty ad F1 n tz ∧ ∀ k, k < n → tz k = if f0 ≤ k ∧ k ≤ l0 then tx (f0 + l0 - k) else tx k) ∧ frT F F1) (pAt D classes (tysL ty) ad M (pA ad M s.heap.size)) (pA ad M s.heap.size)) ([.ref (ad (96)), .int (iI ((f0 : Int))), .int (iI ((l0 : Int)))]).toArray s 0 0 (pA ad M s.heap.size)) (F0 m 0 ls [])
  generalize hQ : MQ below (va_Qv (fun F1 => (∃ tz, Tx ty ad F1 n tz ∧ ∀ k, k < n → tz k = if f0 ≤ k ∧ k ≤ l0 then tx (f0 + l0 - k) else tx k) ∧ frT F F1) (pAt D classes (tysL ty) ad M (pA ad M s.heap.size)) (pA ad M s.heap.size)) ([.ref (ad (96)), .int (iI ((f0 : Int))), .int (iI ((l0 : Int)))]).toArray s 0 0 (pA ad M s.heap.size) = Q
  obtain ⟨H, hH⟩ : ∃ H, H = s.heap := ⟨_, rfl⟩
  obtain ⟨locs, hlo⟩ : ∃ z : List Loc, z = [] := ⟨_, rfl⟩
  have hw : pw D classes (tysL ty) ad M F (pA ad M s.heap.size) s H locs := by rw [hH, hlo]; exact hw
  have hgo : W p l e ({ frames := 0, cells := 0, slots := 0, locals := 0 } : Room) s m ([.ref (ad (96)), .int (iI ((f0 : Int))), .int (iI ((l0 : Int)))]).toArray below meth c H locs 0 0 Q (F0 m 0 ls []) := by
    obtain ⟨hT, g, hC, hn, hg, hlt⟩ := hTx
    refine lv_iload_n hx hb d_T_turnRound_0 rfl (lv_at hl 1 rfl) ?_
    refine wz_if_lt (tgt := 13) hx hb d_T_turnRound_1 (by decide) (by omega) (by omega) (fun c1 => ?_) (fun c1 => ?_)
    · exact absurd c1 (by omega)
    · refine lv_iload_n hx hb d_T_turnRound_4 rfl (lv_at hl 2 rfl) ?_
      refine lv_aload_n hx hb d_T_turnRound_5 rfl (lv_at hl 0 rfl) ?_
      refine pw_get (ci := 2) (C := R_T) (T := T_T) (N := 2) hx hb hq i_T hown hw (by omega) hT rfl 0 (by decide) (hq _ fl_T_9) (fun _ h9 => h9) rfl d_T_turnRound_6 ?_
      refine pw_alen (v := iI ((1400 : Nat) : Int)) hx hb hw 1 (by omega) hC rfl (iI_nat _).symm d_T_turnRound_9 ?_
      refine wz_icmp_lt (tgt := 14) hx hb d_T_turnRound_10 (by decide) (by omega) (by omega) (by omega) (by omega) (fun c10 => ?_) (fun c10 => ?_)
      · refine lv_iload_n hx hb d_T_turnRound_14 rfl (lv_at hl 1 rfl) ?_
        refine lv_istore_n (lv' := [(3, .int (iI ((f0 : Int)))), (0, .ref (ad (96))), (1, .int (iI ((f0 : Int)))), (2, .int (iI ((l0 : Int))))]) hx hb d_T_turnRound_15 rfl hl (by decide) rfl (fun ls hl => ?_)
        refine lv_iload_n hx hb d_T_turnRound_16 rfl (lv_at hl 3 rfl) ?_
        refine lv_istore (lv' := [(4, .int (iI ((l0 : Int)))), (3, .int (iI ((f0 : Int)))), (0, .ref (ad (96))), (1, .int (iI ((f0 : Int)))), (2, .int (iI ((l0 : Int))))]) hx hb d_T_turnRound_17 hl (by decide) rfl (fun ls hl => ?_)
        have K19 : ∀ (fuel : Nat) (i j : Nat) (gx : Nat → Int32) (tz : Nat → Nat) (F19 : Nat → va_E) (H : Heap) (locs : List Loc) (ls : Array Slot), j < fuel → (i + j = f0 + l0 ∧ f0 ≤ i ∧ j ≤ l0 ∧ i ≤ j + 1) → (∀ k, k < n → gx k = iI (tz k)) → (∀ k, k < n → tz k < 128) → (∀ k, k < n → tz k = if (f0 ≤ k ∧ k < i) ∨ (j < k ∧ k ≤ l0) then tx (f0 + l0 - k) else tx k) → (∀ y, y ≠ 96 → y ≠ 97 → F19 y = F y) → F19 (96) = .inr (2, [.ref (ad (97)), .int (iI ((n : Int)))]) → F19 (97) = .inl (ty 1, 1400, .inl (gx)) → pw D classes (tysL ty) ad M F19 (pA ad M s.heap.size) s H locs → lv_has ls 6 [(3, .int (iI ((i : Int)))), (4, .int (iI ((j : Int)))), (0, .ref (ad (96))), (1, .int (iI ((f0 : Int)))), (2, .int (iI ((l0 : Int))))] → W p l e ({ frames := 0, cells := 0, slots := 0, locals := 0 } : Room) s m ([.ref (ad (96)), .int (iI ((f0 : Int))), .int (iI ((l0 : Int)))]).toArray below meth c H locs 0 0 Q (F0 m 19 ls []) := by
          intro fuel
          induction fuel with
          | zero => intro i j gx tz F19 H locs ls hfuel hij hgx hlz hrev hfr hT hC hw hl; exact absurd hfuel (Nat.not_lt_zero _)
          | succ fuel ih19 =>
            intro i j gx tz F19 H locs ls hfuel hij hgx hlz hrev hfr hT hC hw hl
            refine lv_iload_n hx hb d_T_turnRound_19 rfl (lv_at hl 0 rfl) ?_
            refine lv_iload hx hb d_T_turnRound_20 (lv_at hl 1 rfl) ?_
            refine wz_icmp_ge (tgt := 64) hx hb d_T_turnRound_22 (by decide) (by omega) (by omega) (by omega) (by omega) (fun c22 => ?_) (fun c22 => ?_)
            · rw [← hQ]
              exact pw_vret hx hb hr hlocks hw (⟨⟨tz, ⟨hT, gx, hC, hn, hgx, hlz⟩, fun k hk => by
                rw [hrev k hk]
                by_cases h7 : (f0 ≤ k ∧ k < i) ∨ (j < k ∧ k ≤ l0)
                · rw [if_pos h7, if_pos (by omega)]
                · rw [if_neg h7]
                  by_cases h8 : f0 ≤ k ∧ k ≤ l0
                  · rw [if_pos h8]; congr 1; omega
                  · rw [if_neg h8]⟩, hfr⟩) d_T_turnRound_64
            · have hli := hlz i (by omega)
              have hlj := hlz j (by omega)
              refine lv_aload_n hx hb d_T_turnRound_25 rfl (lv_at hl 2 rfl) ?_
              refine pw_get (ci := 2) (C := R_T) (T := T_T) (N := 2) hx hb hq i_T hown hw (by omega) hT rfl 0 (by decide) (hq _ fl_T_9) (fun _ h9 => h9) rfl d_T_turnRound_26 ?_
              refine lv_iload_n hx hb d_T_turnRound_29 rfl (lv_at hl 0 rfl) ?_
              refine pw_cald (k := i) hx hb hw 1 (by omega) hC rfl (iI_in (by omega) (by omega) (by omega)) ((iI_cl (by omega) (by omega)).trans (by omega)) d_T_turnRound_30 ?_
              refine lv_topi (fun x30 ex30 => ?_)
              obtain rfl : x30 = iI ((tz i : Int)) := ex30.trans (hgx i (by omega))
              refine lv_istore (lv' := [(5, .int (iI ((tz i : Int)))), (3, .int (iI ((i : Int)))), (4, .int (iI ((j : Int)))), (0, .ref (ad (96))), (1, .int (iI ((f0 : Int)))), (2, .int (iI ((l0 : Int))))]) hx hb d_T_turnRound_31 hl (by decide) rfl (fun ls hl => ?_)
              refine lv_aload_n hx hb d_T_turnRound_33 rfl (lv_at hl 3 rfl) ?_
              refine pw_get (ci := 2) (C := R_T) (T := T_T) (N := 2) hx hb hq i_T hown hw (by omega) hT rfl 0 (by decide) (hq _ fl_T_9) (fun _ h9 => h9) rfl d_T_turnRound_34 ?_
              refine lv_iload_n hx hb d_T_turnRound_37 rfl (lv_at hl 1 rfl) ?_
              refine lv_aload_n hx hb d_T_turnRound_38 rfl (lv_at hl 3 rfl) ?_
              refine pw_get (ci := 2) (C := R_T) (T := T_T) (N := 2) hx hb hq i_T hown hw (by omega) hT rfl 0 (by decide) (hq _ fl_T_9) (fun _ h9 => h9) rfl d_T_turnRound_39 ?_
              refine lv_iload hx hb d_T_turnRound_42 (lv_at hl 2 rfl) ?_
              refine pw_cald (k := j) hx hb hw 1 (by omega) hC rfl (iI_in (by omega) (by omega) (by omega)) ((iI_cl (by omega) (by omega)).trans (by omega)) d_T_turnRound_44 ?_
              refine lv_topi (fun x44 ex44 => ?_)
              obtain rfl : x44 = iI ((tz j : Int)) := ex44.trans (hgx j (by omega))
              refine pw_cast (k := i) hx hb hw 1 (by omega) hC rfl (iI_in (by omega) (by omega) (by omega)) ((iI_cl (by omega) (by omega)).trans (by omega)) (y := iI ((tz j : Int))) (nar_ch (by omega)) d_T_turnRound_45 (fun F45 H locs eF45 hw => ?_)
              obtain ⟨gy, egy⟩ : ∃ z, z = upd gx (i) (iI ((tz j : Int))) := ⟨_, rfl⟩
              rw [← egy] at eF45
              have m45_97 : F45 (97) = .inl (ty 1, 1400, .inl (gy)) := by rw [eF45]; exact va_up_self ..
              have hT_at_45 : F45 (96) = .inr (2, [.ref (ad (97)), .int (iI ((n : Int)))]) := (show F45 (96) = F19 (96) from by rw [eF45]; exact va_up_ne _ _ (by omega)).trans hT
              refine lv_aload_n hx hb d_T_turnRound_46 rfl (lv_at hl 3 rfl) ?_
              refine pw_get (ci := 2) (C := R_T) (T := T_T) (N := 2) hx hb hq i_T hown hw (by omega) hT_at_45 rfl 0 (by decide) (hq _ fl_T_9) (fun _ h9 => h9) rfl d_T_turnRound_47 ?_
              refine lv_iload hx hb d_T_turnRound_50 (lv_at hl 2 rfl) ?_
              refine lv_iload hx hb d_T_turnRound_52 (lv_at hl 0 rfl) ?_
              refine pw_cast (k := j) hx hb hw 1 (by omega) m45_97 rfl (iI_in (by omega) (by omega) (by omega)) ((iI_cl (by omega) (by omega)).trans (by omega)) (y := iI ((tz i : Int))) (nar_ch (by omega)) d_T_turnRound_54 (fun F54 H locs eF54 hw => ?_)
              obtain ⟨gz, egz⟩ : ∃ z, z = upd gy (j) (iI ((tz i : Int))) := ⟨_, rfl⟩
              rw [← egz] at eF54
              have m54_97 : F54 (97) = .inl (ty 1, 1400, .inl (gz)) := by rw [eF54]; exact va_up_self ..
              have hT_at_54 : F54 (96) = .inr (2, [.ref (ad (97)), .int (iI ((n : Int)))]) := (show F54 (96) = F45 (96) from by rw [eF54]; exact va_up_ne _ _ (by omega)).trans hT_at_45
              refine wz_iinc (z := ((i + 1 : Nat) : Int)) (lv' := [(3, .int (iI (((i + 1 : Nat) : Int)))), (5, .int (iI ((tz i : Int)))), (4, .int (iI ((j : Int)))), (0, .ref (ad (96))), (1, .int (iI ((f0 : Int)))), (2, .int (iI ((l0 : Int))))]) hx hb d_T_turnRound_55 hl (k := 1) rfl (by omega) (by decide) rfl (fun ls hl => ?_)
              refine wz_iinc (z := ((j - 1 : Nat) : Int)) (lv' := [(4, .int (iI (((j - 1 : Nat) : Int)))), (3, .int (iI (((i + 1 : Nat) : Int)))), (5, .int (iI ((tz i : Int)))), (0, .ref (ad (96))), (1, .int (iI ((f0 : Int)))), (2, .int (iI ((l0 : Int))))]) hx hb d_T_turnRound_58 hl (k := 2) rfl (by omega) (by decide) rfl (fun ls hl => ?_)
              refine lv_goto (tgt := 19) hx hb d_T_turnRound_61 (by decide) ?_
              exact ih19 (i + 1) (j - 1) gz (txp (txp tz i (tz j)) j (tz i)) _ _ _ ls (by omega) (by omega) (fun k hk => by
                by_cases h9 : k = j
                · rw [h9, txp_s, egz, pk_us]
                · by_cases h8 : k = i
                  · rw [h8, txp_n (by omega), txp_s, egz, pk_un (by omega), egy, pk_us]
                  · rw [txp_n h9, txp_n h8, egz, pk_un h9, egy, pk_un h8]; exact hgx k hk) (fun k hk => by
                by_cases h9 : k = j
                · rw [h9, txp_s]; exact hlz i (by omega)
                · by_cases h8 : k = i
                  · rw [h8, txp_n (by omega), txp_s]; exact hlz j (by omega)
                  · rw [txp_n h9, txp_n h8]; exact hlz k hk) (fun k hk => by
                by_cases h9 : k = j
                · rw [h9, txp_s, if_pos (by omega), hrev i (by omega), if_neg (by omega)]; congr 1; omega
                · by_cases h8 : k = i
                  · rw [h8, txp_n (by omega), txp_s, if_pos (by omega), hrev j (by omega), if_neg (by omega)]; congr 1; omega
                  · rw [txp_n h9, txp_n h8, hrev k hk]
                    by_cases h7 : (f0 ≤ k ∧ k < i) ∨ (j < k ∧ k ≤ l0)
                    · rw [if_pos h7, if_pos (by omega)]
                    · rw [if_neg h7, if_neg (by omega)]) (fun y9 h1 h2 => ((show F54 (y9) = F45 (y9) from by rw [eF54]; exact va_up_ne _ _ (by omega)).trans (show F45 (y9) = F19 (y9) from by rw [eF45]; exact va_up_ne _ _ (by omega))).trans (hfr y9 h1 h2)) hT_at_54 m54_97 hw (lv_sub hl [1, 0, 3, 4, 5] rfl)
        exact K19 _ f0 l0 g tx _ _ _ ls (Nat.lt_succ_self _) (by omega) (hg) (hlt) (fun k hk => by rw [if_neg (by omega)]) (fun y9 _ _ => rfl) hT hC hw (lv_sub hl [1, 0, 2, 3, 4] rfl)
      · exact absurd c10 (by omega)
  rw [hH, hlo] at hgo
  exact hgo
