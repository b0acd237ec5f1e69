/-! Text.putDecimal, Bench.takeText: by program -/
set_option maxHeartbeats 4000000 in
set_option maxRecDepth 100000 in
/-- Text.putDecimal(number) -/
theorem c_T_putDecimal (l : Launch) (D : va_G) (ty : Nat → ClassId) (ad : Nat → Nat) (M : Nat) (F : Nat → va_E) (sz : Nat) (hM : 97 < M) (n : Nat) (tx : Nat → Nat) (hTx : Tx ty ad F n tx) (v0 : Nat) (hv0 : sm v0) (hn7 : n ≤ 700) (ww : Wv ty ad F 91 136 v0) :
    CV l y_T_putDecimal w_T_putDecimal ({ frames := 3, cells := 0, slots := 0, locals := 72 } : Room) [.ref (ad (96)), .ref (ad (91))] D ty ad M F sz (fun F1 => (∃ (L : Nat) (tz : Nat → Nat), Tx ty ad F1 (n + L) tz ∧ decT tx tz n v0 L) ∧ Wa ty ad F1 91 136 ∧ ∀ y, y ≠ 91 → y ≠ 92 → y ≠ 96 → y ≠ 97 → F1 y = F y) := by
  refine Met.ofW (cc := b_T_putDecimal) (maxL := 4) (ret := none) (by decide) rfl ?_
  intro p e s m args below meth c s₁ B hml hv
  obtain ⟨rfl, hsz, hP, hK, hD0⟩ := hv
  have hx := B.exec
  have hb := B.bytes
  have hr := B.returns
  have hts := atoms_spec (ws := w_T_putDecimal) B.pre
  have hq : ∀ w ∈ wT, w.before _ s = true := fun w h => hts w (List.mem_cons_of_mem _ h)
  have hown : s.vm.findClass R_T = some m.cls := findClass_of_methodNamed B.named
  have hlocks := B.notSynchronized
  subst hsz
  have hw := pw_start hP hK hD0
  have hl := lv_entry ([.ref (ad (96)), .ref (ad (91))]) (n := 4) (Nat.le_of_ble_eq_true rfl)
  rw [lg_entry_eq]
  generalize (lg_sl ([.ref (ad (96)), .ref (ad (91))]) ++ List.replicate (4 - (lg_sl ([.ref (ad (96)), .ref (ad (91))])).length) Slot.unset).toArray = ls at hl ⊢
  have hl : lv_has ls 4 [(0, .ref (ad (96))), (1, .ref (ad (91)))] := hl
  change W p l e ({ frames := 3, cells := 0, slots := 0, locals := 72 } : Room) s m ([.ref (ad (96)), .ref (ad (91))]).toArray below meth c s.heap [] 0 0 (MQ below (va_Qv (fun F1 => (∃ (L : Nat) (tz : Nat → Nat), Tx ty ad F1 (n + L) tz ∧ decT tx tz n v0 L) ∧ Wa ty ad F1 91 136 ∧ ∀ y, y ≠ 91 → y ≠ 92 → y ≠ 96 → y ≠ 97 → F1 y = F y) (pAt D classes (tysL ty) ad M (pA ad M s.heap.size)) (pA ad M s.heap.size)) ([.ref (ad (96)), .ref (ad (91))]).toArray s 0 0 (pA ad M s.heap.size)) (F0 m 0 ls [])
  generalize hQ : MQ below (va_Qv (fun F1 => (∃ (L : Nat) (tz : Nat → Nat), Tx ty ad F1 (n + L) tz ∧ decT tx tz n v0 L) ∧ Wa ty ad F1 91 136 ∧ ∀ y, y ≠ 91 → y ≠ 92 → y ≠ 96 → y ≠ 97 → F1 y = F y) (pAt D classes (tysL ty) ad M (pA ad M s.heap.size)) (pA ad M s.heap.size)) ([.ref (ad (96)), .ref (ad (91))]).toArray s 0 0 (pA ad M s.heap.size) = Q
  obtain ⟨H, hH⟩ : ∃ H, H = s.heap := ⟨_, rfl⟩
  obtain ⟨locs, hlo⟩ : ∃ z : List Loc, z = [] := ⟨_, rfl⟩
  have hw : pw D classes (tysL ty) ad M F (pA ad M s.heap.size) s H locs := by rw [hH, hlo]; exact hw
  have hgo : W p l e ({ frames := 3, cells := 0, slots := 0, locals := 72 } : Room) s m ([.ref (ad (96)), .ref (ad (91))]).toArray below meth c H locs 0 0 Q (F0 m 0 ls []) := by
    obtain ⟨hT, g, hC, hn, hg, hlt⟩ := id hTx
    refine lv_aload_n hx hb d_T_putDecimal_0 rfl (lv_at hl 0 rfl) ?_
    refine pw_get (ci := 2) (C := R_T) (T := T_T) (N := 2) hx hb hq i_T hown hw (by omega) hT rfl 1 (by decide) (hq _ fl_T_15) (fun _ h9 => h9) rfl d_T_putDecimal_1 ?_
    refine lv_istore_n (lv' := [(2, .int (iI ((n : Int)))), (0, .ref (ad (96))), (1, .ref (ad (91)))]) hx hb d_T_putDecimal_4 rfl hl (by decide) rfl (fun ls hl => ?_)
    refine wz_iconst (n := 0) hx hb d_T_putDecimal_5 ?_
    refine lv_istore_n (lv' := [(3, .int (iI (0))), (2, .int (iI ((n : Int)))), (0, .ref (ad (96))), (1, .ref (ad (91)))]) hx hb d_T_putDecimal_6 rfl hl (by decide) rfl (fun ls hl => ?_)
    have K7 : ∀ (fuel : Nat) (m0 : Nat) (tz : Nat → Nat) (F7 : Nat → va_E) (H : Heap) (locs : List Loc) (ls : Array Slot), 70 - m0 < fuel → (m0 ≤ 69) → (∀ j, j < n → tz j = tx j) → (∀ j, j < 9 * m0 → tz (n + j) = 48 + v0 / 10 ^ j % 10) → (∀ y, y ≠ 91 → y ≠ 92 → y ≠ 96 → y ≠ 97 → F7 y = F y) → Tx ty ad F7 (n + 9 * m0) (tz) → Wv ty ad F7 (91) 136 (v0 / 10 ^ (9 * m0)) → pw D classes (tysL ty) ad M F7 (pA ad M s.heap.size) s H locs → lv_has ls 4 [(3, .int (iI ((m0 : Int)))), (2, .int (iI ((n : Int)))), (0, .ref (ad (96))), (1, .ref (ad (91)))] → W p l e ({ frames := 3, cells := 0, slots := 0, locals := 72 } : Room) s m ([.ref (ad (96)), .ref (ad (91))]).toArray below meth c H locs 0 0 Q (F0 m 7 ls []) := by
      intro fuel
      induction fuel with
      | zero => intro m0 tz F7 H locs ls hfuel hm hz1 hz2 hfr hTz ww hw hl; exact absurd hfuel (Nat.not_lt_zero _)
      | succ fuel ih7 =>
        intro m0 tz F7 H locs ls hfuel hm hz1 hz2 hfr hTz ww hw hl
        refine lv_iload_n hx hb d_T_putDecimal_7 rfl (lv_at hl 0 rfl) ?_
        refine wz_sipush (n := 1400) hx hb d_T_putDecimal_8 (by decide) ?_
        refine wz_icmp_ge (tgt := 37) hx hb d_T_putDecimal_11 (by decide) (by omega) (by omega) (by omega) (by omega) (fun c11 => ?_) (fun c11 => ?_)
        · exact absurd c11 (by omega)
        · refine lv_aload_n hx hb d_T_putDecimal_14 rfl (lv_at hl 3 rfl) ?_
          refine pw_calli hw (va_runV (As := []) (rest := []) ⟨hx, hb, hml, hown, hq⟩ (c_W_isZero l D ty ad M F7 H.size (91) 136 (v0 / 10 ^ (9 * m0)) (by omega) (by omega) ww) (cwV 0 hq (gV ml_T_19 im_W_isZero se_W_isZero in_W m_W_isZero) rfl rfl rfl (by decide +kernel) ⟨Nat.le_of_ble_eq_true rfl, Nat.le_of_ble_eq_true rfl⟩) (pw_preWa hw (by omega) ((ww).a)) rfl rfl hl.1 rfl (lv_room (Nat.le_of_ble_eq_true rfl)) d_T_putDecimal_15 ⟨Nat.le_of_ble_eq_true rfl, Nat.le_of_ble_eq_true rfl⟩) (fun r15 F15 H locs q15 hw => ?_)
          obtain ⟨er15, eF15⟩ := q15
          rw [eF15] at hw
          clear eF15
          subst er15
          refine wz_if_ne (tgt := 37) hx hb d_T_putDecimal_18 (by decide) (by split <;> omega) (by split <;> omega) (fun c18 => ?_) (fun c18 => ?_)
          · have hz0 := ite_nz.mp c18
            obtain ⟨hT8, g8, hC8, hn8, hg8, hlt8⟩ := hTz
            have K37 : ∀ (fuel : Nat) (L : Nat) (tz : Nat → Nat) (g : Nat → Int32) (F37 : Nat → va_E) (H : Heap) (locs : List Loc) (ls : Array Slot), L < fuel → (n + L ≤ 1400) → (∀ i, i < n + L → g i = iI (tz i)) → (∀ i, i < n + L → tz i < 128) → (∀ j, j < n → tz j = tx j) → (∀ j, j < L → tz (n + j) = 48 + v0 / 10 ^ j % 10) → (v0 < 10 ^ L) → (∀ y, y ≠ 91 → y ≠ 92 → y ≠ 96 → y ≠ 97 → F37 y = F y) → F37 (96) = .inr (2, [.ref (ad (97)), .int (iI (((n + L : Nat) : Int)))]) → F37 (97) = .inl (ty 1, 1400, .inl (g)) → Wa ty ad F37 (91) 136 → pw D classes (tysL ty) ad M F37 (pA ad M s.heap.size) s H locs → lv_has ls 4 [(2, .int (iI ((n : Int)))), (0, .ref (ad (96))), (1, .ref (ad (91)))] → W p l e ({ frames := 3, cells := 0, slots := 0, locals := 72 } : Room) s m ([.ref (ad (96)), .ref (ad (91))]).toArray below meth c H locs 0 0 Q (F0 m 37 ls []) := by
              intro fuel
              induction fuel with
              | zero => intro L tz g F37 H locs ls hfuel hL hgz hlz hz1 hz2 hvL hfr hT hC ww hw hl; exact absurd hfuel (Nat.not_lt_zero _)
              | succ fuel ih37 =>
                intro L tz g F37 H locs ls hfuel hL hgz hlz hz1 hz2 hvL hfr hT hC ww hw hl
                refine lv_aload_n hx hb d_T_putDecimal_37 rfl (lv_at hl 1 rfl) ?_
                refine pw_get (ci := 2) (C := R_T) (T := T_T) (N := 2) hx hb hq i_T hown hw (by omega) hT rfl 1 (by decide) (hq _ fl_T_15) (fun _ h9 => h9) rfl d_T_putDecimal_38 ?_
                refine lv_iload_n hx hb d_T_putDecimal_41 rfl (lv_at hl 0 rfl) ?_
                refine wz_icmp_le (tgt := 74) hx hb d_T_putDecimal_42 (by decide) (by omega) (by omega) (by omega) (by omega) (fun c42 => ?_) (fun c42 => ?_)
                · have hL0 : L = 0 := by omega
                  have hv00 : v0 = 0 := by rw [hL0] at hvL; omega
                  refine lv_aload_n hx hb d_T_putDecimal_74 rfl (lv_at hl 1 rfl) ?_
                  refine pw_get (ci := 2) (C := R_T) (T := T_T) (N := 2) hx hb hq i_T hown hw (by omega) hT rfl 1 (by decide) (hq _ fl_T_15) (fun _ h9 => h9) rfl d_T_putDecimal_75 ?_
                  refine lv_iload_n hx hb d_T_putDecimal_78 rfl (lv_at hl 0 rfl) ?_
                  refine wz_icmp_ne (tgt := 88) hx hb d_T_putDecimal_79 (by decide) (by omega) (by omega) (by omega) (by omega) (fun c79 => ?_) (fun c79 => ?_)
                  · exact absurd c79 (by omega)
                  · refine lv_aload_n hx hb d_T_putDecimal_82 rfl (lv_at hl 1 rfl) ?_
                    refine wz_bipush (n := 48) hx hb d_T_putDecimal_83 (by decide) ?_
                    refine pw_callv hw (va_runV (As := [.int (iI (48))]) (rest := []) ⟨hx, hb, hml, hown, hq⟩ (c_T_put l D ty ad M F37 H.size hM n tz ⟨by rw [hL0, Nat.add_zero] at hT; exact hT, g, hC, by omega, fun i hi => hgz i (by omega), fun i hi => hlz i (by omega)⟩ 48 (by omega) (by omega)) (cwV 1 hq (gV ml_T_34 im_T_put se_T_put in_T m_T_put) rfl rfl rfl (by decide +kernel) ⟨Nat.le_of_ble_eq_true rfl, Nat.le_of_ble_eq_true rfl⟩) (pw_preV hw (by omega) hT rfl) rfl rfl hl.1 rfl (lv_room (Nat.le_of_ble_eq_true rfl)) d_T_putDecimal_85 ⟨Nat.le_of_ble_eq_true rfl, Nat.le_of_ble_eq_true rfl⟩) (fun F85 H locs q85 hw => ?_)
                    obtain ⟨⟨hT85, g85, hC85, hn85, hg85, hlt85⟩, hf85⟩ := q85
                    have ww_at_85 : Wa ty ad F85 (91) 136 := Wa.mv ww (hf85 (91) (by omega) (by omega)) (hf85 (91 + 1) (by omega) (by omega))
                    refine lv_aload_n hx hb d_T_putDecimal_88 rfl (lv_at hl 1 rfl) ?_
                    refine lv_iload_n hx hb d_T_putDecimal_89 rfl (lv_at hl 0 rfl) ?_
                    refine lv_aload_n hx hb d_T_putDecimal_90 rfl (lv_at hl 1 rfl) ?_
                    refine pw_get (ci := 2) (C := R_T) (T := T_T) (N := 2) hx hb hq i_T hown hw (by omega) hT85 rfl 1 (by decide) (hq _ fl_T_15) (fun _ h9 => h9) rfl d_T_putDecimal_91 ?_
                    refine wz_iconst (n := 1) hx hb d_T_putDecimal_94 ?_
                    refine wz_isub (z := ((n + 1 - 1 : Nat) : Int)) hx hb d_T_putDecimal_95 (by omega) ?_
                    refine pw_callv hw (va_runV (As := [.int (iI ((n : Int))), .int (iI (((n + 1 - 1 : Nat) : Int)))]) (rest := []) ⟨hx, hb, hml, hown, hq⟩ (c_T_turnRound l D ty ad M F85 H.size hM (n + 1) (txp tz n 48) ⟨hT85, g85, hC85, hn85, hg85, hlt85⟩ n (n + 1 - 1) (by omega) (by omega)) (cwV 2 hq (gV ml_T_38 im_T_turnRound se_T_turnRound in_T m_T_turnRound) rfl rfl rfl (by decide +kernel) ⟨Nat.le_of_ble_eq_true rfl, Nat.le_of_ble_eq_true rfl⟩) (pw_preV hw (by omega) hT85 rfl) rfl rfl hl.1 rfl (lv_room (Nat.le_of_ble_eq_true rfl)) d_T_putDecimal_96 ⟨Nat.le_of_ble_eq_true rfl, Nat.le_of_ble_eq_true rfl⟩) (fun F96 H locs q96 hw => ?_)
                    obtain ⟨⟨ts, hTs, hts9⟩, hf96⟩ := q96
                    have ww_at_96 : Wa ty ad F96 (91) 136 := Wa.mv ww_at_85 (hf96 (91) (by omega) (by omega)) (hf96 (91 + 1) (by omega) (by omega))
                    rw [← hQ]
                    exact pw_vret hx hb hr hlocks hw (⟨⟨1, ts, hTs, decT_rev (tz := txp tz n 48) ⟨by omega, by omega, Or.inl rfl⟩ (fun j hj => by rw [txp_n (by omega)]; exact hz1 j hj) (fun j hj => by rw [show j = 0 by omega, Nat.add_zero, txp_s, hv00, Nat.zero_div]) hts9⟩, ww_at_96, fun y9 h1 h2 h3 h4 => ((hf96 (y9) (by omega) (by omega)).trans (hf85 (y9) (by omega) (by omega))).trans (hfr y9 h1 h2 h3 h4)⟩) d_T_putDecimal_99
                · have hzl := hz2 (L - 1) (by omega)
                  rw [show n + (L - 1) = n + L - 1 by omega] at hzl
                  have hltl := hlz (n + L - 1) (by omega)
                  refine lv_aload_n hx hb d_T_putDecimal_45 rfl (lv_at hl 1 rfl) ?_
                  refine pw_get (ci := 2) (C := R_T) (T := T_T) (N := 2) hx hb hq i_T hown hw (by omega) hT rfl 0 (by decide) (hq _ fl_T_9) (fun _ h9 => h9) rfl d_T_putDecimal_46 ?_
                  refine lv_aload_n hx hb d_T_putDecimal_49 rfl (lv_at hl 1 rfl) ?_
                  refine pw_get (ci := 2) (C := R_T) (T := T_T) (N := 2) hx hb hq i_T hown hw (by omega) hT rfl 1 (by decide) (hq _ fl_T_15) (fun _ h9 => h9) rfl d_T_putDecimal_50 ?_
                  refine wz_iconst (n := 1) hx hb d_T_putDecimal_53 ?_
                  refine wz_isub (z := ((n + L - 1 : Nat) : Int)) hx hb d_T_putDecimal_54 (by omega) ?_
                  refine pw_cald (k := n + L - 1) hx hb hw 1 (by omega) hC rfl (iI_in (by omega) (by omega) (by omega)) ((iI_cl (by omega) (by omega)).trans (by omega)) d_T_putDecimal_55 ?_
                  refine lv_topi (fun x55 ex55 => ?_)
                  obtain rfl : x55 = iI ((tz (n + L - 1) : Int)) := ex55.trans (hgz _ (by omega))
                  refine wz_bipush (n := 48) hx hb d_T_putDecimal_56 (by decide) ?_
                  refine wz_icmp_ne (tgt := 74) hx hb d_T_putDecimal_58 (by decide) (by omega) (by omega) (by omega) (by omega) (fun c58 => ?_) (fun c58 => ?_)
                  · refine lv_aload_n hx hb d_T_putDecimal_74 rfl (lv_at hl 1 rfl) ?_
                    refine pw_get (ci := 2) (C := R_T) (T := T_T) (N := 2) hx hb hq i_T hown hw (by omega) hT rfl 1 (by decide) (hq _ fl_T_15) (fun _ h9 => h9) rfl d_T_putDecimal_75 ?_
                    refine lv_iload_n hx hb d_T_putDecimal_78 rfl (lv_at hl 0 rfl) ?_
                    refine wz_icmp_ne (tgt := 88) hx hb d_T_putDecimal_79 (by decide) (by omega) (by omega) (by omega) (by omega) (fun c79 => ?_) (fun c79 => ?_)
                    · refine lv_aload_n hx hb d_T_putDecimal_88 rfl (lv_at hl 1 rfl) ?_
                      refine lv_iload_n hx hb d_T_putDecimal_89 rfl (lv_at hl 0 rfl) ?_
                      refine lv_aload_n hx hb d_T_putDecimal_90 rfl (lv_at hl 1 rfl) ?_
                      refine pw_get (ci := 2) (C := R_T) (T := T_T) (N := 2) hx hb hq i_T hown hw (by omega) hT rfl 1 (by decide) (hq _ fl_T_15) (fun _ h9 => h9) rfl d_T_putDecimal_91 ?_
                      refine wz_iconst (n := 1) hx hb d_T_putDecimal_94 ?_
                      refine wz_isub (z := ((n + L - 1 : Nat) : Int)) hx hb d_T_putDecimal_95 (by omega) ?_
                      refine pw_callv hw (va_runV (As := [.int (iI ((n : Int))), .int (iI (((n + L - 1 : Nat) : Int)))]) (rest := []) ⟨hx, hb, hml, hown, hq⟩ (c_T_turnRound l D ty ad M F37 H.size hM (n + L) tz ⟨hT, g, hC, hL, hgz, hlz⟩ n (n + L - 1) (by omega) (by omega)) (cwV 2 hq (gV ml_T_38 im_T_turnRound se_T_turnRound in_T m_T_turnRound) rfl rfl rfl (by decide +kernel) ⟨Nat.le_of_ble_eq_true rfl, Nat.le_of_ble_eq_true rfl⟩) (pw_preV hw (by omega) hT rfl) rfl rfl hl.1 rfl (lv_room (Nat.le_of_ble_eq_true rfl)) d_T_putDecimal_96 ⟨Nat.le_of_ble_eq_true rfl, Nat.le_of_ble_eq_true rfl⟩) (fun F96 H locs q96 hw => ?_)
                      obtain ⟨⟨ts, hTs, hts9⟩, hf96⟩ := q96
                      have ww_at_96 : Wa ty ad F96 (91) 136 := Wa.mv ww (hf96 (91) (by omega) (by omega)) (hf96 (91 + 1) (by omega) (by omega))
                      rw [← hQ]
                      exact pw_vret hx hb hr hlocks hw (⟨⟨L, ts, hTs, decT_rev ⟨by omega, hvL, Or.inr (dec_top (by omega))⟩ hz1 hz2 hts9⟩, ww_at_96, fun y9 h1 h2 h3 h4 => (hf96 (y9) (by omega) (by omega)).trans (hfr y9 h1 h2 h3 h4)⟩) d_T_putDecimal_99
                    · exact absurd c79 (by omega)
                  · refine lv_aload_n hx hb d_T_putDecimal_61 rfl (lv_at hl 1 rfl) ?_
                    refine lv_dup hx hb d_T_putDecimal_62 rfl ?_
                    refine pw_get (ci := 2) (C := R_T) (T := T_T) (N := 2) hx hb hq i_T hown hw (by omega) hT rfl 1 (by decide) (hq _ fl_T_15) (fun _ h9 => h9) rfl d_T_putDecimal_63 ?_
                    refine wz_iconst (n := 1) hx hb d_T_putDecimal_66 ?_
                    refine wz_isub (z := ((n + (L - 1) : Nat) : Int)) hx hb d_T_putDecimal_67 (by omega) ?_
                    refine pw_put (ci := 2) (C := R_T) (T := T_T) (N := 2) (ty := .int) (fs' := [.ref (ad (97)), .int (iI (((n + (L - 1) : Nat) : Int)))]) hx hb hq i_T ft_T ft_T_ok n_T hown hw (by omega) hT rfl 1 (by decide) (hq _ fl_T_15) (fun _ h9 => h9) rfl (by decide +kernel) rfl rfl (Nat.le_of_ble_eq_true rfl) rfl d_T_putDecimal_68 (fun F68 H locs eF68 hw => ?_)
                    have m68_96 : F68 (96) = .inr (2, [.ref (ad (97)), .int (iI (((n + (L - 1) : Nat) : Int)))]) := by rw [eF68]; exact va_up_self ..
                    have hC_at_68 : F68 (97) = .inl (ty 1, 1400, .inl (g)) := (show F68 (97) = F37 (97) from by rw [eF68]; exact va_up_ne _ _ (by omega)).trans hC
                    have ww_at_68 : Wa ty ad F68 (91) 136 := Wa.mv ww (show F68 (91) = F37 (91) from by rw [eF68]; exact va_up_ne _ _ (by omega)) (show F68 (91 + 1) = F37 (91 + 1) from by rw [eF68]; exact va_up_ne _ _ (by omega))
                    refine lv_goto (tgt := 37) hx hb d_T_putDecimal_71 (by decide) ?_
                    exact ih37 (L - 1) tz g _ _ _ ls (by omega) (by omega) (fun i hi => hgz i (by omega)) (fun i hi => hlz i (by omega)) (hz1) (fun j hj => hz2 j (by omega)) (dec_drop (by omega) hvL (by omega)) (fun y9 h1 h2 h3 h4 => (show F68 (y9) = F37 (y9) from by rw [eF68]; exact va_up_ne _ _ (by omega)).trans (hfr y9 h1 h2 h3 h4)) (m68_96) (hC_at_68) (ww_at_68) hw hl
            exact K37 _ (9 * m0) tz g8 _ _ _ ls (Nat.lt_succ_self _) (by omega) (hg8) (hlt8) (hz1) (hz2) (by
              have h9 := Nat.lt_mul_div_succ v0 (show 0 < 10 ^ (9 * m0) from Nat.pow_pos (by decide))
              rw [hz0, Nat.mul_one] at h9
              exact h9) (hfr) (hT8) (hC8) ((ww).a) hw (lv_sub hl [1, 2, 3] rfl)
          · have hz0 := ite_z.mp c18
            have hm68 := dec_69 hv0 hz0
            refine lv_aload_n hx hb d_T_putDecimal_21 rfl (lv_at hl 2 rfl) ?_
            refine lv_aload_n hx hb d_T_putDecimal_22 rfl (lv_at hl 3 rfl) ?_
            refine lv_ldc (v := iI (1000000000)) hx hb hown (hq _ co_T_25) d_T_putDecimal_23 ?_
            refine pw_calli hw (va_runV (As := [.int (iI (1000000000))]) (rest := [.ref (ad (96))]) ⟨hx, hb, hml, hown, hq⟩ (c_W_divideSmall l D ty ad M F7 H.size 91 136 (v0 / 10 ^ (9 * m0)) 1000000000 (by omega) (by omega) ww (by omega) (by omega)) (cwV 1 hq (gV ml_T_26 im_W_divideSmall se_W_divideSmall in_W m_W_divideSmall) rfl rfl rfl (by decide +kernel) ⟨Nat.le_of_ble_eq_true rfl, Nat.le_of_ble_eq_true rfl⟩) (pw_preWa hw (by omega) (ww).a) rfl rfl hl.1 rfl (lv_room (Nat.le_of_ble_eq_true rfl)) d_T_putDecimal_25 ⟨Nat.le_of_ble_eq_true rfl, Nat.le_of_ble_eq_true rfl⟩) (fun r25 F25 H locs q25 hw => ?_)
            obtain ⟨er25, ww, hf25⟩ := q25
            subst er25
            rw [dec_next] at ww
            have hlt25 : v0 / 10 ^ (9 * m0) % 1000000000 < 1000000000 := Nat.mod_lt _ (by decide)
            have hTz_at_25 : Tx ty ad F25 (n + 9 * m0) (tz) := Tx.mv hTz (hf25 (96) (by omega) (by omega)) (hf25 (97) (by omega) (by omega))
            refine pw_callv hw (va_runV (As := [.int (iI (((v0 / 10 ^ (9 * m0) % 1000000000 : Nat) : Int)))]) (rest := []) ⟨hx, hb, hml, hown, hq⟩ (c_T_putNineBackwards l D ty ad M F25 H.size hM (n + 9 * m0) tz hTz_at_25 (v0 / 10 ^ (9 * m0) % 1000000000) hlt25 (by omega)) (cwV 1 hq (gV ml_T_30 im_T_putNineBackwards se_T_putNineBackwards in_T m_T_putNineBackwards) rfl rfl rfl (by decide +kernel) ⟨Nat.le_of_ble_eq_true rfl, Nat.le_of_ble_eq_true rfl⟩) (pw_preT hw (by omega) hTz_at_25) rfl rfl hl.1 rfl (lv_room (Nat.le_of_ble_eq_true rfl)) d_T_putDecimal_28 ⟨Nat.le_of_ble_eq_true rfl, Nat.le_of_ble_eq_true rfl⟩) (fun F28 H locs q28 hw => ?_)
            obtain ⟨⟨tz2, hTz, hy1, hy2⟩, hf28⟩ := q28
            have ww_at_28 : Wv ty ad F28 (91) 136 (v0 / 10 ^ (9 * (m0 + 1))) := Wv.mv ww (hf28 (91) (by omega) (by omega)) (hf28 (91 + 1) (by omega) (by omega))
            refine wz_iinc (z := ((m0 + 1 : Nat) : Int)) (lv' := [(3, .int (iI (((m0 + 1 : Nat) : Int)))), (2, .int (iI ((n : Int)))), (0, .ref (ad (96))), (1, .ref (ad (91)))]) hx hb d_T_putDecimal_31 hl (k := 0) rfl (by omega) (by decide) rfl (fun ls hl => ?_)
            refine lv_goto (tgt := 7) hx hb d_T_putDecimal_34 (by decide) ?_
            exact ih7 (m0 + 1) tz2 _ _ _ ls (by omega) (by omega) (fun j hj => by rw [hy1 j (by omega)]; exact hz1 j hj) (fun j hj => by
              rcases Nat.lt_or_ge j (9 * m0) with h9 | h9
              · rw [hy1 _ (by omega)]; exact hz2 j h9
              · rw [show n + j = n + 9 * m0 + (j - 9 * m0) by omega, hy2 _ (by omega), dig9 (by omega), dec_at, show 9 * m0 + (j - 9 * m0) = j by omega]) (fun y9 h1 h2 h3 h4 => ((hf28 (y9) (by omega) (by omega)).trans (hf25 (y9) (by omega) (by omega))).trans (hfr y9 h1 h2 h3 h4)) (by rw [show n + 9 * (m0 + 1) = n + 9 * m0 + 9 by omega]; exact hTz) (ww_at_28) hw hl
    exact K7 _ 0 tx _ _ _ ls (Nat.lt_succ_self _) (by omega) (fun j hj => rfl) (fun j hj => absurd hj (by omega)) (fun y9 _ _ _ _ => rfl) (by rw [Nat.mul_zero, Nat.add_zero]; exact hTx) (by rw [Nat.mul_zero, Nat.pow_zero, Nat.div_one]; exact ww) hw hl
  rw [hH, hlo] at hgo
  exact hgo
/-- what a text tells above the line, and below it -/
def numT (tx : Nat → Nat) (n : Nat) : Nat := dval tx (fdig tx n) (dend tx (n - fdig tx n) (fdig tx n) - fdig tx n)
def denT (tx : Nat → Nat) (n : Nat) : Nat := if dend tx (n - fdig tx n) (fdig tx n) < n then dval tx (dend tx (n - fdig tx n) (fdig tx n) + 1) (n - (dend tx (n - fdig tx n) (fdig tx n) + 1)) else 1
set_option maxHeartbeats 4000000 in
set_option maxRecDepth 100000 in
/-- Bench.takeText(text) -/
theorem c_B_takeText (l : Launch) (D : va_G) (ty : Nat → ClassId) (ad : Nat → Nat) (M : Nat) (F : Nat → va_E) (sz : Nat) (hBn : Bn ty ad F) (hM : 97 < M) (n : Nat) (tx : Nat → Nat) (hTx : Tx ty ad F n tx) (hend9 : dend tx (n - fdig tx n) (fdig tx n) < n → dend tx (n - (dend tx (n - fdig tx n) (fdig tx n) + 1)) (dend tx (n - fdig tx n) (fdig tx n) + 1) = n) :
    CI l y_B_takeText w_B_takeText ({ frames := 5, cells := 0, slots := 0, locals := 107 } : Room) [.ref (ad (82)), .ref (ad (96))] D ty ad M F sz (fun r F1 => (sm (numT tx n) ∧ sm (denT tx n) → r = iI 1 ∧ BnT ty ad F1 (numT tx n) (denT tx n) (fdig tx n)) ∧ (¬ (sm (numT tx n) ∧ sm (denT tx n)) → r = iI 0) ∧ Bn ty ad F1 ∧ frB F F1) := by
  refine Met.ofW (cc := b_B_takeText) (maxL := 4) (ret := (some .boolean)) (by decide) rfl ?_
  intro p e s m args below meth c s₁ B hml hv
  obtain ⟨rfl, hsz, hP, hK, hD0⟩ := hv
  have hx := B.exec
  have hb := B.bytes
  have hr := B.returns
  have hts := atoms_spec (ws := w_B_takeText) B.pre
  have hq : ∀ w ∈ wT, w.before _ s = true := fun w h => hts w (List.mem_cons_of_mem _ h)
  have hown : s.vm.findClass R_B = some m.cls := findClass_of_methodNamed B.named
  have hlocks := B.notSynchronized
  subst hsz
  have hw := pw_start hP hK hD0
  have hl := lv_entry ([.ref (ad (82)), .ref (ad (96))]) (n := 4) (Nat.le_of_ble_eq_true rfl)
  rw [lg_entry_eq]
  generalize (lg_sl ([.ref (ad (82)), .ref (ad (96))]) ++ List.replicate (4 - (lg_sl ([.ref (ad (82)), .ref (ad (96))])).length) Slot.unset).toArray = ls at hl ⊢
  have hl : lv_has ls 4 [(0, .ref (ad (82))), (1, .ref (ad (96)))] := hl
  change W p l e ({ frames := 5, cells := 0, slots := 0, locals := 107 } : Room) s m ([.ref (ad (82)), .ref (ad (96))]).toArray below meth c s.heap [] 0 0 (MQ below (va_Qi (fun r F1 => (sm (numT tx n) ∧ sm (denT tx n) → r = iI 1 ∧ BnT ty ad F1 (numT tx n) (denT tx n) (fdig tx n)) ∧ (¬ (sm (numT tx n) ∧ sm (denT tx n)) → r = iI 0) ∧ Bn ty ad F1 ∧ frB F F1) (pAt D classes (tysL ty) ad M (pA ad M s.heap.size)) (pA ad M s.heap.size)) ([.ref (ad (82)), .ref (ad (96))]).toArray s 0 0 (pA ad M s.heap.size)) (F0 m 0 ls [])
  generalize hQ : MQ below (va_Qi (fun r F1 => (sm (numT tx n) ∧ sm (denT tx n) → r = iI 1 ∧ BnT ty ad F1 (numT tx n) (denT tx n) (fdig tx n)) ∧ (¬ (sm (numT tx n) ∧ sm (denT tx n)) → r = iI 0) ∧ Bn ty ad F1 ∧ frB F F1) (pAt D classes (tysL ty) ad M (pA ad M s.heap.size)) (pA ad M s.heap.size)) ([.ref (ad (82)), .ref (ad (96))]).toArray s 0 0 (pA ad M s.heap.size) = Q
  obtain ⟨H, hH⟩ : ∃ H, H = s.heap := ⟨_, rfl⟩
  obtain ⟨locs, hlo⟩ : ∃ z : List Loc, z = [] := ⟨_, rfl⟩
  have hw : pw D classes (tysL ty) ad M F (pA ad M s.heap.size) s H locs := by rw [hH, hlo]; exact hw
  have hgo : W p l e ({ frames := 5, cells := 0, slots := 0, locals := 107 } : Room) s m ([.ref (ad (82)), .ref (ad (96))]).toArray below meth c H locs 0 0 Q (F0 m 0 ls []) := by
    obtain ⟨⟨bb, hbb, hB⟩, w83, w85, w87, w89, w91, ⟨f0, g0, h0, k0, hD⟩, w94⟩ := hBn
    obtain ⟨hT, g, hC, hn, hg, hlt⟩ := hTx
    obtain ⟨a0, ha0⟩ : ∃ z, z = fdig tx n := ⟨_, rfl⟩
    have ha1 := @fdig_le tx n
    rw [← ha0] at ha1
    obtain ⟨b0, hb9⟩ : ∃ z, z = dend tx (n - a0) a0 := ⟨_, rfl⟩
    have hb1 := dend_b tx (n - a0) a0
    rw [← hb9] at hb1
    have hd1 : ∀ j, a0 ≤ j → j < b0 → isd (tx j) := fun j h1 h2 => dend_d tx (n - a0) a0 j h1 (by rw [← hb9]; exact h2)
    have hd2 : b0 < n → ∀ j, b0 + 1 ≤ j → j < n → isd (tx j) := fun h0 j h1 h2 => dend_d tx (n - (b0 + 1)) (b0 + 1) j h1 (by have := hend9 (by rw [← ha0, ← hb9]; exact h0); rw [← ha0, ← hb9] at this; rw [this]; exact h2)
    have hnum : numT tx n = dval tx a0 (b0 - a0) := by rw [numT, ← ha0, ← hb9]
    have hden : b0 < n → denT tx n = dval tx (b0 + 1) (n - (b0 + 1)) := fun h9 => by rw [denT, ← ha0, ← hb9, if_pos h9]
    have hden1 : ¬ b0 < n → denT tx n = 1 := fun h9 => by rw [denT, ← ha0, ← hb9, if_neg h9]
    refine lv_aload_n hx hb d_B_takeText_0 rfl (lv_at hl 1 rfl) ?_
    refine pw_calli hw (va_runV (As := []) (rest := []) ⟨hx, hb, hml, hown, hq⟩ (c_T_firstDigit l D ty ad M F H.size hM n tx ⟨hT, g, hC, hn, hg, hlt⟩) (cwV 0 hq (gV ml_B_87 im_T_firstDigit se_T_firstDigit in_T m_T_firstDigit) rfl rfl rfl (by decide +kernel) ⟨Nat.le_of_ble_eq_true rfl, Nat.le_of_ble_eq_true rfl⟩) (pw_preV hw (by omega) hT rfl) rfl rfl hl.1 rfl (lv_room (Nat.le_of_ble_eq_true rfl)) d_B_takeText_1 ⟨Nat.le_of_ble_eq_true rfl, Nat.le_of_ble_eq_true rfl⟩) (fun r1 F1 H locs q1 hw => ?_)
    obtain ⟨er1, eF1⟩ := q1
    rw [eF1] at hw
    clear eF1
    rw [← ha0] at er1
    subst er1
    refine lv_istore_n (lv' := [(2, .int (iI ((a0 : Int)))), (0, .ref (ad (82))), (1, .ref (ad (96)))]) hx hb d_B_takeText_4 rfl hl (by decide) rfl (fun ls hl => ?_)
    refine lv_aload_n hx hb d_B_takeText_5 rfl (lv_at hl 2 rfl) ?_
    refine lv_iload_n hx hb d_B_takeText_6 rfl (lv_at hl 0 rfl) ?_
    refine pw_calli hw (va_runV (As := [.int (iI ((a0 : Int)))]) (rest := []) ⟨hx, hb, hml, hown, hq⟩ (c_T_digitsEnd l D ty ad M F H.size hM n tx ⟨hT, g, hC, hn, hg, hlt⟩ a0 (by omega)) (cwV 1 hq (gV ml_B_93 im_T_digitsEnd se_T_digitsEnd in_T m_T_digitsEnd) rfl rfl rfl (by decide +kernel) ⟨Nat.le_of_ble_eq_true rfl, Nat.le_of_ble_eq_true rfl⟩) (pw_preV hw (by omega) hT rfl) rfl rfl hl.1 rfl (lv_room (Nat.le_of_ble_eq_true rfl)) d_B_takeText_7 ⟨Nat.le_of_ble_eq_true rfl, Nat.le_of_ble_eq_true rfl⟩) (fun r7 F7 H locs q7 hw => ?_)
    obtain ⟨er7, eF7⟩ := q7
    rw [eF7] at hw
    clear eF7
    rw [← hb9] at er7
    subst er7
    refine lv_istore_n (lv' := [(3, .int (iI ((b0 : Int)))), (2, .int (iI ((a0 : Int)))), (0, .ref (ad (82))), (1, .ref (ad (96)))]) hx hb d_B_takeText_10 rfl hl (by decide) rfl (fun ls hl => ?_)
    refine lv_aload_n hx hb d_B_takeText_11 rfl (lv_at hl 2 rfl) ?_
    refine lv_iload_n hx hb d_B_takeText_12 rfl (lv_at hl 1 rfl) ?_
    refine wz_if_le (tgt := 20) hx hb d_B_takeText_13 (by decide) (by omega) (by omega) (fun c13 => ?_) (fun c13 => ?_)
    · refine wz_iconst (n := 0) hx hb d_B_takeText_20 ?_
      refine pw_put (ci := 4) (C := R_B) (T := T_B) (N := 7) (ty := .boolean) (fs' := [.ref (ad (83)), .ref (ad (85)), .ref (ad (87)), .ref (ad (89)), .ref (ad (91)), .ref (ad (93)), .int (iI (0))]) hx hb hq i_B ft_B ft_B_ok n_B hown hw (by omega) hB rfl 6 (by decide) (hq _ fl_B_39) (fun _ h9 => h9) rfl (by decide +kernel) rfl rfl (Nat.le_of_ble_eq_true rfl) rfl d_B_takeText_21 (fun F21 H locs eF21 hw => ?_)
      have m21_82 : F21 (82) = .inr (4, [.ref (ad (83)), .ref (ad (85)), .ref (ad (87)), .ref (ad (89)), .ref (ad (91)), .ref (ad (93)), .int (iI (0))]) := by rw [eF21]; exact va_up_self ..
      have w83_at_21 : Wa ty ad F21 (83) 136 := Wa.mv w83 (show F21 (83) = F (83) from by rw [eF21]; exact va_up_ne _ _ (by omega)) (show F21 (83 + 1) = F (83 + 1) from by rw [eF21]; exact va_up_ne _ _ (by omega))
      have w85_at_21 : Wa ty ad F21 (85) 136 := Wa.mv w85 (show F21 (85) = F (85) from by rw [eF21]; exact va_up_ne _ _ (by omega)) (show F21 (85 + 1) = F (85 + 1) from by rw [eF21]; exact va_up_ne _ _ (by omega))
      have w87_at_21 : Wa ty ad F21 (87) 136 := Wa.mv w87 (show F21 (87) = F (87) from by rw [eF21]; exact va_up_ne _ _ (by omega)) (show F21 (87 + 1) = F (87 + 1) from by rw [eF21]; exact va_up_ne _ _ (by omega))
      have w89_at_21 : Wa ty ad F21 (89) 136 := Wa.mv w89 (show F21 (89) = F (89) from by rw [eF21]; exact va_up_ne _ _ (by omega)) (show F21 (89 + 1) = F (89 + 1) from by rw [eF21]; exact va_up_ne _ _ (by omega))
      have w91_at_21 : Wa ty ad F21 (91) 136 := Wa.mv w91 (show F21 (91) = F (91) from by rw [eF21]; exact va_up_ne _ _ (by omega)) (show F21 (91 + 1) = F (91 + 1) from by rw [eF21]; exact va_up_ne _ _ (by omega))
      have hD_at_21 : F21 (93) = .inr (3, [.ref (ad (93 + 1)), .long (f0), .long (g0), .long (h0), .long (k0)]) := (show F21 (93) = F (93) from by rw [eF21]; exact va_up_ne _ _ (by omega)).trans hD
      have w94_at_21 : Wa ty ad F21 (93 + 1) 136 := Wa.mv w94 (show F21 (93 + 1) = F (93 + 1) from by rw [eF21]; exact va_up_ne _ _ (by omega)) (show F21 (93 + 1 + 1) = F (93 + 1 + 1) from by rw [eF21]; exact va_up_ne _ _ (by omega))
      have hT_at_21 : F21 (96) = .inr (2, [.ref (ad (97)), .int (iI ((n : Int)))]) := (show F21 (96) = F (96) from by rw [eF21]; exact va_up_ne _ _ (by omega)).trans hT
      have hC_at_21 : F21 (97) = .inl (ty 1, 1400, .inl (g)) := (show F21 (97) = F (97) from by rw [eF21]; exact va_up_ne _ _ (by omega)).trans hC
      refine lv_aload_n hx hb d_B_takeText_24 rfl (lv_at hl 2 rfl) ?_
      refine pw_get (ci := 4) (C := R_B) (T := T_B) (N := 7) hx hb hq i_B hown hw (by omega) m21_82 rfl 1 (by decide) (hq _ fl_B_20) (fun _ h9 => h9) rfl d_B_takeText_25 ?_
      refine lv_lconst (v := iL 1) hx hb d_B_takeText_28 (by decide) ?_
      refine pw_callv hw (va_runV (As := [.long (iL (1))]) (rest := []) ⟨hx, hb, hml, hown, hq⟩ (c_W_becomeLong l D ty ad M F21 H.size (85) 136 (1) (by omega) (by omega) (by omega) (by omega) w85_at_21) (cwV 1 hq (gV ml_B_83 im_W_becomeLong se_W_becomeLong in_W m_W_becomeLong) rfl rfl rfl (by decide +kernel) ⟨Nat.le_of_ble_eq_true rfl, Nat.le_of_ble_eq_true rfl⟩) (pw_preWa hw (by omega) w85_at_21) rfl rfl hl.1 rfl (lv_room (Nat.le_of_ble_eq_true rfl)) d_B_takeText_29 ⟨Nat.le_of_ble_eq_true rfl, Nat.le_of_ble_eq_true rfl⟩) (fun F29 H locs q29 hw => ?_)
      obtain ⟨w85, hf29⟩ := q29
      have w83_at_29 : Wa ty ad F29 (83) 136 := Wa.mv w83_at_21 (hf29 (83) (by omega) (by omega)) (hf29 (83 + 1) (by omega) (by omega))
      have w87_at_29 : Wa ty ad F29 (87) 136 := Wa.mv w87_at_21 (hf29 (87) (by omega) (by omega)) (hf29 (87 + 1) (by omega) (by omega))
      have w89_at_29 : Wa ty ad F29 (89) 136 := Wa.mv w89_at_21 (hf29 (89) (by omega) (by omega)) (hf29 (89 + 1) (by omega) (by omega))
      have w91_at_29 : Wa ty ad F29 (91) 136 := Wa.mv w91_at_21 (hf29 (91) (by omega) (by omega)) (hf29 (91 + 1) (by omega) (by omega))
      have hD_at_29 : F29 (93) = .inr (3, [.ref (ad (93 + 1)), .long (f0), .long (g0), .long (h0), .long (k0)]) := (hf29 (93) (by omega) (by omega)).trans hD_at_21
      have w94_at_29 : Wa ty ad F29 (93 + 1) 136 := Wa.mv w94_at_21 (hf29 (93 + 1) (by omega) (by omega)) (hf29 (93 + 1 + 1) (by omega) (by omega))
      have hT_at_29 : F29 (96) = .inr (2, [.ref (ad (97)), .int (iI ((n : Int)))]) := (hf29 (96) (by omega) (by omega)).trans hT_at_21
      have hC_at_29 : F29 (97) = .inl (ty 1, 1400, .inl (g)) := (hf29 (97) (by omega) (by omega)).trans hC_at_21
      have m21_82_at_29 : F29 (82) = .inr (4, [.ref (ad (83)), .ref (ad (85)), .ref (ad (87)), .ref (ad (89)), .ref (ad (91)), .ref (ad (93)), .int (iI (0))]) := (hf29 (82) (by omega) (by omega)).trans m21_82
      refine lv_aload_n hx hb d_B_takeText_32 rfl (lv_at hl 3 rfl) ?_
      refine lv_iload_n hx hb d_B_takeText_33 rfl (lv_at hl 1 rfl) ?_
      refine lv_iload_n hx hb d_B_takeText_34 rfl (lv_at hl 0 rfl) ?_
      refine lv_aload_n hx hb d_B_takeText_35 rfl (lv_at hl 2 rfl) ?_
      refine pw_get (ci := 4) (C := R_B) (T := T_B) (N := 7) hx hb hq i_B hown hw (by omega) m21_82_at_29 rfl 0 (by decide) (hq _ fl_B_16) (fun _ h9 => h9) rfl d_B_takeText_36 ?_
      refine pw_calli hw (va_runV (As := [.int (iI ((a0 : Int))), .int (iI ((b0 : Int))), .ref (ad (83))]) (rest := []) ⟨hx, hb, hml, hown, hq⟩ (c_T_tell l D ty ad M F29 H.size hM n tx ⟨hT_at_29, g, hC_at_29, hn, hg, hlt⟩ 83 (a0) (b0) (by omega) (by omega) (by omega) (hd1) w83_at_29) (cwV 3 hq (gV ml_B_97 im_T_tell se_T_tell in_T m_T_tell) rfl rfl rfl (by decide +kernel) ⟨Nat.le_of_ble_eq_true rfl, Nat.le_of_ble_eq_true rfl⟩) (pw_preV hw (by omega) hT_at_29 rfl) rfl rfl hl.1 rfl (lv_room (Nat.le_of_ble_eq_true rfl)) d_B_takeText_39 ⟨Nat.le_of_ble_eq_true rfl, Nat.le_of_ble_eq_true rfl⟩) (fun r39 F39 H locs q39 hw => ?_)
      obtain ⟨ha39, hb39, w83, hf39⟩ := q39
      have w87_at_39 : Wa ty ad F39 (87) 136 := Wa.mv w87_at_29 (hf39 (87) (by omega) (by omega)) (hf39 (87 + 1) (by omega) (by omega))
      have w89_at_39 : Wa ty ad F39 (89) 136 := Wa.mv w89_at_29 (hf39 (89) (by omega) (by omega)) (hf39 (89 + 1) (by omega) (by omega))
      have w91_at_39 : Wa ty ad F39 (91) 136 := Wa.mv w91_at_29 (hf39 (91) (by omega) (by omega)) (hf39 (91 + 1) (by omega) (by omega))
      have hD_at_39 : F39 (93) = .inr (3, [.ref (ad (93 + 1)), .long (f0), .long (g0), .long (h0), .long (k0)]) := (hf39 (93) (by omega) (by omega)).trans hD_at_29
      have w94_at_39 : Wa ty ad F39 (93 + 1) 136 := Wa.mv w94_at_29 (hf39 (93 + 1) (by omega) (by omega)) (hf39 (93 + 1 + 1) (by omega) (by omega))
      have hT_at_39 : F39 (96) = .inr (2, [.ref (ad (97)), .int (iI ((n : Int)))]) := (hf39 (96) (by omega) (by omega)).trans hT_at_29
      have hC_at_39 : F39 (97) = .inl (ty 1, 1400, .inl (g)) := (hf39 (97) (by omega) (by omega)).trans hC_at_29
      have m21_82_at_39 : F39 (82) = .inr (4, [.ref (ad (83)), .ref (ad (85)), .ref (ad (87)), .ref (ad (89)), .ref (ad (91)), .ref (ad (93)), .int (iI (0))]) := (hf39 (82) (by omega) (by omega)).trans m21_82_at_29
      have w85_at_39 : Wv ty ad F39 (85) 136 (1) := Wv.mv w85 (hf39 (85) (by omega) (by omega)) (hf39 (85 + 1) (by omega) (by omega))
      refine lv_if_ne (tgt := 47) hx hb d_B_takeText_42 (by decide) (fun c42 => ?_) (fun c42 => ?_)
      · have hs1 : sm (dval tx a0 (b0 - a0)) := Classical.byContradiction (fun h9 => c42 (hb39 h9))
        obtain ⟨-, w83v⟩ := ha39 hs1
        refine lv_iload_n hx hb d_B_takeText_47 rfl (lv_at hl 0 rfl) ?_
        refine lv_aload_n hx hb d_B_takeText_48 rfl (lv_at hl 3 rfl) ?_
        refine pw_get (ci := 2) (C := R_T) (T := T_T) (N := 2) hx hb hq i_T hown hw (by omega) hT_at_39 rfl 1 (by decide) (hq _ fl_B_101) (fun _ h9 => h9) rfl d_B_takeText_49 ?_
        refine wz_icmp_ge (tgt := 73) hx hb d_B_takeText_52 (by decide) (by omega) (by omega) (by omega) (by omega) (fun c52 => ?_) (fun c52 => ?_)
        · refine wz_iconst (n := 1) hx hb d_B_takeText_73 ?_
          refine lv_goto (tgt := 78) hx hb d_B_takeText_74 (by decide) ?_
          rw [← hQ]
          exact pw_zret hx hb hr (by decide) hlocks hw (⟨fun _ => ⟨rfl, by rw [hnum, hden1 (by omega), ← ha0]; exact ⟨ha1.2, (by rw [show a0 = 0 by omega]; exact m21_82_at_39), w83v, w85_at_39, w87_at_39, w89_at_39, w91_at_39, ⟨_, _, _, _, hD_at_39⟩, w94_at_39⟩⟩, fun h9 => absurd ⟨by rw [hnum]; exact hs1, by rw [hden1 (by omega)]; exact sm_1⟩ h9, ⟨⟨a0, ha1.2, (by rw [show a0 = 0 by omega]; exact m21_82_at_39)⟩, (w83v).a, (w85_at_39).a, w87_at_39, w89_at_39, w91_at_39, ⟨_, _, _, _, hD_at_39⟩, w94_at_39⟩, fun y9 h9 => (hf39 (y9) (by omega) (by omega)).trans ((hf29 (y9) (by omega) (by omega)).trans (show F21 (y9) = F (y9) from by rw [eF21]; exact va_up_ne _ _ (by omega)))⟩) d_B_takeText_78
        · refine lv_aload_n hx hb d_B_takeText_55 rfl (lv_at hl 3 rfl) ?_
          refine lv_iload_n hx hb d_B_takeText_56 rfl (lv_at hl 0 rfl) ?_
          refine wz_iconst (n := 1) hx hb d_B_takeText_57 ?_
          refine wz_iadd (z := ((b0 + 1 : Nat) : Int)) hx hb d_B_takeText_58 (by omega) ?_
          refine lv_aload_n hx hb d_B_takeText_59 rfl (lv_at hl 3 rfl) ?_
          refine pw_get (ci := 2) (C := R_T) (T := T_T) (N := 2) hx hb hq i_T hown hw (by omega) hT_at_39 rfl 1 (by decide) (hq _ fl_B_101) (fun _ h9 => h9) rfl d_B_takeText_60 ?_
          refine lv_aload_n hx hb d_B_takeText_63 rfl (lv_at hl 2 rfl) ?_
          refine pw_get (ci := 4) (C := R_B) (T := T_B) (N := 7) hx hb hq i_B hown hw (by omega) m21_82_at_39 rfl 1 (by decide) (hq _ fl_B_20) (fun _ h9 => h9) rfl d_B_takeText_64 ?_
          refine pw_calli hw (va_runV (As := [.int (iI (((b0 + 1 : Nat) : Int))), .int (iI ((n : Int))), .ref (ad (85))]) (rest := []) ⟨hx, hb, hml, hown, hq⟩ (c_T_tell l D ty ad M F39 H.size hM n tx ⟨hT_at_39, g, hC_at_39, hn, hg, hlt⟩ 85 (b0 + 1) (n) (by omega) (by omega) (by omega) (hd2 (by omega)) (w85_at_39).a) (cwV 3 hq (gV ml_B_97 im_T_tell se_T_tell in_T m_T_tell) rfl rfl rfl (by decide +kernel) ⟨Nat.le_of_ble_eq_true rfl, Nat.le_of_ble_eq_true rfl⟩) (pw_preV hw (by omega) hT_at_39 rfl) rfl rfl hl.1 rfl (lv_room (Nat.le_of_ble_eq_true rfl)) d_B_takeText_67 ⟨Nat.le_of_ble_eq_true rfl, Nat.le_of_ble_eq_true rfl⟩) (fun r67 F67 H locs q67 hw => ?_)
          obtain ⟨ha67, hb67, w85, hf67⟩ := q67
          have w87_at_67 : Wa ty ad F67 (87) 136 := Wa.mv w87_at_39 (hf67 (87) (by omega) (by omega)) (hf67 (87 + 1) (by omega) (by omega))
          have w89_at_67 : Wa ty ad F67 (89) 136 := Wa.mv w89_at_39 (hf67 (89) (by omega) (by omega)) (hf67 (89 + 1) (by omega) (by omega))
          have w91_at_67 : Wa ty ad F67 (91) 136 := Wa.mv w91_at_39 (hf67 (91) (by omega) (by omega)) (hf67 (91 + 1) (by omega) (by omega))
          have hD_at_67 : F67 (93) = .inr (3, [.ref (ad (93 + 1)), .long (f0), .long (g0), .long (h0), .long (k0)]) := (hf67 (93) (by omega) (by omega)).trans hD_at_39
          have w94_at_67 : Wa ty ad F67 (93 + 1) 136 := Wa.mv w94_at_39 (hf67 (93 + 1) (by omega) (by omega)) (hf67 (93 + 1 + 1) (by omega) (by omega))
          have hT_at_67 : F67 (96) = .inr (2, [.ref (ad (97)), .int (iI ((n : Int)))]) := (hf67 (96) (by omega) (by omega)).trans hT_at_39
          have hC_at_67 : F67 (97) = .inl (ty 1, 1400, .inl (g)) := (hf67 (97) (by omega) (by omega)).trans hC_at_39
          have m21_82_at_67 : F67 (82) = .inr (4, [.ref (ad (83)), .ref (ad (85)), .ref (ad (87)), .ref (ad (89)), .ref (ad (91)), .ref (ad (93)), .int (iI (0))]) := (hf67 (82) (by omega) (by omega)).trans m21_82_at_39
          have w83v_at_67 : Wv ty ad F67 (83) 136 (dval tx a0 (b0 - a0)) := Wv.mv w83v (hf67 (83) (by omega) (by omega)) (hf67 (83 + 1) (by omega) (by omega))
          refine lv_if_eq (tgt := 77) hx hb d_B_takeText_70 (by decide) (fun c70 => ?_) (fun c70 => ?_)
          · have hs2 : ¬ sm (dval tx (b0 + 1) (n - (b0 + 1))) := fun h9 => by
              have h8 := (ha67 h9).1
              rw [c70] at h8
              exact absurd h8 (by decide)
            refine wz_iconst (n := 0) hx hb d_B_takeText_77 ?_
            rw [← hQ]
            exact pw_zret hx hb hr (by decide) hlocks hw (⟨fun h9 => absurd (by rw [← hden (by omega)]; exact h9.2) hs2, fun _ => rfl, ⟨⟨a0, ha1.2, (by rw [show a0 = 0 by omega]; exact m21_82_at_67)⟩, (w83v_at_67).a, w85, w87_at_67, w89_at_67, w91_at_67, ⟨_, _, _, _, hD_at_67⟩, w94_at_67⟩, fun y9 h9 => (hf67 (y9) (by omega) (by omega)).trans ((hf39 (y9) (by omega) (by omega)).trans ((hf29 (y9) (by omega) (by omega)).trans (show F21 (y9) = F (y9) from by rw [eF21]; exact va_up_ne _ _ (by omega))))⟩) d_B_takeText_78
          · have hs2 : sm (dval tx (b0 + 1) (n - (b0 + 1))) := Classical.byContradiction (fun h9 => c70 (hb67 h9))
            obtain ⟨-, w85v⟩ := ha67 hs2
            refine wz_iconst (n := 1) hx hb d_B_takeText_73 ?_
            refine lv_goto (tgt := 78) hx hb d_B_takeText_74 (by decide) ?_
            rw [← hQ]
            exact pw_zret hx hb hr (by decide) hlocks hw (⟨fun _ => ⟨rfl, by rw [hnum, hden (by omega), ← ha0]; exact ⟨ha1.2, (by rw [show a0 = 0 by omega]; exact m21_82_at_67), w83v_at_67, w85v, w87_at_67, w89_at_67, w91_at_67, ⟨_, _, _, _, hD_at_67⟩, w94_at_67⟩⟩, fun h9 => absurd ⟨by rw [hnum]; exact hs1, by rw [hden (by omega)]; exact hs2⟩ h9, ⟨⟨a0, ha1.2, (by rw [show a0 = 0 by omega]; exact m21_82_at_67)⟩, (w83v_at_67).a, (w85v).a, w87_at_67, w89_at_67, w91_at_67, ⟨_, _, _, _, hD_at_67⟩, w94_at_67⟩, fun y9 h9 => (hf67 (y9) (by omega) (by omega)).trans ((hf39 (y9) (by omega) (by omega)).trans ((hf29 (y9) (by omega) (by omega)).trans (show F21 (y9) = F (y9) from by rw [eF21]; exact va_up_ne _ _ (by omega))))⟩) d_B_takeText_78
      · have hs1 : ¬ sm (dval tx a0 (b0 - a0)) := fun h9 => by
          have h8 := (ha39 h9).1
          rw [c42] at h8
          exact absurd h8 (by decide)
        refine wz_iconst (n := 0) hx hb d_B_takeText_45 ?_
        rw [← hQ]
        exact pw_zret hx hb hr (by decide) hlocks hw (⟨fun h9 => absurd (by rw [← hnum]; exact h9.1) hs1, fun _ => rfl, ⟨⟨a0, ha1.2, (by rw [show a0 = 0 by omega]; exact m21_82_at_39)⟩, w83, (w85_at_39).a, w87_at_39, w89_at_39, w91_at_39, ⟨_, _, _, _, hD_at_39⟩, w94_at_39⟩, fun y9 h9 => (hf39 (y9) (by omega) (by omega)).trans ((hf29 (y9) (by omega) (by omega)).trans (show F21 (y9) = F (y9) from by rw [eF21]; exact va_up_ne _ _ (by omega)))⟩) d_B_takeText_46
    · refine wz_iconst (n := 1) hx hb d_B_takeText_16 ?_
      refine lv_goto (tgt := 21) hx hb d_B_takeText_17 (by decide) ?_
      refine pw_put (ci := 4) (C := R_B) (T := T_B) (N := 7) (ty := .boolean) (fs' := [.ref (ad (83)), .ref (ad (85)), .ref (ad (87)), .ref (ad (89)), .ref (ad (91)), .ref (ad (93)), .int (iI (1))]) hx hb hq i_B ft_B ft_B_ok n_B hown hw (by omega) hB rfl 6 (by decide) (hq _ fl_B_39) (fun _ h9 => h9) rfl (by decide +kernel) rfl rfl (Nat.le_of_ble_eq_true rfl) rfl d_B_takeText_21 (fun F21 H locs eF21 hw => ?_)
      have m21_82 : F21 (82) = .inr (4, [.ref (ad (83)), .ref (ad (85)), .ref (ad (87)), .ref (ad (89)), .ref (ad (91)), .ref (ad (93)), .int (iI (1))]) := by rw [eF21]; exact va_up_self ..
      have w83_at_21 : Wa ty ad F21 (83) 136 := Wa.mv w83 (show F21 (83) = F (83) from by rw [eF21]; exact va_up_ne _ _ (by omega)) (show F21 (83 + 1) = F (83 + 1) from by rw [eF21]; exact va_up_ne _ _ (by omega))
      have w85_at_21 : Wa ty ad F21 (85) 136 := Wa.mv w85 (show F21 (85) = F (85) from by rw [eF21]; exact va_up_ne _ _ (by omega)) (show F21 (85 + 1) = F (85 + 1) from by rw [eF21]; exact va_up_ne _ _ (by omega))
      have w87_at_21 : Wa ty ad F21 (87) 136 := Wa.mv w87 (show F21 (87) = F (87) from by rw [eF21]; exact va_up_ne _ _ (by omega)) (show F21 (87 + 1) = F (87 + 1) from by rw [eF21]; exact va_up_ne _ _ (by omega))
      have w89_at_21 : Wa ty ad F21 (89) 136 := Wa.mv w89 (show F21 (89) = F (89) from by rw [eF21]; exact va_up_ne _ _ (by omega)) (show F21 (89 + 1) = F (89 + 1) from by rw [eF21]; exact va_up_ne _ _ (by omega))
      have w91_at_21 : Wa ty ad F21 (91) 136 := Wa.mv w91 (show F21 (91) = F (91) from by rw [eF21]; exact va_up_ne _ _ (by omega)) (show F21 (91 + 1) = F (91 + 1) from by rw [eF21]; exact va_up_ne _ _ (by omega))
      have hD_at_21 : F21 (93) = .inr (3, [.ref (ad (93 + 1)), .long (f0), .long (g0), .long (h0), .long (k0)]) := (show F21 (93) = F (93) from by rw [eF21]; exact va_up_ne _ _ (by omega)).trans hD
      have w94_at_21 : Wa ty ad F21 (93 + 1) 136 := Wa.mv w94 (show F21 (93 + 1) = F (93 + 1) from by rw [eF21]; exact va_up_ne _ _ (by omega)) (show F21 (93 + 1 + 1) = F (93 + 1 + 1) from by rw [eF21]; exact va_up_ne _ _ (by omega))
      have hT_at_21 : F21 (96) = .inr (2, [.ref (ad (97)), .int (iI ((n : Int)))]) := (show F21 (96) = F (96) from by rw [eF21]; exact va_up_ne _ _ (by omega)).trans hT
      have hC_at_21 : F21 (97) = .inl (ty 1, 1400, .inl (g)) := (show F21 (97) = F (97) from by rw [eF21]; exact va_up_ne _ _ (by omega)).trans hC
      refine lv_aload_n hx hb d_B_takeText_24 rfl (lv_at hl 2 rfl) ?_
      refine pw_get (ci := 4) (C := R_B) (T := T_B) (N := 7) hx hb hq i_B hown hw (by omega) m21_82 rfl 1 (by decide) (hq _ fl_B_20) (fun _ h9 => h9) rfl d_B_takeText_25 ?_
      refine lv_lconst (v := iL 1) hx hb d_B_takeText_28 (by decide) ?_
      refine pw_callv hw (va_runV (As := [.long (iL (1))]) (rest := []) ⟨hx, hb, hml, hown, hq⟩ (c_W_becomeLong l D ty ad M F21 H.size (85) 136 (1) (by omega) (by omega) (by omega) (by omega) w85_at_21) (cwV 1 hq (gV ml_B_83 im_W_becomeLong se_W_becomeLong in_W m_W_becomeLong) rfl rfl rfl (by decide +kernel) ⟨Nat.le_of_ble_eq_true rfl, Nat.le_of_ble_eq_true rfl⟩) (pw_preWa hw (by omega) w85_at_21) rfl rfl hl.1 rfl (lv_room (Nat.le_of_ble_eq_true rfl)) d_B_takeText_29 ⟨Nat.le_of_ble_eq_true rfl, Nat.le_of_ble_eq_true rfl⟩) (fun F29 H locs q29 hw => ?_)
      obtain ⟨w85, hf29⟩ := q29
      have w83_at_29 : Wa ty ad F29 (83) 136 := Wa.mv w83_at_21 (hf29 (83) (by omega) (by omega)) (hf29 (83 + 1) (by omega) (by omega))
      have w87_at_29 : Wa ty ad F29 (87) 136 := Wa.mv w87_at_21 (hf29 (87) (by omega) (by omega)) (hf29 (87 + 1) (by omega) (by omega))
      have w89_at_29 : Wa ty ad F29 (89) 136 := Wa.mv w89_at_21 (hf29 (89) (by omega) (by omega)) (hf29 (89 + 1) (by omega) (by omega))
      have w91_at_29 : Wa ty ad F29 (91) 136 := Wa.mv w91_at_21 (hf29 (91) (by omega) (by omega)) (hf29 (91 + 1) (by omega) (by omega))
      have hD_at_29 : F29 (93) = .inr (3, [.ref (ad (93 + 1)), .long (f0), .long (g0), .long (h0), .long (k0)]) := (hf29 (93) (by omega) (by omega)).trans hD_at_21
      have w94_at_29 : Wa ty ad F29 (93 + 1) 136 := Wa.mv w94_at_21 (hf29 (93 + 1) (by omega) (by omega)) (hf29 (93 + 1 + 1) (by omega) (by omega))
      have hT_at_29 : F29 (96) = .inr (2, [.ref (ad (97)), .int (iI ((n : Int)))]) := (hf29 (96) (by omega) (by omega)).trans hT_at_21
      have hC_at_29 : F29 (97) = .inl (ty 1, 1400, .inl (g)) := (hf29 (97) (by omega) (by omega)).trans hC_at_21
      have m21_82_at_29 : F29 (82) = .inr (4, [.ref (ad (83)), .ref (ad (85)), .ref (ad (87)), .ref (ad (89)), .ref (ad (91)), .ref (ad (93)), .int (iI (1))]) := (hf29 (82) (by omega) (by omega)).trans m21_82
      refine lv_aload_n hx hb d_B_takeText_32 rfl (lv_at hl 3 rfl) ?_
      refine lv_iload_n hx hb d_B_takeText_33 rfl (lv_at hl 1 rfl) ?_
      refine lv_iload_n hx hb d_B_takeText_34 rfl (lv_at hl 0 rfl) ?_
      refine lv_aload_n hx hb d_B_takeText_35 rfl (lv_at hl 2 rfl) ?_
      refine pw_get (ci := 4) (C := R_B) (T := T_B) (N := 7) hx hb hq i_B hown hw (by omega) m21_82_at_29 rfl 0 (by decide) (hq _ fl_B_16) (fun _ h9 => h9) rfl d_B_takeText_36 ?_
      refine pw_calli hw (va_runV (As := [.int (iI ((a0 : Int))), .int (iI ((b0 : Int))), .ref (ad (83))]) (rest := []) ⟨hx, hb, hml, hown, hq⟩ (c_T_tell l D ty ad M F29 H.size hM n tx ⟨hT_at_29, g, hC_at_29, hn, hg, hlt⟩ 83 (a0) (b0) (by omega) (by omega) (by omega) (hd1) w83_at_29) (cwV 3 hq (gV ml_B_97 im_T_tell se_T_tell in_T m_T_tell) rfl rfl rfl (by decide +kernel) ⟨Nat.le_of_ble_eq_true rfl, Nat.le_of_ble_eq_true rfl⟩) (pw_preV hw (by omega) hT_at_29 rfl) rfl rfl hl.1 rfl (lv_room (Nat.le_of_ble_eq_true rfl)) d_B_takeText_39 ⟨Nat.le_of_ble_eq_true rfl, Nat.le_of_ble_eq_true rfl⟩) (fun r39 F39 H locs q39 hw => ?_)
      obtain ⟨ha39, hb39, w83, hf39⟩ := q39
      have w87_at_39 : Wa ty ad F39 (87) 136 := Wa.mv w87_at_29 (hf39 (87) (by omega) (by omega)) (hf39 (87 + 1) (by omega) (by omega))
      have w89_at_39 : Wa ty ad F39 (89) 136 := Wa.mv w89_at_29 (hf39 (89) (by omega) (by omega)) (hf39 (89 + 1) (by omega) (by omega))
      have w91_at_39 : Wa ty ad F39 (91) 136 := Wa.mv w91_at_29 (hf39 (91) (by omega) (by omega)) (hf39 (91 + 1) (by omega) (by omega))
      have hD_at_39 : F39 (93) = .inr (3, [.ref (ad (93 + 1)), .long (f0), .long (g0), .long (h0), .long (k0)]) := (hf39 (93) (by omega) (by omega)).trans hD_at_29
      have w94_at_39 : Wa ty ad F39 (93 + 1) 136 := Wa.mv w94_at_29 (hf39 (93 + 1) (by omega) (by omega)) (hf39 (93 + 1 + 1) (by omega) (by omega))
      have hT_at_39 : F39 (96) = .inr (2, [.ref (ad (97)), .int (iI ((n : Int)))]) := (hf39 (96) (by omega) (by omega)).trans hT_at_29
      have hC_at_39 : F39 (97) = .inl (ty 1, 1400, .inl (g)) := (hf39 (97) (by omega) (by omega)).trans hC_at_29
      have m21_82_at_39 : F39 (82) = .inr (4, [.ref (ad (83)), .ref (ad (85)), .ref (ad (87)), .ref (ad (89)), .ref (ad (91)), .ref (ad (93)), .int (iI (1))]) := (hf39 (82) (by omega) (by omega)).trans m21_82_at_29
      have w85_at_39 : Wv ty ad F39 (85) 136 (1) := Wv.mv w85 (hf39 (85) (by omega) (by omega)) (hf39 (85 + 1) (by omega) (by omega))
      refine lv_if_ne (tgt := 47) hx hb d_B_takeText_42 (by decide) (fun c42 => ?_) (fun c42 => ?_)
      · have hs1 : sm (dval tx a0 (b0 - a0)) := Classical.byContradiction (fun h9 => c42 (hb39 h9))
        obtain ⟨-, w83v⟩ := ha39 hs1
        refine lv_iload_n hx hb d_B_takeText_47 rfl (lv_at hl 0 rfl) ?_
        refine lv_aload_n hx hb d_B_takeText_48 rfl (lv_at hl 3 rfl) ?_
        refine pw_get (ci := 2) (C := R_T) (T := T_T) (N := 2) hx hb hq i_T hown hw (by omega) hT_at_39 rfl 1 (by decide) (hq _ fl_B_101) (fun _ h9 => h9) rfl d_B_takeText_49 ?_
        refine wz_icmp_ge (tgt := 73) hx hb d_B_takeText_52 (by decide) (by omega) (by omega) (by omega) (by omega) (fun c52 => ?_) (fun c52 => ?_)
        · refine wz_iconst (n := 1) hx hb d_B_takeText_73 ?_
          refine lv_goto (tgt := 78) hx hb d_B_takeText_74 (by decide) ?_
          rw [← hQ]
          exact pw_zret hx hb hr (by decide) hlocks hw (⟨fun _ => ⟨rfl, by rw [hnum, hden1 (by omega), ← ha0]; exact ⟨ha1.2, (by rw [show a0 = 1 by omega]; exact m21_82_at_39), w83v, w85_at_39, w87_at_39, w89_at_39, w91_at_39, ⟨_, _, _, _, hD_at_39⟩, w94_at_39⟩⟩, fun h9 => absurd ⟨by rw [hnum]; exact hs1, by rw [hden1 (by omega)]; exact sm_1⟩ h9, ⟨⟨a0, ha1.2, (by rw [show a0 = 1 by omega]; exact m21_82_at_39)⟩, (w83v).a, (w85_at_39).a, w87_at_39, w89_at_39, w91_at_39, ⟨_, _, _, _, hD_at_39⟩, w94_at_39⟩, fun y9 h9 => (hf39 (y9) (by omega) (by omega)).trans ((hf29 (y9) (by omega) (by omega)).trans (show F21 (y9) = F (y9) from by rw [eF21]; exact va_up_ne _ _ (by omega)))⟩) d_B_takeText_78
        · refine lv_aload_n hx hb d_B_takeText_55 rfl (lv_at hl 3 rfl) ?_
          refine lv_iload_n hx hb d_B_takeText_56 rfl (lv_at hl 0 rfl) ?_
          refine wz_iconst (n := 1) hx hb d_B_takeText_57 ?_
          refine wz_iadd (z := ((b0 + 1 : Nat) : Int)) hx hb d_B_takeText_58 (by omega) ?_
          refine lv_aload_n hx hb d_B_takeText_59 rfl (lv_at hl 3 rfl) ?_
          refine pw_get (ci := 2) (C := R_T) (T := T_T) (N := 2) hx hb hq i_T hown hw (by omega) hT_at_39 rfl 1 (by decide) (hq _ fl_B_101) (fun _ h9 => h9) rfl d_B_takeText_60 ?_
          refine lv_aload_n hx hb d_B_takeText_63 rfl (lv_at hl 2 rfl) ?_
          refine pw_get (ci := 4) (C := R_B) (T := T_B) (N := 7) hx hb hq i_B hown hw (by omega) m21_82_at_39 rfl 1 (by decide) (hq _ fl_B_20) (fun _ h9 => h9) rfl d_B_takeText_64 ?_
          refine pw_calli hw (va_runV (As := [.int (iI (((b0 + 1 : Nat) : Int))), .int (iI ((n : Int))), .ref (ad (85))]) (rest := []) ⟨hx, hb, hml, hown, hq⟩ (c_T_tell l D ty ad M F39 H.size hM n tx ⟨hT_at_39, g, hC_at_39, hn, hg, hlt⟩ 85 (b0 + 1) (n) (by omega) (by omega) (by omega) (hd2 (by omega)) (w85_at_39).a) (cwV 3 hq (gV ml_B_97 im_T_tell se_T_tell in_T m_T_tell) rfl rfl rfl (by decide +kernel) ⟨Nat.le_of_ble_eq_true rfl, Nat.le_of_ble_eq_true rfl⟩) (pw_preV hw (by omega) hT_at_39 rfl) rfl rfl hl.1 rfl (lv_room (Nat.le_of_ble_eq_true rfl)) d_B_takeText_67 ⟨Nat.le_of_ble_eq_true rfl, Nat.le_of_ble_eq_true rfl⟩) (fun r67 F67 H locs q67 hw => ?_)
          obtain ⟨ha67, hb67, w85, hf67⟩ := q67
          have w87_at_67 : Wa ty ad F67 (87) 136 := Wa.mv w87_at_39 (hf67 (87) (by omega) (by omega)) (hf67 (87 + 1) (by omega) (by omega))
          have w89_at_67 : Wa ty ad F67 (89) 136 := Wa.mv w89_at_39 (hf67 (89) (by omega) (by omega)) (hf67 (89 + 1) (by omega) (by omega))
          have w91_at_67 : Wa ty ad F67 (91) 136 := Wa.mv w91_at_39 (hf67 (91) (by omega) (by omega)) (hf67 (91 + 1) (by omega) (by omega))
          have hD_at_67 : F67 (93) = .inr (3, [.ref (ad (93 + 1)), .long (f0), .long (g0), .long (h0), .long (k0)]) := (hf67 (93) (by omega) (by omega)).trans hD_at_39
          have w94_at_67 : Wa ty ad F67 (93 + 1) 136 := Wa.mv w94_at_39 (hf67 (93 + 1) (by omega) (by omega)) (hf67 (93 + 1 + 1) (by omega) (by omega))
          have hT_at_67 : F67 (96) = .inr (2, [.ref (ad (97)), .int (iI ((n : Int)))]) := (hf67 (96) (by omega) (by omega)).trans hT_at_39
          have hC_at_67 : F67 (97) = .inl (ty 1, 1400, .inl (g)) := (hf67 (97) (by omega) (by omega)).trans hC_at_39
          have m21_82_at_67 : F67 (82) = .inr (4, [.ref (ad (83)), .ref (ad (85)), .ref (ad (87)), .ref (ad (89)), .ref (ad (91)), .ref (ad (93)), .int (iI (1))]) := (hf67 (82) (by omega) (by omega)).trans m21_82_at_39
          have w83v_at_67 : Wv ty ad F67 (83) 136 (dval tx a0 (b0 - a0)) := Wv.mv w83v (hf67 (83) (by omega) (by omega)) (hf67 (83 + 1) (by omega) (by omega))
          refine lv_if_eq (tgt := 77) hx hb d_B_takeText_70 (by decide) (fun c70 => ?_) (fun c70 => ?_)
          · have hs2 : ¬ sm (dval tx (b0 + 1) (n - (b0 + 1))) := fun h9 => by
              have h8 := (ha67 h9).1
              rw [c70] at h8
              exact absurd h8 (by decide)
            refine wz_iconst (n := 0) hx hb d_B_takeText_77 ?_
            rw [← hQ]
            exact pw_zret hx hb hr (by decide) hlocks hw (⟨fun h9 => absurd (by rw [← hden (by omega)]; exact h9.2) hs2, fun _ => rfl, ⟨⟨a0, ha1.2, (by rw [show a0 = 1 by omega]; exact m21_82_at_67)⟩, (w83v_at_67).a, w85, w87_at_67, w89_at_67, w91_at_67, ⟨_, _, _, _, hD_at_67⟩, w94_at_67⟩, fun y9 h9 => (hf67 (y9) (by omega) (by omega)).trans ((hf39 (y9) (by omega) (by omega)).trans ((hf29 (y9) (by omega) (by omega)).trans (show F21 (y9) = F (y9) from by rw [eF21]; exact va_up_ne _ _ (by omega))))⟩) d_B_takeText_78
          · have hs2 : sm (dval tx (b0 + 1) (n - (b0 + 1))) := Classical.byContradiction (fun h9 => c70 (hb67 h9))
            obtain ⟨-, w85v⟩ := ha67 hs2
            refine wz_iconst (n := 1) hx hb d_B_takeText_73 ?_
            refine lv_goto (tgt := 78) hx hb d_B_takeText_74 (by decide) ?_
            rw [← hQ]
            exact pw_zret hx hb hr (by decide) hlocks hw (⟨fun _ => ⟨rfl, by rw [hnum, hden (by omega), ← ha0]; exact ⟨ha1.2, (by rw [show a0 = 1 by omega]; exact m21_82_at_67), w83v_at_67, w85v, w87_at_67, w89_at_67, w91_at_67, ⟨_, _, _, _, hD_at_67⟩, w94_at_67⟩⟩, fun h9 => absurd ⟨by rw [hnum]; exact hs1, by rw [hden (by omega)]; exact hs2⟩ h9, ⟨⟨a0, ha1.2, (by rw [show a0 = 1 by omega]; exact m21_82_at_67)⟩, (w83v_at_67).a, (w85v).a, w87_at_67, w89_at_67, w91_at_67, ⟨_, _, _, _, hD_at_67⟩, w94_at_67⟩, fun y9 h9 => (hf67 (y9) (by omega) (by omega)).trans ((hf39 (y9) (by omega) (by omega)).trans ((hf29 (y9) (by omega) (by omega)).trans (show F21 (y9) = F (y9) from by rw [eF21]; exact va_up_ne _ _ (by omega))))⟩) d_B_takeText_78
      · have hs1 : ¬ sm (dval tx a0 (b0 - a0)) := fun h9 => by
          have h8 := (ha39 h9).1
          rw [c42] at h8
          exact absurd h8 (by decide)
        refine wz_iconst (n := 0) hx hb d_B_takeText_45 ?_
        rw [← hQ]
        exact pw_zret hx hb hr (by decide) hlocks hw (⟨fun h9 => absurd (by rw [← hnum]; exact h9.1) hs1, fun _ => rfl, ⟨⟨a0, ha1.2, (by rw [show a0 = 1 by omega]; exact m21_82_at_39)⟩, w83, (w85_at_39).a, w87_at_39, w89_at_39, w91_at_39, ⟨_, _, _, _, hD_at_39⟩, w94_at_39⟩, fun y9 h9 => (hf39 (y9) (by omega) (by omega)).trans ((hf29 (y9) (by omega) (by omega)).trans (show F21 (y9) = F (y9) from by rw [eF21]; exact va_up_ne _ _ (by omega)))⟩) d_B_takeText_46
  rw [hH, hlo] at hgo
  exact hgo
