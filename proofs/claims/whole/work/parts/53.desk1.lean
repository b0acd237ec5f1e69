/-! FractionDesk: byteOf, type: by program -/
set_option maxHeartbeats 4000000 in
set_option maxRecDepth 100000 in
/-- byteOf -/
theorem c_K_byteOf (l : Launch) (D : va_G) (ty : Nat → ClassId) (ad : Nat → Nat) (M : Nat) (F : Nat → va_E) (sz : Nat) (C k : Nat) (hC : C < 18446744073709551616) (hk : k ≤ 7) :
    CI l y_K_byteOf w_K_byteOf ({ frames := 0, cells := 0, slots := 0, locals := 0 } : Room) [.long (iL ((C : Int))), .int (iI ((k : Int)))] D ty ad M F sz (fun r F1 => r = iI (byt C k) ∧ F1 = F) := by
  refine Met.ofW (cc := b_K_byteOf) (maxL := 3) (ret := (some .int)) (by decide) rfl ?_
  intro p e s m args below meth c s₁ B hml hv
  obtain ⟨rfl, hsz, hP, hK, hD0⟩ := hv
  have hx := B.exec
  have hb := B.bytes
  have hr := B.returns
  have hts := atoms_spec (ws := w_K_byteOf) B.pre
  have hq : ∀ w ∈ wT, w.before _ s = true := fun w h => hts w (List.mem_cons_of_mem _ h)
  have hown : s.vm.findClass R_K = some m.cls := findClass_of_methodNamed B.named
  have hlocks := B.notSynchronized
  subst hsz
  have hw := pw_start hP hK hD0
  have hl := lv_entry ([.long (iL ((C : Int))), .int (iI ((k : Int)))]) (n := 3) (Nat.le_of_ble_eq_true rfl)
  rw [lg_entry_eq]
  generalize (lg_sl ([.long (iL ((C : Int))), .int (iI ((k : Int)))]) ++ List.replicate (3 - (lg_sl ([.long (iL ((C : Int))), .int (iI ((k : Int)))])).length) Slot.unset).toArray = ls at hl ⊢
  have hl : lv_has ls 3 [(0, .long (iL ((C : Int)))), (2, .int (iI ((k : Int))))] := hl
  change W p l e ({ frames := 0, cells := 0, slots := 0, locals := 0 } : Room) s m ([.long (iL ((C : Int))), .int (iI ((k : Int)))]).toArray below meth c s.heap [] 0 0 (MQ below (va_Qi (fun r F1 => r = iI (byt C k) ∧ F1 = F) (pAt D classes (tysL ty) ad M (pA ad M s.heap.size)) (pA ad M s.heap.size)) ([.long (iL ((C : Int))), .int (iI ((k : Int)))]).toArray s 0 0 (pA ad M s.heap.size)) (F0 m 0 ls [])
  generalize hQ : MQ below (va_Qi (fun r F1 => r = iI (byt C k) ∧ F1 = F) (pAt D classes (tysL ty) ad M (pA ad M s.heap.size)) (pA ad M s.heap.size)) ([.long (iL ((C : Int))), .int (iI ((k : Int)))]).toArray s 0 0 (pA ad M s.heap.size) = Q
  obtain ⟨H, hH⟩ : ∃ H, H = s.heap := ⟨_, rfl⟩
  obtain ⟨locs, hlo⟩ : ∃ z : List Loc, z = [] := ⟨_, rfl⟩
  have hw : pw D classes (tysL ty) ad M F (pA ad M s.heap.size) s H locs := by rw [hH, hlo]; exact hw
  have hgo : W p l e ({ frames := 0, cells := 0, slots := 0, locals := 0 } : Room) s m ([.long (iL ((C : Int))), .int (iI ((k : Int)))]).toArray below meth c H locs 0 0 Q (F0 m 0 ls []) := by
    refine lv_lload_n hx hb d_K_byteOf_0 rfl (lv_at hl 0 rfl) ?_
    refine wz_bipush (n := 8) hx hb d_K_byteOf_1 (by decide) ?_
    refine lv_iload_n hx hb d_K_byteOf_3 rfl (lv_at hl 1 rfl) ?_
    refine wz_imul (z := ((8 * k : Nat) : Int)) hx hb d_K_byteOf_4 (by omega) ?_
    refine lv_lushr (v := iL (((C / 2 ^ (8 * k) : Nat) : Int))) hx hb d_K_byteOf_5 (iL_ushr (by omega) hC) ?_
    refine wz_l2i hx hb d_K_byteOf_6 ?_
    refine wz_sipush (n := 255) hx hb d_K_byteOf_7 (by decide) ?_
    refine lv_iand hx hb d_K_byteOf_10 ?_
    refine lv_topi (fun x10 ex10 => ?_)
    obtain rfl : x10 = iI ((byt C k : Int)) := ex10.trans (byt_I hC hk)
    rw [← hQ]
    exact pw_iret hx hb hr hlocks hw (⟨rfl, rfl⟩) d_K_byteOf_11
  rw [hH, hlo] at hgo
  exact hgo
set_option maxHeartbeats 4000000 in
set_option maxRecDepth 100000 in
/-- type(characters, n) -/
theorem c_K_type (l : Launch) (D : va_G) (ty : Nat → ClassId) (ad : Nat → Nat) (M : Nat) (F : Nat → va_E) (sz : Nat) (hM : 97 < M) (g : Sg) (hDk : Dk ty ad F g) (hok : okS g) (C : Nat) (mm : Int) (hC : C < 18446744073709551616) (hm : -2147483648 ≤ mm ∧ mm < 2147483648) :
    CI l y_K_type w_K_type ({ frames := 1, cells := 0, slots := 0, locals := 22 } : Room) [.ref (ad (0)), .long (iL ((C : Int))), .int (iI (mm))] D ty ad M F sz (fun r F1 => r = iI (s_type g C mm).1 ∧ Dk ty ad F1 (s_type g C mm).2 ∧ frD F F1) := by
  refine Met.ofW (cc := b_K_type) (maxL := 6) (ret := (some .int)) (by decide) rfl ?_
  intro p e s m args below meth c s₁ B hml hv
  obtain ⟨rfl, hsz, hP, hK, hD0⟩ := hv
  have hx := B.exec
  have hb := B.bytes
  have hr := B.returns
  have hts := atoms_spec (ws := w_K_type) B.pre
  have hq : ∀ w ∈ wT, w.before _ s = true := fun w h => hts w (List.mem_cons_of_mem _ h)
  have hown : s.vm.findClass R_K = some m.cls := findClass_of_methodNamed B.named
  have hlocks := B.notSynchronized
  subst hsz
  have hw := pw_start hP hK hD0
  have hl := lv_entry ([.ref (ad (0)), .long (iL ((C : Int))), .int (iI (mm))]) (n := 6) (Nat.le_of_ble_eq_true rfl)
  rw [lg_entry_eq]
  generalize (lg_sl ([.ref (ad (0)), .long (iL ((C : Int))), .int (iI (mm))]) ++ List.replicate (6 - (lg_sl ([.ref (ad (0)), .long (iL ((C : Int))), .int (iI (mm))])).length) Slot.unset).toArray = ls at hl ⊢
  have hl : lv_has ls 6 [(0, .ref (ad (0))), (1, .long (iL ((C : Int)))), (3, .int (iI (mm)))] := hl
  change W p l e ({ frames := 1, cells := 0, slots := 0, locals := 22 } : Room) s m ([.ref (ad (0)), .long (iL ((C : Int))), .int (iI (mm))]).toArray below meth c s.heap [] 0 0 (MQ below (va_Qi (fun r F1 => r = iI (s_type g C mm).1 ∧ Dk ty ad F1 (s_type g C mm).2 ∧ frD F F1) (pAt D classes (tysL ty) ad M (pA ad M s.heap.size)) (pA ad M s.heap.size)) ([.ref (ad (0)), .long (iL ((C : Int))), .int (iI (mm))]).toArray s 0 0 (pA ad M s.heap.size)) (F0 m 0 ls [])
  generalize hQ : MQ below (va_Qi (fun r F1 => r = iI (s_type g C mm).1 ∧ Dk ty ad F1 (s_type g C mm).2 ∧ frD F F1) (pAt D classes (tysL ty) ad M (pA ad M s.heap.size)) (pA ad M s.heap.size)) ([.ref (ad (0)), .long (iL ((C : Int))), .int (iI (mm))]).toArray s 0 0 (pA ad M s.heap.size) = Q
  obtain ⟨H, hH⟩ : ∃ H, H = s.heap := ⟨_, rfl⟩
  obtain ⟨locs, hlo⟩ : ∃ z : List Loc, z = [] := ⟨_, rfl⟩
  have hw : pw D classes (tysL ty) ad M F (pA ad M s.heap.size) s H locs := by rw [hH, hlo]; exact hw
  have hgo : W p l e ({ frames := 1, cells := 0, slots := 0, locals := 22 } : Room) s m ([.ref (ad (0)), .long (iL ((C : Int))), .int (iI (mm))]).toArray below meth c H locs 0 0 Q (F0 m 0 ls []) := by
    obtain ⟨hK, hRg, hBn, hTx⟩ := id hDk
    obtain ⟨hT, g0, hC0, hn, hg, hlt⟩ := id hTx
    refine lv_iload_n hx hb d_K_type_0 rfl (lv_at hl 2 rfl) ?_
    refine wz_iconst (n := 1) hx hb d_K_type_1 ?_
    refine wz_icmp_lt (tgt := 26) hx hb d_K_type_2 (by decide) (by omega) (by omega) (by omega) (by omega) (fun c2 => ?_) (fun c2 => ?_)
    · refine wz_iconst (n := -1) hx hb d_K_type_26 ?_
      rw [← hQ]
      exact pw_iret hx hb hr hlocks hw (by
        rw [s_type, cif_neg (fun h9 => by have := h9.1; omega)]
        exact ⟨rfl, hDk, fun _ _ => rfl⟩) d_K_type_27
    · refine lv_iload_n hx hb d_K_type_5 rfl (lv_at hl 2 rfl) ?_
      refine wz_bipush (n := 8) hx hb d_K_type_6 (by decide) ?_
      refine wz_icmp_gt (tgt := 26) hx hb d_K_type_8 (by decide) (by omega) (by omega) (by omega) (by omega) (fun c8 => ?_) (fun c8 => ?_)
      · refine wz_iconst (n := -1) hx hb d_K_type_26 ?_
        rw [← hQ]
        exact pw_iret hx hb hr hlocks hw (by
          rw [s_type, cif_neg (fun h9 => by have := h9.2.1; omega)]
          exact ⟨rfl, hDk, fun _ _ => rfl⟩) d_K_type_27
      · refine lv_aload_n hx hb d_K_type_11 rfl (lv_at hl 0 rfl) ?_
        refine pw_get (ci := 5) (C := R_K) (T := T_K) (N := 4) hx hb hq i_K hown hw (by omega) hK rfl 2 (by decide) (hq _ fl_K_26) (fun _ h9 => h9) rfl d_K_type_12 ?_
        refine pw_get (ci := 2) (C := R_T) (T := T_T) (N := 2) hx hb hq i_T hown hw (by omega) hT rfl 1 (by decide) (hq _ fl_K_138) (fun _ h9 => h9) rfl d_K_type_15 ?_
        refine lv_iload_n hx hb d_K_type_18 rfl (lv_at hl 2 rfl) ?_
        refine wz_iadd hx hb d_K_type_19 rfl ?_
        refine wz_sipush (n := 1400) hx hb d_K_type_20 (by decide) ?_
        refine wz_icmp_le (tgt := 28) hx hb d_K_type_23 (by decide) (by omega) (by omega) (by omega) (by omega) (fun c23 => ?_) (fun c23 => ?_)
        · obtain ⟨m0, hm0⟩ : ∃ z : Nat, mm = z := ⟨mm.toNat, by omega⟩
          refine wz_iconst (n := 0) hx hb d_K_type_28 ?_
          refine lv_istore (lv' := [(4, .int (iI (0))), (0, .ref (ad (0))), (1, .long (iL ((C : Int)))), (3, .int (iI (mm)))]) hx hb d_K_type_29 hl (by decide) rfl (fun ls hl => ?_)
          have K31 : ∀ (fuel : Nat) (i : Nat) (F31 : Nat → va_E) (H : Heap) (locs : List Loc) (ls : Array Slot), m0 - i < fuel → (i ≤ m0) → (∀ j, j < i → 32 ≤ byt C j ∧ byt C j ≤ 126) → (F31 = F) → F31 (0) = .inr (5, [.ref (ad (1)), .ref (ad (82)), .ref (ad (96)), .int (iI (pS g))]) → F31 (96) = .inr (2, [.ref (ad (97)), .int (iI ((nS g : Int)))]) → F31 (97) = .inl (ty 1, 1400, .inl (g0)) → pw D classes (tysL ty) ad M F31 (pA ad M s.heap.size) s H locs → lv_has ls 6 [(4, .int (iI ((i : Int)))), (0, .ref (ad (0))), (1, .long (iL ((C : Int)))), (3, .int (iI (mm)))] → W p l e ({ frames := 1, cells := 0, slots := 0, locals := 22 } : Room) s m ([.ref (ad (0)), .long (iL ((C : Int))), .int (iI (mm))]).toArray below meth c H locs 0 0 Q (F0 m 31 ls []) := by
            intro fuel
            induction fuel with
            | zero => intro i F31 H locs ls hfuel hi hby hFe hK hT hC0 hw hl; exact absurd hfuel (Nat.not_lt_zero _)
            | succ fuel ih31 =>
              intro i F31 H locs ls hfuel hi hby hFe hK hT hC0 hw hl
              refine lv_iload hx hb d_K_type_31 (lv_at hl 0 rfl) ?_
              refine lv_iload_n hx hb d_K_type_33 rfl (lv_at hl 3 rfl) ?_
              refine wz_icmp_ge (tgt := 67) hx hb d_K_type_34 (by decide) (by omega) (by omega) (by omega) (by omega) (fun c34 => ?_) (fun c34 => ?_)
              · refine lv_iload_n hx hb d_K_type_67 rfl (lv_at hl 3 rfl) ?_
                refine wz_iconst (n := 1) hx hb d_K_type_68 ?_
                refine wz_isub (z := ((m0 - 0 : Nat) : Int) - 1) hx hb d_K_type_69 (by omega) ?_
                refine lv_istore (lv' := [(4, .int (iI (((m0 - 0 : Nat) : Int) - 1))), (0, .ref (ad (0))), (1, .long (iL ((C : Int)))), (3, .int (iI (mm)))]) hx hb d_K_type_70 hl (by decide) rfl (fun ls hl => ?_)
                have K72 : ∀ (fuel : Nat) (j : Nat) (tz : Nat → Nat) (F72 : Nat → va_E) (H : Heap) (locs : List Loc) (ls : Array Slot), m0 - j < fuel → (j ≤ m0) → (∀ i, i < nS g + j → tz i = tyT (tS g) (nS g) C m0 i) → (∀ y, y ≠ 96 → y ≠ 97 → F72 y = F y) → F72 (0) = .inr (5, [.ref (ad (1)), .ref (ad (82)), .ref (ad (96)), .int (iI (pS g))]) → Tx ty ad F72 (nS g + j) (tz) → pw D classes (tysL ty) ad M F72 (pA ad M s.heap.size) s H locs → lv_has ls 6 [(4, .int (iI (((m0 - j : Nat) : Int) - 1))), (0, .ref (ad (0))), (1, .long (iL ((C : Int)))), (3, .int (iI (mm)))] → W p l e ({ frames := 1, cells := 0, slots := 0, locals := 22 } : Room) s m ([.ref (ad (0)), .long (iL ((C : Int))), .int (iI (mm))]).toArray below meth c H locs 0 0 Q (F0 m 72 ls []) := by
                  intro fuel
                  induction fuel with
                  | zero => intro j tz F72 H locs ls hfuel hj hz hfr hK hTz hw hl; exact absurd hfuel (Nat.not_lt_zero _)
                  | succ fuel ih72 =>
                    intro j tz F72 H locs ls hfuel hj hz hfr hK hTz hw hl
                    refine lv_iload hx hb d_K_type_72 (lv_at hl 0 rfl) ?_
                    refine wz_if_lt (tgt := 97) hx hb d_K_type_74 (by decide) (by omega) (by omega) (fun c74 => ?_) (fun c74 => ?_)
                    · refine lv_aload_n hx hb d_K_type_97 rfl (lv_at hl 1 rfl) ?_
                      refine pw_get (ci := 5) (C := R_K) (T := T_K) (N := 4) hx hb hq i_K hown hw (by omega) hK rfl 2 (by decide) (hq _ fl_K_26) (fun _ h9 => h9) rfl d_K_type_98 ?_
                      have hT98 := (hTz).1
                      refine pw_get (ci := 2) (C := R_T) (T := T_T) (N := 2) hx hb hq i_T hown hw (by omega) hT98 rfl 1 (by decide) (hq _ fl_K_138) (fun _ h9 => h9) rfl d_K_type_101 ?_
                      rw [← hQ]
                      exact pw_iret hx hb hr hlocks hw (by
                        have hj9 : j = m0 := by omega
                        subst hj9
                        rw [s_type, cif_pos ⟨by omega, by omega, by omega, fun k hk => hby k (by omega)⟩, hm0]
                        exact ⟨by rw [Int.natCast_add], hDk.text (((hTz).ext hz)) hfr, fun y9 h9 => hfr y9 (by omega) (by omega)⟩) d_K_type_104
                    · have hbj := hby (m0 - 1 - j) (by omega)
                      rw [show ((m0 - j : Nat) : Int) - 1 = ((m0 - 1 - j : Nat) : Int) by omega] at hl
                      refine lv_aload_n hx hb d_K_type_77 rfl (lv_at hl 1 rfl) ?_
                      refine pw_get (ci := 5) (C := R_K) (T := T_K) (N := 4) hx hb hq i_K hown hw (by omega) hK rfl 2 (by decide) (hq _ fl_K_26) (fun _ h9 => h9) rfl d_K_type_78 ?_
                      refine lv_lload_n hx hb d_K_type_81 rfl (lv_at hl 2 rfl) ?_
                      refine lv_iload hx hb d_K_type_82 (lv_at hl 0 rfl) ?_
                      refine pw_calli hw (va_runS (As := [.long (iL ((C : Int))), .int (iI (((m0 - 1 - j : Nat) : Int)))]) (rest := [.ref (ad (96))]) ⟨hx, hb, hml, hown, hq⟩ (c_K_byteOf l D ty ad M F72 H.size C (m0 - 1 - j) hC (by omega)) (va_cwS 2 hq (gS ml_K_153 st_K_byteOf in_K m_K_byteOf) rfl rfl rfl (by decide +kernel) ⟨Nat.le_of_ble_eq_true rfl, Nat.le_of_ble_eq_true rfl⟩) (pw_preS hw) rfl rfl hl.1 rfl (lv_room (Nat.le_of_ble_eq_true rfl)) d_K_type_84 ⟨Nat.le_of_ble_eq_true rfl, Nat.le_of_ble_eq_true rfl⟩) (fun r84 F84 H locs q84 hw => ?_)
                      obtain ⟨er84, eF84⟩ := q84
                      rw [eF84] at hw
                      clear eF84
                      subst er84
                      refine lv_i2c (v := iI ((byt C (m0 - 1 - j) : Int))) hx hb d_K_type_87 (i2c_ch (by omega)) ?_
                      refine pw_callv hw (va_runV (As := [.int (iI ((byt C (m0 - 1 - j) : Int)))]) (rest := []) ⟨hx, hb, hml, hown, hq⟩ (c_T_put l D ty ad M F72 H.size hM (nS g + j) (tz) hTz (byt C (m0 - 1 - j)) (by omega) (by omega)) (cwV 1 hq (gV ml_K_141 im_T_put se_T_put in_T m_T_put) rfl rfl rfl (by decide +kernel) ⟨Nat.le_of_ble_eq_true rfl, Nat.le_of_ble_eq_true rfl⟩) (pw_preT hw (by omega) hTz) rfl rfl hl.1 rfl (lv_room (Nat.le_of_ble_eq_true rfl)) d_K_type_88 ⟨Nat.le_of_ble_eq_true rfl, Nat.le_of_ble_eq_true rfl⟩) (fun F88 H locs q88 hw => ?_)
                      obtain ⟨hTz, hf88⟩ := q88
                      have hK_at_88 : F88 (0) = .inr (5, [.ref (ad (1)), .ref (ad (82)), .ref (ad (96)), .int (iI (pS g))]) := (hf88 (0) (by omega) (by omega)).trans hK
                      refine wz_iinc (z := ((m0 - (j + 1) : Nat) : Int) - 1) (lv' := [(4, .int (iI (((m0 - (j + 1) : Nat) : Int) - 1))), (0, .ref (ad (0))), (1, .long (iL ((C : Int)))), (3, .int (iI (mm)))]) hx hb d_K_type_91 hl (k := 0) rfl (by omega) (by decide) rfl (fun ls hl => ?_)
                      refine lv_goto (tgt := 72) hx hb d_K_type_94 (by decide) ?_
                      exact ih72 (j + 1) (txp tz (nS g + j) (byt C (m0 - 1 - j))) _ _ _ ls (by omega) (by omega) (fun i hi => by
                        by_cases h9 : i = nS g + j
                        · rw [h9, txp_s, tyT, if_neg (by omega), show nS g + m0 - 1 - (nS g + j) = m0 - 1 - j by omega]
                        · rw [txp_n h9]; exact hz i (by omega)) (fun y9 h1 h2 => (hf88 (y9) (by omega) (by omega)).trans (hfr y9 h1 h2)) (hK_at_88) (hTz) hw hl
                exact K72 _ 0 (tS g) _ _ _ ls (Nat.lt_succ_self _) (by omega) (fun j hj => by rw [tyT, if_pos (by omega)]) (fun y9 _ _ => by rw [hFe]) (hK) (by rw [hFe]; exact hTx) hw hl
              · refine lv_lload_n hx hb d_K_type_37 rfl (lv_at hl 2 rfl) ?_
                refine lv_iload hx hb d_K_type_38 (lv_at hl 0 rfl) ?_
                refine pw_calli hw (va_runS (As := [.long (iL ((C : Int))), .int (iI ((i : Int)))]) (rest := []) ⟨hx, hb, hml, hown, hq⟩ (c_K_byteOf l D ty ad M F31 H.size C (i) hC (by omega)) (va_cwS 2 hq (gS ml_K_153 st_K_byteOf in_K m_K_byteOf) rfl rfl rfl (by decide +kernel) ⟨Nat.le_of_ble_eq_true rfl, Nat.le_of_ble_eq_true rfl⟩) (pw_preS hw) rfl rfl hl.1 rfl (lv_room (Nat.le_of_ble_eq_true rfl)) d_K_type_40 ⟨Nat.le_of_ble_eq_true rfl, Nat.le_of_ble_eq_true rfl⟩) (fun r40 F40 H locs q40 hw => ?_)
                obtain ⟨er40, eF40⟩ := q40
                rw [eF40] at hw
                clear eF40
                subst er40
                refine lv_istore (lv' := [(5, .int (iI ((byt C (i) : Int)))), (4, .int (iI ((i : Int)))), (0, .ref (ad (0))), (1, .long (iL ((C : Int)))), (3, .int (iI (mm)))]) hx hb d_K_type_43 hl (by decide) rfl (fun ls hl => ?_)
                refine lv_iload hx hb d_K_type_45 (lv_at hl 0 rfl) ?_
                refine wz_bipush (n := 32) hx hb d_K_type_47 (by decide) ?_
                refine wz_icmp_lt (tgt := 59) hx hb d_K_type_49 (by decide) (by have := byt_lt C i; omega) (by have := byt_lt C i; omega) (by have := byt_lt C i; omega) (by have := byt_lt C i; omega) (fun c49 => ?_) (fun c49 => ?_)
                · refine wz_iconst (n := -1) hx hb d_K_type_59 ?_
                  rw [← hQ]
                  exact pw_iret hx hb hr hlocks hw (by
                    rw [s_type, cif_neg (fun h9 => by have := h9.2.2.2 i (by omega); omega), hFe]
                    exact ⟨rfl, hDk, fun _ _ => rfl⟩) d_K_type_60
                · refine lv_iload hx hb d_K_type_52 (lv_at hl 0 rfl) ?_
                  refine wz_bipush (n := 126) hx hb d_K_type_54 (by decide) ?_
                  refine wz_icmp_le (tgt := 61) hx hb d_K_type_56 (by decide) (by have := byt_lt C i; omega) (by have := byt_lt C i; omega) (by have := byt_lt C i; omega) (by have := byt_lt C i; omega) (fun c56 => ?_) (fun c56 => ?_)
                  · have hb9 : 32 ≤ byt C i ∧ byt C i ≤ 126 := by omega
                    refine wz_iinc (z := ((i + 1 : Nat) : Int)) (lv' := [(4, .int (iI (((i + 1 : Nat) : Int)))), (5, .int (iI ((byt C (i) : Int)))), (0, .ref (ad (0))), (1, .long (iL ((C : Int)))), (3, .int (iI (mm)))]) hx hb d_K_type_61 hl (k := 1) rfl (by omega) (by decide) rfl (fun ls hl => ?_)
                    refine lv_goto (tgt := 31) hx hb d_K_type_64 (by decide) ?_
                    exact ih31 (i + 1) _ _ _ ls (by omega) (by omega) (fun j hj => by
                      by_cases h9 : j = i
                      · rw [h9]; exact hb9
                      · exact hby j (by omega)) (hFe) hK hT hC0 hw (lv_sub hl [0, 2, 3, 4] rfl)
                  · refine wz_iconst (n := -1) hx hb d_K_type_59 ?_
                    rw [← hQ]
                    exact pw_iret hx hb hr hlocks hw (by
                      rw [s_type, cif_neg (fun h9 => by have := h9.2.2.2 i (by omega); omega), hFe]
                      exact ⟨rfl, hDk, fun _ _ => rfl⟩) d_K_type_60
          exact K31 _ 0 _ _ _ ls (Nat.lt_succ_self _) (by omega) (fun j hj => absurd hj (by omega)) (rfl) hK hT hC0 hw hl
        · refine wz_iconst (n := -1) hx hb d_K_type_26 ?_
          rw [← hQ]
          exact pw_iret hx hb hr hlocks hw (by
            rw [s_type, cif_neg (fun h9 => by have := h9.2.2.1; omega)]
            exact ⟨rfl, hDk, fun _ _ => rfl⟩) d_K_type_27
  rw [hH, hlo] at hgo
  exact hgo
set_option maxHeartbeats 4000000 in
set_option maxRecDepth 100000 in
/-- wipe() -/
theorem c_K_wipe (l : Launch) (D : va_G) (ty : Nat → ClassId) (ad : Nat → Nat) (M : Nat) (F : Nat → va_E) (sz : Nat) (hM : 97 < M) (g : Sg) (hDk : Dk ty ad F g) (hok : okS g) :
    CI l y_K_wipe w_K_wipe ({ frames := 0, cells := 0, slots := 0, locals := 0 } : Room) [.ref (ad (0))] D ty ad M F sz (fun r F1 => r = iI (nS g) ∧ Dk ty ad F1 (zS g, bS g, 0, tS g, pS g) ∧ frD F F1) := by
  refine Met.ofW (cc := b_K_wipe) (maxL := 2) (ret := (some .int)) (by decide) rfl ?_
  intro p e s m args below meth c s₁ B hml hv
  obtain ⟨rfl, hsz, hP, hK, hD0⟩ := hv
  have hx := B.exec
  have hb := B.bytes
  have hr := B.returns
  have hts := atoms_spec (ws := w_K_wipe) B.pre
  have hq : ∀ w ∈ wT, w.before _ s = true := fun w h => hts w (List.mem_cons_of_mem _ h)
  have hown : s.vm.findClass R_K = some m.cls := findClass_of_methodNamed B.named
  have hlocks := B.notSynchronized
  subst hsz
  have hw := pw_start hP hK hD0
  have hl := lv_entry ([.ref (ad (0))]) (n := 2) (Nat.le_of_ble_eq_true rfl)
  rw [lg_entry_eq]
  generalize (lg_sl ([.ref (ad (0))]) ++ List.replicate (2 - (lg_sl ([.ref (ad (0))])).length) Slot.unset).toArray = ls at hl ⊢
  have hl : lv_has ls 2 [(0, .ref (ad (0)))] := hl
  change W p l e ({ frames := 0, cells := 0, slots := 0, locals := 0 } : Room) s m ([.ref (ad (0))]).toArray below meth c s.heap [] 0 0 (MQ below (va_Qi (fun r F1 => r = iI (nS g) ∧ Dk ty ad F1 (zS g, bS g, 0, tS g, pS g) ∧ frD F F1) (pAt D classes (tysL ty) ad M (pA ad M s.heap.size)) (pA ad M s.heap.size)) ([.ref (ad (0))]).toArray s 0 0 (pA ad M s.heap.size)) (F0 m 0 ls [])
  generalize hQ : MQ below (va_Qi (fun r F1 => r = iI (nS g) ∧ Dk ty ad F1 (zS g, bS g, 0, tS g, pS g) ∧ frD F F1) (pAt D classes (tysL ty) ad M (pA ad M s.heap.size)) (pA ad M s.heap.size)) ([.ref (ad (0))]).toArray s 0 0 (pA ad M s.heap.size) = Q
  obtain ⟨H, hH⟩ : ∃ H, H = s.heap := ⟨_, rfl⟩
  obtain ⟨locs, hlo⟩ : ∃ z : List Loc, z = [] := ⟨_, rfl⟩
  have hw : pw D classes (tysL ty) ad M F (pA ad M s.heap.size) s H locs := by rw [hH, hlo]; exact hw
  have hgo : W p l e ({ frames := 0, cells := 0, slots := 0, locals := 0 } : Room) s m ([.ref (ad (0))]).toArray below meth c H locs 0 0 Q (F0 m 0 ls []) := by
    obtain ⟨hK, hRg, hBn, hTx⟩ := id hDk
    obtain ⟨hT, g0, hC0, hn, hg, hlt⟩ := id hTx
    refine lv_aload_n hx hb d_K_wipe_0 rfl (lv_at hl 0 rfl) ?_
    refine pw_get (ci := 5) (C := R_K) (T := T_K) (N := 4) hx hb hq i_K hown hw (by omega) hK rfl 2 (by decide) (hq _ fl_K_26) (fun _ h9 => h9) rfl d_K_wipe_1 ?_
    refine pw_get (ci := 2) (C := R_T) (T := T_T) (N := 2) hx hb hq i_T hown hw (by omega) hT rfl 1 (by decide) (hq _ fl_K_138) (fun _ h9 => h9) rfl d_K_wipe_4 ?_
    refine lv_istore_n (lv' := [(1, .int (iI ((nS g : Int)))), (0, .ref (ad (0)))]) hx hb d_K_wipe_7 rfl hl (by decide) rfl (fun ls hl => ?_)
    refine lv_aload_n hx hb d_K_wipe_8 rfl (lv_at hl 1 rfl) ?_
    refine pw_get (ci := 5) (C := R_K) (T := T_K) (N := 4) hx hb hq i_K hown hw (by omega) hK rfl 2 (by decide) (hq _ fl_K_26) (fun _ h9 => h9) rfl d_K_wipe_9 ?_
    refine wz_iconst (n := 0) hx hb d_K_wipe_12 ?_
    refine pw_put (ci := 2) (C := R_T) (T := T_T) (N := 2) (ty := .int) (fs' := [.ref (ad (97)), .int (iI (0))]) hx hb hq i_T ft_T ft_T_ok n_T hown hw (by omega) hT rfl 1 (by decide) (hq _ fl_K_138) (fun _ h9 => h9) rfl (by decide +kernel) rfl rfl (Nat.le_of_ble_eq_true rfl) rfl d_K_wipe_13 (fun F13 H locs eF13 hw => ?_)
    have m13_96 : F13 (96) = .inr (2, [.ref (ad (97)), .int (iI (0))]) := by rw [eF13]; exact va_up_self ..
    have hK_at_13 : F13 (0) = .inr (5, [.ref (ad (1)), .ref (ad (82)), .ref (ad (96)), .int (iI (pS g))]) := (show F13 (0) = F (0) from by rw [eF13]; exact va_up_ne _ _ (by omega)).trans hK
    have hC0_at_13 : F13 (97) = .inl (ty 1, 1400, .inl (g0)) := (show F13 (97) = F (97) from by rw [eF13]; exact va_up_ne _ _ (by omega)).trans hC0
    refine lv_iload_n hx hb d_K_wipe_16 rfl (lv_at hl 0 rfl) ?_
    rw [← hQ]
    exact pw_iret hx hb hr hlocks hw (⟨rfl, hDk.text ⟨m13_96, g0, hC0_at_13, by omega, fun i hi => absurd hi (by omega), fun i hi => absurd hi (by omega)⟩ (fun y9 h1 h2 => show F13 (y9) = F (y9) from by rw [eF13]; exact va_up_ne _ _ (by omega)), fun y9 h9 => show F13 (y9) = F (y9) from by rw [eF13]; exact va_up_ne _ _ (by omega)⟩) d_K_wipe_17
  rw [hH, hlo] at hgo
  exact hgo
set_option maxHeartbeats 4000000 in
set_option maxRecDepth 100000 in
/-- character(i) -/
theorem c_K_character (l : Launch) (D : va_G) (ty : Nat → ClassId) (ad : Nat → Nat) (M : Nat) (F : Nat → va_E) (sz : Nat) (hM : 97 < M) (g : Sg) (hDk : Dk ty ad F g) (hok : okS g) (i : Int) (hi : -2147483648 ≤ i ∧ i < 2147483648) :
    CI l y_K_character w_K_character ({ frames := 1, cells := 0, slots := 0, locals := 21 } : Room) [.ref (ad (0)), .int (iI (i))] D ty ad M F sz (fun r F1 => r = iI (tat (tS g) (nS g) i) ∧ F1 = F) := by
  refine Met.ofW (cc := b_K_character) (maxL := 2) (ret := (some .int)) (by decide) rfl ?_
  intro p e s m args below meth c s₁ B hml hv
  obtain ⟨rfl, hsz, hP, hK, hD0⟩ := hv
  have hx := B.exec
  have hb := B.bytes
  have hr := B.returns
  have hts := atoms_spec (ws := w_K_character) B.pre
  have hq : ∀ w ∈ wT, w.before _ s = true := fun w h => hts w (List.mem_cons_of_mem _ h)
  have hown : s.vm.findClass R_K = some m.cls := findClass_of_methodNamed B.named
  have hlocks := B.notSynchronized
  subst hsz
  have hw := pw_start hP hK hD0
  have hl := lv_entry ([.ref (ad (0)), .int (iI (i))]) (n := 2) (Nat.le_of_ble_eq_true rfl)
  rw [lg_entry_eq]
  generalize (lg_sl ([.ref (ad (0)), .int (iI (i))]) ++ List.replicate (2 - (lg_sl ([.ref (ad (0)), .int (iI (i))])).length) Slot.unset).toArray = ls at hl ⊢
  have hl : lv_has ls 2 [(0, .ref (ad (0))), (1, .int (iI (i)))] := hl
  change W p l e ({ frames := 1, cells := 0, slots := 0, locals := 21 } : Room) s m ([.ref (ad (0)), .int (iI (i))]).toArray below meth c s.heap [] 0 0 (MQ below (va_Qi (fun r F1 => r = iI (tat (tS g) (nS g) i) ∧ F1 = F) (pAt D classes (tysL ty) ad M (pA ad M s.heap.size)) (pA ad M s.heap.size)) ([.ref (ad (0)), .int (iI (i))]).toArray s 0 0 (pA ad M s.heap.size)) (F0 m 0 ls [])
  generalize hQ : MQ below (va_Qi (fun r F1 => r = iI (tat (tS g) (nS g) i) ∧ F1 = F) (pAt D classes (tysL ty) ad M (pA ad M s.heap.size)) (pA ad M s.heap.size)) ([.ref (ad (0)), .int (iI (i))]).toArray s 0 0 (pA ad M s.heap.size) = Q
  obtain ⟨H, hH⟩ : ∃ H, H = s.heap := ⟨_, rfl⟩
  obtain ⟨locs, hlo⟩ : ∃ z : List Loc, z = [] := ⟨_, rfl⟩
  have hw : pw D classes (tysL ty) ad M F (pA ad M s.heap.size) s H locs := by rw [hH, hlo]; exact hw
  have hgo : W p l e ({ frames := 1, cells := 0, slots := 0, locals := 21 } : Room) s m ([.ref (ad (0)), .int (iI (i))]).toArray below meth c H locs 0 0 Q (F0 m 0 ls []) := by
    obtain ⟨hK, hRg, hBn, hTx⟩ := id hDk
    obtain ⟨hT, g0, hC0, hn, hg, hlt⟩ := id hTx
    refine lv_aload_n hx hb d_K_character_0 rfl (lv_at hl 0 rfl) ?_
    refine pw_get (ci := 5) (C := R_K) (T := T_K) (N := 4) hx hb hq i_K hown hw (by omega) hK rfl 2 (by decide) (hq _ fl_K_26) (fun _ h9 => h9) rfl d_K_character_1 ?_
    refine lv_iload_n hx hb d_K_character_4 rfl (lv_at hl 1 rfl) ?_
    refine pw_calli hw (va_runV (As := [.int (iI (i))]) (rest := []) ⟨hx, hb, hml, hown, hq⟩ (c_T_at l D ty ad M F H.size hM (nS g) (tS g) hTx i hi) (cwV 1 hq (gV ml_K_157 im_T_at se_T_at in_T m_T_at) rfl rfl rfl (by decide +kernel) ⟨Nat.le_of_ble_eq_true rfl, Nat.le_of_ble_eq_true rfl⟩) (pw_preV hw (by omega) hT rfl) rfl rfl hl.1 rfl (lv_room (Nat.le_of_ble_eq_true rfl)) d_K_character_5 ⟨Nat.le_of_ble_eq_true rfl, Nat.le_of_ble_eq_true rfl⟩) (fun r5 F5 H locs q5 hw => ?_)
    obtain ⟨er5, eF5⟩ := q5
    rw [eF5] at hw
    clear eF5
    subst er5
    rw [← hQ]
    exact pw_iret hx hb hr hlocks hw (⟨rfl, rfl⟩) d_K_character_8
  rw [hH, hlo] at hgo
  exact hgo
set_option maxHeartbeats 4000000 in
set_option maxRecDepth 100000 in
/-- place() -/
theorem c_K_place (l : Launch) (D : va_G) (ty : Nat → ClassId) (ad : Nat → Nat) (M : Nat) (F : Nat → va_E) (sz : Nat) (hM : 97 < M) (g : Sg) (hDk : Dk ty ad F g) (hok : okS g) :
    CI l y_K_place w_K_place ({ frames := 0, cells := 0, slots := 0, locals := 0 } : Room) [.ref (ad (0))] D ty ad M F sz (fun r F1 => r = iI (pS g) ∧ F1 = F) := by
  refine Met.ofW (cc := b_K_place) (maxL := 1) (ret := (some .int)) (by decide) rfl ?_
  intro p e s m args below meth c s₁ B hml hv
  obtain ⟨rfl, hsz, hP, hK, hD0⟩ := hv
  have hx := B.exec
  have hb := B.bytes
  have hr := B.returns
  have hts := atoms_spec (ws := w_K_place) B.pre
  have hq : ∀ w ∈ wT, w.before _ s = true := fun w h => hts w (List.mem_cons_of_mem _ h)
  have hown : s.vm.findClass R_K = some m.cls := findClass_of_methodNamed B.named
  have hlocks := B.notSynchronized
  subst hsz
  have hw := pw_start hP hK hD0
  have hl := lv_entry ([.ref (ad (0))]) (n := 1) (Nat.le_of_ble_eq_true rfl)
  rw [lg_entry_eq]
  generalize (lg_sl ([.ref (ad (0))]) ++ List.replicate (1 - (lg_sl ([.ref (ad (0))])).length) Slot.unset).toArray = ls at hl ⊢
  have hl : lv_has ls 1 [(0, .ref (ad (0)))] := hl
  change W p l e ({ frames := 0, cells := 0, slots := 0, locals := 0 } : Room) s m ([.ref (ad (0))]).toArray below meth c s.heap [] 0 0 (MQ below (va_Qi (fun r F1 => r = iI (pS g) ∧ F1 = F) (pAt D classes (tysL ty) ad M (pA ad M s.heap.size)) (pA ad M s.heap.size)) ([.ref (ad (0))]).toArray s 0 0 (pA ad M s.heap.size)) (F0 m 0 ls [])
  generalize hQ : MQ below (va_Qi (fun r F1 => r = iI (pS g) ∧ F1 = F) (pAt D classes (tysL ty) ad M (pA ad M s.heap.size)) (pA ad M s.heap.size)) ([.ref (ad (0))]).toArray s 0 0 (pA ad M s.heap.size) = Q
  obtain ⟨H, hH⟩ : ∃ H, H = s.heap := ⟨_, rfl⟩
  obtain ⟨locs, hlo⟩ : ∃ z : List Loc, z = [] := ⟨_, rfl⟩
  have hw : pw D classes (tysL ty) ad M F (pA ad M s.heap.size) s H locs := by rw [hH, hlo]; exact hw
  have hgo : W p l e ({ frames := 0, cells := 0, slots := 0, locals := 0 } : Room) s m ([.ref (ad (0))]).toArray below meth c H locs 0 0 Q (F0 m 0 ls []) := by
    obtain ⟨hK, hRg, hBn, hTx⟩ := id hDk
    refine lv_aload_n hx hb d_K_place_0 rfl (lv_at hl 0 rfl) ?_
    refine pw_get (ci := 5) (C := R_K) (T := T_K) (N := 4) hx hb hq i_K hown hw (by omega) hK rfl 3 (by decide) (hq _ fl_K_30) (fun _ h9 => h9) rfl d_K_place_1 ?_
    rw [← hQ]
    exact pw_iret hx hb hr hlocks hw (⟨rfl, rfl⟩) d_K_place_4
  rw [hH, hlo] at hgo
  exact hgo
