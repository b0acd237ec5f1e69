/-! the reference: setLong, copy: by program -/
set_option maxHeartbeats 4000000 in
set_option maxRecDepth 100000 in
/-- setLong(to, v) -/
theorem c_M_setLong (l : Launch) (D : va_G) (ty : Nat → ClassId) (ad : Nat → Nat) (M : Nat) (F : Nat → va_E) (sz : Nat) (hM : 103 < M) (co ln wr : Int) (hO : F 98 = oM ad co ln wr) (P S G : Nat → Int32) (hMA : MA ty F P S G) (to : Nat) (hto : to < 43) (v : Int) (hv : -9223372036854775808 ≤ v ∧ v < 9223372036854775808) :
    CV l y_M_setLong w_M_setLong ({ frames := 1, cells := 0, slots := 0, locals := 21 } : Room) [.ref (ad (98)), .int (iI ((to : Int))), .long (iL (v))] D ty ad M F sz (fun F1 => Nm ty F1 to v ∧ kp ty F F1 (fun c => c = to) ∧ frM F F1) := by
  refine Met.ofW (cc := b_M_setLong) (maxL := 8) (ret := none) (by decide) rfl ?_
  intro p e s m args below meth c s₁ B hml hv
  obtain ⟨rfl, hsz, hP, hK, hD0⟩ := hv
  have hx := B.exec
  have hb := B.bytes
  have hr := B.returns
  have hts := atoms_spec (ws := w_M_setLong) B.pre
  have hq : ∀ w ∈ wT, w.before _ s = true := fun w h => hts w (List.mem_cons_of_mem _ h)
  have hown : s.vm.findClass R_M = some m.cls := findClass_of_methodNamed B.named
  have hlocks := B.notSynchronized
  subst hsz
  have hw := pw_start hP hK hD0
  have hl := lv_entry ([.ref (ad (98)), .int (iI ((to : Int))), .long (iL (v))]) (n := 8) (Nat.le_of_ble_eq_true rfl)
  rw [lg_entry_eq]
  generalize (lg_sl ([.ref (ad (98)), .int (iI ((to : Int))), .long (iL (v))]) ++ List.replicate (8 - (lg_sl ([.ref (ad (98)), .int (iI ((to : Int))), .long (iL (v))])).length) Slot.unset).toArray = ls at hl ⊢
  have hl : lv_has ls 8 [(0, .ref (ad (98))), (1, .int (iI ((to : Int)))), (2, .long (iL (v)))] := hl
  change W p l e ({ frames := 1, cells := 0, slots := 0, locals := 21 } : Room) s m ([.ref (ad (98)), .int (iI ((to : Int))), .long (iL (v))]).toArray below meth c s.heap [] 0 0 (MQ below (va_Qv (fun F1 => Nm ty F1 to v ∧ kp ty F F1 (fun c => c = to) ∧ frM F F1) (pAt D classes (tysL ty) ad M (pA ad M s.heap.size)) (pA ad M s.heap.size)) ([.ref (ad (98)), .int (iI ((to : Int))), .long (iL (v))]).toArray s 0 0 (pA ad M s.heap.size)) (F0 m 0 ls [])
  generalize hQ : MQ below (va_Qv (fun F1 => Nm ty F1 to v ∧ kp ty F F1 (fun c => c = to) ∧ frM F F1) (pAt D classes (tysL ty) ad M (pA ad M s.heap.size)) (pA ad M s.heap.size)) ([.ref (ad (98)), .int (iI ((to : Int))), .long (iL (v))]).toArray s 0 0 (pA ad M s.heap.size) = Q
  obtain ⟨H, hH⟩ : ∃ H, H = s.heap := ⟨_, rfl⟩
  obtain ⟨locs, hlo⟩ : ∃ z : List Loc, z = [] := ⟨_, rfl⟩
  have hw : pw D classes (tysL ty) ad M F (pA ad M s.heap.size) s H locs := by rw [hH, hlo]; exact hw
  have hgo : W p l e ({ frames := 1, cells := 0, slots := 0, locals := 21 } : Room) s m ([.ref (ad (98)), .int (iI ((to : Int))), .long (iL (v))]).toArray below meth c H locs 0 0 Q (F0 m 0 ls []) := by
    obtain ⟨h99, h100, h101⟩ := id hMA
    obtain ⟨va, hva0⟩ : ∃ z : Nat, z = v.natAbs := ⟨_, rfl⟩
    refine lv_lload_n hx hb d_M_setLong_0 rfl (lv_at hl 2 rfl) ?_
    refine lv_lconst (v := iL 0) hx hb d_M_setLong_1 (by decide) ?_
    refine wz_lcmp_ge (tgt := 15) hx hb d_M_setLong_2 d_M_setLong_3 (by decide) (by omega) (by omega) (by omega) (by omega) (fun c2 => ?_) (fun c2 => ?_)
    · have hva : v = (va : Int) := by omega
      refine lv_lload_n hx hb d_M_setLong_15 rfl (lv_at hl 2 rfl) ?_
      refine lv_ldc2 (v := iL (65536)) hx hb hown (hq _ cj_M_37) d_M_setLong_16 ?_
      refine wz_ldivT (a := v) (b := 65536) (z := ((va / 65536 : Nat) : Int)) hx hb d_M_setLong_19 (by omega) (by omega) (by omega) (by omega) (by rw [hva]; rfl) ?_
      refine lv_lstore (lv' := [(4, .long (iL (((va / 65536 : Nat) : Int)))), (0, .ref (ad (98))), (1, .int (iI ((to : Int)))), (2, .long (iL (v)))]) hx hb d_M_setLong_20 hl (by decide) rfl (fun ls hl => ?_)
      refine lv_lload_n hx hb d_M_setLong_22 rfl (lv_at hl 3 rfl) ?_
      refine lv_ldc2 (v := iL (65536)) hx hb hown (hq _ cj_M_37) d_M_setLong_23 ?_
      refine wz_lremT (a := v) (b := 65536) (z := ((va % 65536 : Nat) : Int)) hx hb d_M_setLong_26 (by omega) (by omega) (by omega) (by omega) (by rw [hva]; rfl) ?_
      refine wz_l2i hx hb d_M_setLong_27 ?_
      refine lv_istore (lv' := [(6, .int (iI (((va % 65536 : Nat) : Int)))), (4, .long (iL (((va / 65536 : Nat) : Int)))), (0, .ref (ad (98))), (1, .int (iI ((to : Int)))), (2, .long (iL (v)))]) hx hb d_M_setLong_28 hl (by decide) rfl (fun ls hl => ?_)
      refine lv_aload_n hx hb d_M_setLong_30 rfl (lv_at hl 2 rfl) ?_
      refine pw_get (ci := 6) (C := R_M) (T := T_M) (N := 8) hx hb hq i_M hown hw (by omega) hO rfl 1 (by decide) (hq _ fl_M_7) (fun _ h9 => h9) rfl d_M_setLong_31 ?_
      refine wz_sipush (n := 300) hx hb d_M_setLong_34 (by decide) ?_
      refine lv_iload_n hx hb d_M_setLong_37 rfl (lv_at hl 3 rfl) ?_
      refine wz_imul hx hb d_M_setLong_38 rfl ?_
      refine lv_iload hx hb d_M_setLong_39 (lv_at hl 0 rfl) ?_
      refine wz_if_ge (tgt := 50) hx hb d_M_setLong_41 (by decide) (by omega) (by omega) (fun c41 => ?_) (fun c41 => ?_)
      · refine lv_iload hx hb d_M_setLong_50 (lv_at hl 0 rfl) ?_
        refine pw_iast (k := 300 * to) hx hb hw 0 (by omega) h99 rfl (iI_in (by omega) (by omega) (by omega)) ((iI_cl (by omega) (by omega)).trans (by omega)) d_M_setLong_52 (fun F52 H locs eF52 hw => ?_)
        obtain ⟨P1, eP1⟩ : ∃ z9, z9 = upd P (300 * to) (iI (((va % 65536 : Nat) : Int))) := ⟨_, rfl⟩
        rw [← eP1] at eF52
        have m52_99 : F52 (99) = .inl (ty 0, 12900, .inl (P1)) := by rw [eF52]; exact va_up_self ..
        have hO_at_52 : F52 (98) = .inr (6, [.int (iI (co)), .ref (ad (99)), .ref (ad (100)), .ref (ad (101)), .ref (ad (102)), .int (iI (ln)), .int (iI (wr)), .ref (ad (103))]) := (show F52 (98) = F (98) from by rw [eF52]; exact va_up_ne _ _ (by omega)).trans hO
        have h100_at_52 : F52 (100) = .inl (ty 0, 43, .inl (S)) := (show F52 (100) = F (100) from by rw [eF52]; exact va_up_ne _ _ (by omega)).trans h100
        have h101_at_52 : F52 (101) = .inl (ty 4, 43, .inl (G)) := (show F52 (101) = F (101) from by rw [eF52]; exact va_up_ne _ _ (by omega)).trans h101
        refine wz_iconst (n := 1) hx hb d_M_setLong_53 ?_
        refine lv_istore (lv' := [(7, .int (iI (1))), (6, .int (iI (((va % 65536 : Nat) : Int)))), (4, .long (iL (((va / 65536 : Nat) : Int)))), (0, .ref (ad (98))), (1, .int (iI ((to : Int)))), (2, .long (iL (v)))]) hx hb d_M_setLong_54 hl (by decide) rfl (fun ls hl => ?_)
        have K56 : ∀ (fuel : Nat) (n rest0 : Nat) (P9 : Nat → Int32) (F56 : Nat → va_E) (H : Heap) (locs : List Loc) (ls : Array Slot), rest0 < fuel → (1 ≤ n ∧ n ≤ 4) → (rest0 < 9223372036854775808) → (bvP P9 to n + rest0 * 65536 ^ n = va) → (Dg P9 to n) → (∀ j, j < 300 * to ∨ 300 * to + 300 ≤ j → P9 j = P j) → (∀ y, y ≠ 99 → F56 y = F y) → F56 (98) = .inr (6, [.int (iI (co)), .ref (ad (99)), .ref (ad (100)), .ref (ad (101)), .ref (ad (102)), .int (iI (ln)), .int (iI (wr)), .ref (ad (103))]) → F56 (99) = .inl (ty 0, 12900, .inl (P9)) → F56 (100) = .inl (ty 0, 43, .inl (S)) → F56 (101) = .inl (ty 4, 43, .inl (G)) → pw D classes (tysL ty) ad M F56 (pA ad M s.heap.size) s H locs → lv_has ls 8 [(0, .ref (ad (98))), (1, .int (iI ((to : Int)))), (2, .long (iL (v))), (4, .long (iL ((rest0 : Int)))), (7, .int (iI ((n : Int))))] → W p l e ({ frames := 1, cells := 0, slots := 0, locals := 21 } : Room) s m ([.ref (ad (98)), .int (iI ((to : Int))), .long (iL (v))]).toArray below meth c H locs 0 0 Q (F0 m 56 ls []) := by
          intro fuel
          induction fuel with
          | zero => intro n rest0 P9 F56 H locs ls hfuel hn hrb hval hDg hPo hfr hO h99 h100 h101 hw hl; exact absurd hfuel (Nat.not_lt_zero _)
          | succ fuel ih56 =>
            intro n rest0 P9 F56 H locs ls hfuel hn hrb hval hDg hPo hfr hO h99 h100 h101 hw hl
            refine lv_lload hx hb d_M_setLong_56 (lv_at hl 3 rfl) ?_
            refine lv_lconst (v := iL 0) hx hb d_M_setLong_58 (by decide) ?_
            refine wz_lcmp_le (tgt := 97) hx hb d_M_setLong_59 d_M_setLong_60 (by decide) (by omega) (by omega) (by omega) (by omega) (fun c59 => ?_) (fun c59 => ?_)
            · have hr00 : rest0 = 0 := by omega
              refine lv_aload_n hx hb d_M_setLong_97 rfl (lv_at hl 0 rfl) ?_
              refine pw_get (ci := 6) (C := R_M) (T := T_M) (N := 8) hx hb hq i_M hown hw (by omega) hO rfl 2 (by decide) (hq _ fl_M_13) (fun _ h9 => h9) rfl d_M_setLong_98 ?_
              refine lv_iload_n hx hb d_M_setLong_101 rfl (lv_at hl 1 rfl) ?_
              refine lv_iload hx hb d_M_setLong_102 (lv_at hl 4 rfl) ?_
              refine pw_iast (k := to) hx hb hw 0 (by omega) h100 rfl (iI_in (by omega) (by omega) (by omega)) ((iI_cl (by omega) (by omega)).trans (by omega)) d_M_setLong_104 (fun F104 H locs eF104 hw => ?_)
              obtain ⟨S9, eS9⟩ : ∃ z9, z9 = upd S (to) (iI ((n : Int))) := ⟨_, rfl⟩
              rw [← eS9] at eF104
              have m104_100 : F104 (100) = .inl (ty 0, 43, .inl (S9)) := by rw [eF104]; exact va_up_self ..
              have hO_at_104 : F104 (98) = .inr (6, [.int (iI (co)), .ref (ad (99)), .ref (ad (100)), .ref (ad (101)), .ref (ad (102)), .int (iI (ln)), .int (iI (wr)), .ref (ad (103))]) := (show F104 (98) = F56 (98) from by rw [eF104]; exact va_up_ne _ _ (by omega)).trans hO
              have h99_at_104 : F104 (99) = .inl (ty 0, 12900, .inl (P9)) := (show F104 (99) = F56 (99) from by rw [eF104]; exact va_up_ne _ _ (by omega)).trans h99
              have h101_at_104 : F104 (101) = .inl (ty 4, 43, .inl (G)) := (show F104 (101) = F56 (101) from by rw [eF104]; exact va_up_ne _ _ (by omega)).trans h101
              refine lv_aload_n hx hb d_M_setLong_105 rfl (lv_at hl 0 rfl) ?_
              refine pw_get (ci := 6) (C := R_M) (T := T_M) (N := 8) hx hb hq i_M hown hw (by omega) hO_at_104 rfl 3 (by decide) (hq _ fl_M_16) (fun _ h9 => h9) rfl d_M_setLong_106 ?_
              refine lv_iload_n hx hb d_M_setLong_109 rfl (lv_at hl 1 rfl) ?_
              refine lv_lload_n hx hb d_M_setLong_110 rfl (lv_at hl 2 rfl) ?_
              refine lv_lconst (v := iL 0) hx hb d_M_setLong_111 (by decide) ?_
              refine wz_lcmp_ge (tgt := 120) hx hb d_M_setLong_112 d_M_setLong_113 (by decide) (by omega) (by omega) (by omega) (by omega) (fun c112 => ?_) (fun c112 => ?_)
              · refine wz_iconst (n := 0) hx hb d_M_setLong_120 ?_
                refine pw_zast (k := to) hx hb hw 4 (by omega) h101_at_104 rfl (iI_in (by omega) (by omega) (by omega)) ((iI_cl (by omega) (by omega)).trans (by omega)) (y := iI (0)) (by decide) d_M_setLong_121 (fun F121 H locs eF121 hw => ?_)
                obtain ⟨G9, eG9⟩ : ∃ z9, z9 = upd G (to) (iI (0)) := ⟨_, rfl⟩
                rw [← eG9] at eF121
                have m121_101 : F121 (101) = .inl (ty 4, 43, .inl (G9)) := by rw [eF121]; exact va_up_self ..
                have hO_at_121 : F121 (98) = .inr (6, [.int (iI (co)), .ref (ad (99)), .ref (ad (100)), .ref (ad (101)), .ref (ad (102)), .int (iI (ln)), .int (iI (wr)), .ref (ad (103))]) := (show F121 (98) = F104 (98) from by rw [eF121]; exact va_up_ne _ _ (by omega)).trans hO_at_104
                have h99_at_121 : F121 (99) = .inl (ty 0, 12900, .inl (P9)) := (show F121 (99) = F104 (99) from by rw [eF121]; exact va_up_ne _ _ (by omega)).trans h99_at_104
                have m104_100_at_121 : F121 (100) = .inl (ty 0, 43, .inl (S9)) := (show F121 (100) = F104 (100) from by rw [eF121]; exact va_up_ne _ _ (by omega)).trans m104_100
                refine lv_aload_n hx hb d_M_setLong_122 rfl (lv_at hl 0 rfl) ?_
                refine lv_iload_n hx hb d_M_setLong_123 rfl (lv_at hl 1 rfl) ?_
                refine pw_callv hw (va_runV (As := [.int (iI ((to : Int)))]) (rest := []) ⟨hx, hb, hml, hown, hq⟩ (c_M_trim l D ty ad M F121 H.size hM co ln wr hO_at_121 P9 S9 G9 ⟨h99_at_121, m104_100_at_121, m121_101⟩ to n hto (by rw [eS9, pk_us]) (by omega) (hDg)) (cwV 1 hq (gV ml_M_39 im_M_trim se_M_trim in_M m_M_trim) rfl rfl rfl (by decide +kernel) ⟨Nat.le_of_ble_eq_true rfl, Nat.le_of_ble_eq_true rfl⟩) (pw_preV hw (by omega) hO_at_121 rfl) rfl rfl hl.1 rfl (lv_room (Nat.le_of_ble_eq_true rfl)) d_M_setLong_124 ⟨Nat.le_of_ble_eq_true rfl, Nat.le_of_ble_eq_true rfl⟩) (fun F124 H locs q124 hw => ?_)
                obtain ⟨S8, B8, hMA8, hMg8, hB8, ho8, hf8⟩ := q124
                have hO_at_124 : F124 (98) = .inr (6, [.int (iI (co)), .ref (ad (99)), .ref (ad (100)), .ref (ad (101)), .ref (ad (102)), .int (iI (ln)), .int (iI (wr)), .ref (ad (103))]) := (hf8 (98) (by omega) (by omega) (by omega)).trans hO_at_121
                rw [← hQ]
                exact pw_vret hx hb hr hlocks hw (by
                  have hr0 : rest0 = 0 := by omega
                  have hv9 : bvP P9 to n = va := by rw [hr0, Nat.zero_mul, Nat.add_zero] at hval; exact hval
                  rw [hv9] at hMg8 hB8
                  obtain ⟨h1, h2⟩ := fin_trim (z := v) hMA hMA8 hMg8 hB8 ho8 (fun c9 h9 => by rw [eS9, pk_un h9]) (fun c9 h9 => by rw [eG9, pk_un h9]) hPo (by omega) (fun _ => by rw [eG9, pk_us]; unfold sB; rw [if_neg (by omega)]; rfl)
                  exact ⟨h1, h2, fun y9 h3 h4 h5 => ((hf8 (y9) (by omega) (by omega) (by omega)).trans ((show F121 (y9) = F104 (y9) from by rw [eF121]; exact va_up_ne _ _ (by omega)).trans (show F104 (y9) = F56 (y9) from by rw [eF104]; exact va_up_ne _ _ (by omega)))).trans (hfr y9 h3)⟩) d_M_setLong_127
              · refine wz_iconst (n := 1) hx hb d_M_setLong_116 ?_
                refine lv_goto (tgt := 121) hx hb d_M_setLong_117 (by decide) ?_
                refine pw_zast (k := to) hx hb hw 4 (by omega) h101_at_104 rfl (iI_in (by omega) (by omega) (by omega)) ((iI_cl (by omega) (by omega)).trans (by omega)) (y := iI (1)) (by decide) d_M_setLong_121 (fun F121 H locs eF121 hw => ?_)
                obtain ⟨G9, eG9⟩ : ∃ z9, z9 = upd G (to) (iI (1)) := ⟨_, rfl⟩
                rw [← eG9] at eF121
                have m121_101 : F121 (101) = .inl (ty 4, 43, .inl (G9)) := by rw [eF121]; exact va_up_self ..
                have hO_at_121 : F121 (98) = .inr (6, [.int (iI (co)), .ref (ad (99)), .ref (ad (100)), .ref (ad (101)), .ref (ad (102)), .int (iI (ln)), .int (iI (wr)), .ref (ad (103))]) := (show F121 (98) = F104 (98) from by rw [eF121]; exact va_up_ne _ _ (by omega)).trans hO_at_104
                have h99_at_121 : F121 (99) = .inl (ty 0, 12900, .inl (P9)) := (show F121 (99) = F104 (99) from by rw [eF121]; exact va_up_ne _ _ (by omega)).trans h99_at_104
                have m104_100_at_121 : F121 (100) = .inl (ty 0, 43, .inl (S9)) := (show F121 (100) = F104 (100) from by rw [eF121]; exact va_up_ne _ _ (by omega)).trans m104_100
                refine lv_aload_n hx hb d_M_setLong_122 rfl (lv_at hl 0 rfl) ?_
                refine lv_iload_n hx hb d_M_setLong_123 rfl (lv_at hl 1 rfl) ?_
                refine pw_callv hw (va_runV (As := [.int (iI ((to : Int)))]) (rest := []) ⟨hx, hb, hml, hown, hq⟩ (c_M_trim l D ty ad M F121 H.size hM co ln wr hO_at_121 P9 S9 G9 ⟨h99_at_121, m104_100_at_121, m121_101⟩ to n hto (by rw [eS9, pk_us]) (by omega) (hDg)) (cwV 1 hq (gV ml_M_39 im_M_trim se_M_trim in_M m_M_trim) rfl rfl rfl (by decide +kernel) ⟨Nat.le_of_ble_eq_true rfl, Nat.le_of_ble_eq_true rfl⟩) (pw_preV hw (by omega) hO_at_121 rfl) rfl rfl hl.1 rfl (lv_room (Nat.le_of_ble_eq_true rfl)) d_M_setLong_124 ⟨Nat.le_of_ble_eq_true rfl, Nat.le_of_ble_eq_true rfl⟩) (fun F124 H locs q124 hw => ?_)
                obtain ⟨S8, B8, hMA8, hMg8, hB8, ho8, hf8⟩ := q124
                have hO_at_124 : F124 (98) = .inr (6, [.int (iI (co)), .ref (ad (99)), .ref (ad (100)), .ref (ad (101)), .ref (ad (102)), .int (iI (ln)), .int (iI (wr)), .ref (ad (103))]) := (hf8 (98) (by omega) (by omega) (by omega)).trans hO_at_121
                rw [← hQ]
                exact pw_vret hx hb hr hlocks hw (by
                  have hr0 : rest0 = 0 := by omega
                  have hv9 : bvP P9 to n = va := by rw [hr0, Nat.zero_mul, Nat.add_zero] at hval; exact hval
                  rw [hv9] at hMg8 hB8
                  obtain ⟨h1, h2⟩ := fin_trim (z := v) hMA hMA8 hMg8 hB8 ho8 (fun c9 h9 => by rw [eS9, pk_un h9]) (fun c9 h9 => by rw [eG9, pk_un h9]) hPo (by omega) (fun _ => by rw [eG9, pk_us]; unfold sB; rw [if_pos (by omega)]; rfl)
                  exact ⟨h1, h2, fun y9 h3 h4 h5 => ((hf8 (y9) (by omega) (by omega) (by omega)).trans ((show F121 (y9) = F104 (y9) from by rw [eF121]; exact va_up_ne _ _ (by omega)).trans (show F104 (y9) = F56 (y9) from by rw [eF104]; exact va_up_ne _ _ (by omega)))).trans (hfr y9 h3)⟩) d_M_setLong_127
            · have hp : 65536 ^ n ≤ rest0 * 65536 ^ n := Nat.le_mul_of_pos_left _ (by omega)
              have hn4 : n ≠ 4 := fun h9 => by
                rw [h9] at hp hval
                omega
              have hrl : rest0 ≤ rest0 * 65536 ^ n := Nat.le_mul_of_pos_right _ (Nat.pow_pos (by decide))
              refine lv_aload_n hx hb d_M_setLong_63 rfl (lv_at hl 0 rfl) ?_
              refine pw_get (ci := 6) (C := R_M) (T := T_M) (N := 8) hx hb hq i_M hown hw (by omega) hO rfl 1 (by decide) (hq _ fl_M_7) (fun _ h9 => h9) rfl d_M_setLong_64 ?_
              refine wz_sipush (n := 300) hx hb d_M_setLong_67 (by decide) ?_
              refine lv_iload_n hx hb d_M_setLong_70 rfl (lv_at hl 1 rfl) ?_
              refine wz_imul hx hb d_M_setLong_71 rfl ?_
              refine lv_iload hx hb d_M_setLong_72 (lv_at hl 4 rfl) ?_
              refine wz_iadd hx hb d_M_setLong_74 rfl ?_
              refine lv_lload hx hb d_M_setLong_75 (lv_at hl 3 rfl) ?_
              refine lv_ldc2 (v := iL (65536)) hx hb hown (hq _ cj_M_37) d_M_setLong_77 ?_
              refine wz_lrem (a := rest0) (b := 65536) (z := rest0 % 65536) hx hb d_M_setLong_80 (by omega) (by omega) (by omega) (rfl) ?_
              refine wz_l2i hx hb d_M_setLong_81 ?_
              refine pw_iast (k := 300 * to + n) hx hb hw 0 (by omega) h99 rfl (iI_in (by omega) (by omega) (by omega)) ((iI_cl (by omega) (by omega)).trans (by omega)) d_M_setLong_82 (fun F82 H locs eF82 hw => ?_)
              have m82_99 : F82 (99) = .inl (ty 0, 12900, .inl (upd P9 (300 * to + n) (iI (((rest0 % 65536 : Nat) : Int))))) := by rw [eF82]; exact va_up_self ..
              have hO_at_82 : F82 (98) = .inr (6, [.int (iI (co)), .ref (ad (99)), .ref (ad (100)), .ref (ad (101)), .ref (ad (102)), .int (iI (ln)), .int (iI (wr)), .ref (ad (103))]) := (show F82 (98) = F56 (98) from by rw [eF82]; exact va_up_ne _ _ (by omega)).trans hO
              have h100_at_82 : F82 (100) = .inl (ty 0, 43, .inl (S)) := (show F82 (100) = F56 (100) from by rw [eF82]; exact va_up_ne _ _ (by omega)).trans h100
              have h101_at_82 : F82 (101) = .inl (ty 4, 43, .inl (G)) := (show F82 (101) = F56 (101) from by rw [eF82]; exact va_up_ne _ _ (by omega)).trans h101
              refine lv_lload hx hb d_M_setLong_83 (lv_at hl 3 rfl) ?_
              refine lv_ldc2 (v := iL (65536)) hx hb hown (hq _ cj_M_37) d_M_setLong_85 ?_
              refine wz_ldiv (a := rest0) (b := 65536) (z := rest0 / 65536) hx hb d_M_setLong_88 (by omega) (by omega) (by omega) (rfl) ?_
              refine lv_lstore (lv' := [(4, .long (iL (((rest0 / 65536 : Nat) : Int)))), (0, .ref (ad (98))), (1, .int (iI ((to : Int)))), (2, .long (iL (v))), (7, .int (iI ((n : Int))))]) hx hb d_M_setLong_89 hl (by decide) rfl (fun ls hl => ?_)
              refine wz_iinc (z := ((n + 1 : Nat) : Int)) (lv' := [(7, .int (iI (((n + 1 : Nat) : Int)))), (4, .long (iL (((rest0 / 65536 : Nat) : Int)))), (0, .ref (ad (98))), (1, .int (iI ((to : Int)))), (2, .long (iL (v)))]) hx hb d_M_setLong_91 hl (k := 4) rfl (by omega) (by decide) rfl (fun ls hl => ?_)
              refine lv_goto (tgt := 56) hx hb d_M_setLong_94 (by decide) ?_
              exact ih56 (n + 1) (rest0 / 65536) (upd P9 (300 * to + n) (iI ((rest0 % 65536 : Nat) : Int))) _ _ _ ls (by omega) (by omega) (by omega) (by
                rw [bvP_s, bvP_up (Nat.le_refl _), dig_up (by omega), Nat.pow_succ, Nat.add_assoc, carry_step]; exact hval) (Dg_up hDg (by omega)) (fun j hj => by rw [pk_un (by omega)]; exact hPo j hj) (fun y9 h9 => (show F82 (y9) = F56 (y9) from by rw [eF82]; exact va_up_ne _ _ (by omega)).trans (hfr y9 h9)) hO_at_82 m82_99 h100_at_82 h101_at_82 hw (lv_sub hl [2, 3, 4, 1, 0] rfl)
        exact K56 _ 1 (va / 65536) P1 _ _ _ ls (Nat.lt_succ_self _) (by omega) (by omega) (by rw [bvP_s, bvP_0, Nat.add_zero, eP1, show ((va % 65536 : Nat) : Int) = ((va % 65536 : Nat) : Int) by omega, dl_us (by omega), Nat.pow_zero, Nat.mul_one, Nat.zero_add, Nat.pow_one]; omega) (fun i hi => by rw [show i = 0 by omega, Nat.add_zero, eP1, show ((va % 65536 : Nat) : Int) = ((va % 65536 : Nat) : Int) by omega, dl_us (by omega)]; omega) (fun j hj => by rw [eP1, pk_un (by omega)]) (fun y9 h9 => show F52 (y9) = F (y9) from by rw [eF52]; exact va_up_ne _ _ (by omega)) hO_at_52 m52_99 h100_at_52 h101_at_52 hw (lv_sub hl [3, 4, 5, 2, 0] rfl)
      · exact absurd c41 (by omega)
    · have hva : v = -(va : Int) := by omega
      refine lv_lload_n hx hb d_M_setLong_6 rfl (lv_at hl 2 rfl) ?_
      refine lv_ldc2 (v := iL (65536)) hx hb hown (hq _ cj_M_37) d_M_setLong_7 ?_
      refine wz_ldivT (a := v) (b := 65536) (z := -((va / 65536 : Nat) : Int)) hx hb d_M_setLong_10 (by omega) (by omega) (by omega) (by omega) (by rw [hva, Int.neg_tdiv]; rfl) ?_
      refine wz_lneg (z := ((va / 65536 : Nat) : Int)) hx hb d_M_setLong_11 (by omega) ?_
      refine lv_goto (tgt := 20) hx hb d_M_setLong_12 (by decide) ?_
      refine lv_lstore (lv' := [(4, .long (iL (((va / 65536 : Nat) : Int)))), (0, .ref (ad (98))), (1, .int (iI ((to : Int)))), (2, .long (iL (v)))]) hx hb d_M_setLong_20 hl (by decide) rfl (fun ls hl => ?_)
      refine lv_lload_n hx hb d_M_setLong_22 rfl (lv_at hl 3 rfl) ?_
      refine lv_ldc2 (v := iL (65536)) hx hb hown (hq _ cj_M_37) d_M_setLong_23 ?_
      refine wz_lremT (a := v) (b := 65536) (z := -((va % 65536 : Nat) : Int)) hx hb d_M_setLong_26 (by omega) (by omega) (by omega) (by omega) (by rw [hva, Int.neg_tmod]; rfl) ?_
      refine wz_l2i hx hb d_M_setLong_27 ?_
      refine lv_istore (lv' := [(6, .int (iI (-((va % 65536 : Nat) : Int)))), (4, .long (iL (((va / 65536 : Nat) : Int)))), (0, .ref (ad (98))), (1, .int (iI ((to : Int)))), (2, .long (iL (v)))]) hx hb d_M_setLong_28 hl (by decide) rfl (fun ls hl => ?_)
      refine lv_aload_n hx hb d_M_setLong_30 rfl (lv_at hl 2 rfl) ?_
      refine pw_get (ci := 6) (C := R_M) (T := T_M) (N := 8) hx hb hq i_M hown hw (by omega) hO rfl 1 (by decide) (hq _ fl_M_7) (fun _ h9 => h9) rfl d_M_setLong_31 ?_
      refine wz_sipush (n := 300) hx hb d_M_setLong_34 (by decide) ?_
      refine lv_iload_n hx hb d_M_setLong_37 rfl (lv_at hl 3 rfl) ?_
      refine wz_imul hx hb d_M_setLong_38 rfl ?_
      refine lv_iload hx hb d_M_setLong_39 (lv_at hl 0 rfl) ?_
      refine wz_if_ge (tgt := 50) hx hb d_M_setLong_41 (by decide) (by omega) (by omega) (fun c41 => ?_) (fun c41 => ?_)
      · refine lv_iload hx hb d_M_setLong_50 (lv_at hl 0 rfl) ?_
        refine pw_iast (k := 300 * to) hx hb hw 0 (by omega) h99 rfl (iI_in (by omega) (by omega) (by omega)) ((iI_cl (by omega) (by omega)).trans (by omega)) d_M_setLong_52 (fun F52 H locs eF52 hw => ?_)
        obtain ⟨P1, eP1⟩ : ∃ z9, z9 = upd P (300 * to) (iI (-((va % 65536 : Nat) : Int))) := ⟨_, rfl⟩
        rw [← eP1] at eF52
        have m52_99 : F52 (99) = .inl (ty 0, 12900, .inl (P1)) := by rw [eF52]; exact va_up_self ..
        have hO_at_52 : F52 (98) = .inr (6, [.int (iI (co)), .ref (ad (99)), .ref (ad (100)), .ref (ad (101)), .ref (ad (102)), .int (iI (ln)), .int (iI (wr)), .ref (ad (103))]) := (show F52 (98) = F (98) from by rw [eF52]; exact va_up_ne _ _ (by omega)).trans hO
        have h100_at_52 : F52 (100) = .inl (ty 0, 43, .inl (S)) := (show F52 (100) = F (100) from by rw [eF52]; exact va_up_ne _ _ (by omega)).trans h100
        have h101_at_52 : F52 (101) = .inl (ty 4, 43, .inl (G)) := (show F52 (101) = F (101) from by rw [eF52]; exact va_up_ne _ _ (by omega)).trans h101
        refine wz_iconst (n := 1) hx hb d_M_setLong_53 ?_
        refine lv_istore (lv' := [(7, .int (iI (1))), (6, .int (iI (-((va % 65536 : Nat) : Int)))), (4, .long (iL (((va / 65536 : Nat) : Int)))), (0, .ref (ad (98))), (1, .int (iI ((to : Int)))), (2, .long (iL (v)))]) hx hb d_M_setLong_54 hl (by decide) rfl (fun ls hl => ?_)
        have K56 : ∀ (fuel : Nat) (n rest0 : Nat) (P9 : Nat → Int32) (F56 : Nat → va_E) (H : Heap) (locs : List Loc) (ls : Array Slot), rest0 < fuel → (1 ≤ n ∧ n ≤ 4) → (rest0 < 9223372036854775808) → (bvP P9 to n + rest0 * 65536 ^ n = va) → (Dg P9 to n) → (∀ j, j < 300 * to ∨ 300 * to + 300 ≤ j → P9 j = P j) → (∀ y, y ≠ 99 → F56 y = F y) → F56 (98) = .inr (6, [.int (iI (co)), .ref (ad (99)), .ref (ad (100)), .ref (ad (101)), .ref (ad (102)), .int (iI (ln)), .int (iI (wr)), .ref (ad (103))]) → F56 (99) = .inl (ty 0, 12900, .inl (P9)) → F56 (100) = .inl (ty 0, 43, .inl (S)) → F56 (101) = .inl (ty 4, 43, .inl (G)) → pw D classes (tysL ty) ad M F56 (pA ad M s.heap.size) s H locs → lv_has ls 8 [(0, .ref (ad (98))), (1, .int (iI ((to : Int)))), (2, .long (iL (v))), (4, .long (iL ((rest0 : Int)))), (7, .int (iI ((n : Int))))] → W p l e ({ frames := 1, cells := 0, slots := 0, locals := 21 } : Room) s m ([.ref (ad (98)), .int (iI ((to : Int))), .long (iL (v))]).toArray below meth c H locs 0 0 Q (F0 m 56 ls []) := by
          intro fuel
          induction fuel with
          | zero => intro n rest0 P9 F56 H locs ls hfuel hn hrb hval hDg hPo hfr hO h99 h100 h101 hw hl; exact absurd hfuel (Nat.not_lt_zero _)
          | succ fuel ih56 =>
            intro n rest0 P9 F56 H locs ls hfuel hn hrb hval hDg hPo hfr hO h99 h100 h101 hw hl
            refine lv_lload hx hb d_M_setLong_56 (lv_at hl 3 rfl) ?_
            refine lv_lconst (v := iL 0) hx hb d_M_setLong_58 (by decide) ?_
            refine wz_lcmp_le (tgt := 97) hx hb d_M_setLong_59 d_M_setLong_60 (by decide) (by omega) (by omega) (by omega) (by omega) (fun c59 => ?_) (fun c59 => ?_)
            · have hr00 : rest0 = 0 := by omega
              refine lv_aload_n hx hb d_M_setLong_97 rfl (lv_at hl 0 rfl) ?_
              refine pw_get (ci := 6) (C := R_M) (T := T_M) (N := 8) hx hb hq i_M hown hw (by omega) hO rfl 2 (by decide) (hq _ fl_M_13) (fun _ h9 => h9) rfl d_M_setLong_98 ?_
              refine lv_iload_n hx hb d_M_setLong_101 rfl (lv_at hl 1 rfl) ?_
              refine lv_iload hx hb d_M_setLong_102 (lv_at hl 4 rfl) ?_
              refine pw_iast (k := to) hx hb hw 0 (by omega) h100 rfl (iI_in (by omega) (by omega) (by omega)) ((iI_cl (by omega) (by omega)).trans (by omega)) d_M_setLong_104 (fun F104 H locs eF104 hw => ?_)
              obtain ⟨S9, eS9⟩ : ∃ z9, z9 = upd S (to) (iI ((n : Int))) := ⟨_, rfl⟩
              rw [← eS9] at eF104
              have m104_100 : F104 (100) = .inl (ty 0, 43, .inl (S9)) := by rw [eF104]; exact va_up_self ..
              have hO_at_104 : F104 (98) = .inr (6, [.int (iI (co)), .ref (ad (99)), .ref (ad (100)), .ref (ad (101)), .ref (ad (102)), .int (iI (ln)), .int (iI (wr)), .ref (ad (103))]) := (show F104 (98) = F56 (98) from by rw [eF104]; exact va_up_ne _ _ (by omega)).trans hO
              have h99_at_104 : F104 (99) = .inl (ty 0, 12900, .inl (P9)) := (show F104 (99) = F56 (99) from by rw [eF104]; exact va_up_ne _ _ (by omega)).trans h99
              have h101_at_104 : F104 (101) = .inl (ty 4, 43, .inl (G)) := (show F104 (101) = F56 (101) from by rw [eF104]; exact va_up_ne _ _ (by omega)).trans h101
              refine lv_aload_n hx hb d_M_setLong_105 rfl (lv_at hl 0 rfl) ?_
              refine pw_get (ci := 6) (C := R_M) (T := T_M) (N := 8) hx hb hq i_M hown hw (by omega) hO_at_104 rfl 3 (by decide) (hq _ fl_M_16) (fun _ h9 => h9) rfl d_M_setLong_106 ?_
              refine lv_iload_n hx hb d_M_setLong_109 rfl (lv_at hl 1 rfl) ?_
              refine lv_lload_n hx hb d_M_setLong_110 rfl (lv_at hl 2 rfl) ?_
              refine lv_lconst (v := iL 0) hx hb d_M_setLong_111 (by decide) ?_
              refine wz_lcmp_ge (tgt := 120) hx hb d_M_setLong_112 d_M_setLong_113 (by decide) (by omega) (by omega) (by omega) (by omega) (fun c112 => ?_) (fun c112 => ?_)
              · refine wz_iconst (n := 0) hx hb d_M_setLong_120 ?_
                refine pw_zast (k := to) hx hb hw 4 (by omega) h101_at_104 rfl (iI_in (by omega) (by omega) (by omega)) ((iI_cl (by omega) (by omega)).trans (by omega)) (y := iI (0)) (by decide) d_M_setLong_121 (fun F121 H locs eF121 hw => ?_)
                obtain ⟨G9, eG9⟩ : ∃ z9, z9 = upd G (to) (iI (0)) := ⟨_, rfl⟩
                rw [← eG9] at eF121
                have m121_101 : F121 (101) = .inl (ty 4, 43, .inl (G9)) := by rw [eF121]; exact va_up_self ..
                have hO_at_121 : F121 (98) = .inr (6, [.int (iI (co)), .ref (ad (99)), .ref (ad (100)), .ref (ad (101)), .ref (ad (102)), .int (iI (ln)), .int (iI (wr)), .ref (ad (103))]) := (show F121 (98) = F104 (98) from by rw [eF121]; exact va_up_ne _ _ (by omega)).trans hO_at_104
                have h99_at_121 : F121 (99) = .inl (ty 0, 12900, .inl (P9)) := (show F121 (99) = F104 (99) from by rw [eF121]; exact va_up_ne _ _ (by omega)).trans h99_at_104
                have m104_100_at_121 : F121 (100) = .inl (ty 0, 43, .inl (S9)) := (show F121 (100) = F104 (100) from by rw [eF121]; exact va_up_ne _ _ (by omega)).trans m104_100
                refine lv_aload_n hx hb d_M_setLong_122 rfl (lv_at hl 0 rfl) ?_
                refine lv_iload_n hx hb d_M_setLong_123 rfl (lv_at hl 1 rfl) ?_
                refine pw_callv hw (va_runV (As := [.int (iI ((to : Int)))]) (rest := []) ⟨hx, hb, hml, hown, hq⟩ (c_M_trim l D ty ad M F121 H.size hM co ln wr hO_at_121 P9 S9 G9 ⟨h99_at_121, m104_100_at_121, m121_101⟩ to n hto (by rw [eS9, pk_us]) (by omega) (hDg)) (cwV 1 hq (gV ml_M_39 im_M_trim se_M_trim in_M m_M_trim) rfl rfl rfl (by decide +kernel) ⟨Nat.le_of_ble_eq_true rfl, Nat.le_of_ble_eq_true rfl⟩) (pw_preV hw (by omega) hO_at_121 rfl) rfl rfl hl.1 rfl (lv_room (Nat.le_of_ble_eq_true rfl)) d_M_setLong_124 ⟨Nat.le_of_ble_eq_true rfl, Nat.le_of_ble_eq_true rfl⟩) (fun F124 H locs q124 hw => ?_)
                obtain ⟨S8, B8, hMA8, hMg8, hB8, ho8, hf8⟩ := q124
                have hO_at_124 : F124 (98) = .inr (6, [.int (iI (co)), .ref (ad (99)), .ref (ad (100)), .ref (ad (101)), .ref (ad (102)), .int (iI (ln)), .int (iI (wr)), .ref (ad (103))]) := (hf8 (98) (by omega) (by omega) (by omega)).trans hO_at_121
                rw [← hQ]
                exact pw_vret hx hb hr hlocks hw (by
                  have hr0 : rest0 = 0 := by omega
                  have hv9 : bvP P9 to n = va := by rw [hr0, Nat.zero_mul, Nat.add_zero] at hval; exact hval
                  rw [hv9] at hMg8 hB8
                  obtain ⟨h1, h2⟩ := fin_trim (z := v) hMA hMA8 hMg8 hB8 ho8 (fun c9 h9 => by rw [eS9, pk_un h9]) (fun c9 h9 => by rw [eG9, pk_un h9]) hPo (by omega) (fun _ => by rw [eG9, pk_us]; unfold sB; rw [if_neg (by omega)]; rfl)
                  exact ⟨h1, h2, fun y9 h3 h4 h5 => ((hf8 (y9) (by omega) (by omega) (by omega)).trans ((show F121 (y9) = F104 (y9) from by rw [eF121]; exact va_up_ne _ _ (by omega)).trans (show F104 (y9) = F56 (y9) from by rw [eF104]; exact va_up_ne _ _ (by omega)))).trans (hfr y9 h3)⟩) d_M_setLong_127
              · refine wz_iconst (n := 1) hx hb d_M_setLong_116 ?_
                refine lv_goto (tgt := 121) hx hb d_M_setLong_117 (by decide) ?_
                refine pw_zast (k := to) hx hb hw 4 (by omega) h101_at_104 rfl (iI_in (by omega) (by omega) (by omega)) ((iI_cl (by omega) (by omega)).trans (by omega)) (y := iI (1)) (by decide) d_M_setLong_121 (fun F121 H locs eF121 hw => ?_)
                obtain ⟨G9, eG9⟩ : ∃ z9, z9 = upd G (to) (iI (1)) := ⟨_, rfl⟩
                rw [← eG9] at eF121
                have m121_101 : F121 (101) = .inl (ty 4, 43, .inl (G9)) := by rw [eF121]; exact va_up_self ..
                have hO_at_121 : F121 (98) = .inr (6, [.int (iI (co)), .ref (ad (99)), .ref (ad (100)), .ref (ad (101)), .ref (ad (102)), .int (iI (ln)), .int (iI (wr)), .ref (ad (103))]) := (show F121 (98) = F104 (98) from by rw [eF121]; exact va_up_ne _ _ (by omega)).trans hO_at_104
                have h99_at_121 : F121 (99) = .inl (ty 0, 12900, .inl (P9)) := (show F121 (99) = F104 (99) from by rw [eF121]; exact va_up_ne _ _ (by omega)).trans h99_at_104
                have m104_100_at_121 : F121 (100) = .inl (ty 0, 43, .inl (S9)) := (show F121 (100) = F104 (100) from by rw [eF121]; exact va_up_ne _ _ (by omega)).trans m104_100
                refine lv_aload_n hx hb d_M_setLong_122 rfl (lv_at hl 0 rfl) ?_
                refine lv_iload_n hx hb d_M_setLong_123 rfl (lv_at hl 1 rfl) ?_
                refine pw_callv hw (va_runV (As := [.int (iI ((to : Int)))]) (rest := []) ⟨hx, hb, hml, hown, hq⟩ (c_M_trim l D ty ad M F121 H.size hM co ln wr hO_at_121 P9 S9 G9 ⟨h99_at_121, m104_100_at_121, m121_101⟩ to n hto (by rw [eS9, pk_us]) (by omega) (hDg)) (cwV 1 hq (gV ml_M_39 im_M_trim se_M_trim in_M m_M_trim) rfl rfl rfl (by decide +kernel) ⟨Nat.le_of_ble_eq_true rfl, Nat.le_of_ble_eq_true rfl⟩) (pw_preV hw (by omega) hO_at_121 rfl) rfl rfl hl.1 rfl (lv_room (Nat.le_of_ble_eq_true rfl)) d_M_setLong_124 ⟨Nat.le_of_ble_eq_true rfl, Nat.le_of_ble_eq_true rfl⟩) (fun F124 H locs q124 hw => ?_)
                obtain ⟨S8, B8, hMA8, hMg8, hB8, ho8, hf8⟩ := q124
                have hO_at_124 : F124 (98) = .inr (6, [.int (iI (co)), .ref (ad (99)), .ref (ad (100)), .ref (ad (101)), .ref (ad (102)), .int (iI (ln)), .int (iI (wr)), .ref (ad (103))]) := (hf8 (98) (by omega) (by omega) (by omega)).trans hO_at_121
                rw [← hQ]
                exact pw_vret hx hb hr hlocks hw (by
                  have hr0 : rest0 = 0 := by omega
                  have hv9 : bvP P9 to n = va := by rw [hr0, Nat.zero_mul, Nat.add_zero] at hval; exact hval
                  rw [hv9] at hMg8 hB8
                  obtain ⟨h1, h2⟩ := fin_trim (z := v) hMA hMA8 hMg8 hB8 ho8 (fun c9 h9 => by rw [eS9, pk_un h9]) (fun c9 h9 => by rw [eG9, pk_un h9]) hPo (by omega) (fun _ => by rw [eG9, pk_us]; unfold sB; rw [if_pos (by omega)]; rfl)
                  exact ⟨h1, h2, fun y9 h3 h4 h5 => ((hf8 (y9) (by omega) (by omega) (by omega)).trans ((show F121 (y9) = F104 (y9) from by rw [eF121]; exact va_up_ne _ _ (by omega)).trans (show F104 (y9) = F56 (y9) from by rw [eF104]; exact va_up_ne _ _ (by omega)))).trans (hfr y9 h3)⟩) d_M_setLong_127
            · have hp : 65536 ^ n ≤ rest0 * 65536 ^ n := Nat.le_mul_of_pos_left _ (by omega)
              have hn4 : n ≠ 4 := fun h9 => by
                rw [h9] at hp hval
                omega
              have hrl : rest0 ≤ rest0 * 65536 ^ n := Nat.le_mul_of_pos_right _ (Nat.pow_pos (by decide))
              refine lv_aload_n hx hb d_M_setLong_63 rfl (lv_at hl 0 rfl) ?_
              refine pw_get (ci := 6) (C := R_M) (T := T_M) (N := 8) hx hb hq i_M hown hw (by omega) hO rfl 1 (by decide) (hq _ fl_M_7) (fun _ h9 => h9) rfl d_M_setLong_64 ?_
              refine wz_sipush (n := 300) hx hb d_M_setLong_67 (by decide) ?_
              refine lv_iload_n hx hb d_M_setLong_70 rfl (lv_at hl 1 rfl) ?_
              refine wz_imul hx hb d_M_setLong_71 rfl ?_
              refine lv_iload hx hb d_M_setLong_72 (lv_at hl 4 rfl) ?_
              refine wz_iadd hx hb d_M_setLong_74 rfl ?_
              refine lv_lload hx hb d_M_setLong_75 (lv_at hl 3 rfl) ?_
              refine lv_ldc2 (v := iL (65536)) hx hb hown (hq _ cj_M_37) d_M_setLong_77 ?_
              refine wz_lrem (a := rest0) (b := 65536) (z := rest0 % 65536) hx hb d_M_setLong_80 (by omega) (by omega) (by omega) (rfl) ?_
              refine wz_l2i hx hb d_M_setLong_81 ?_
              refine pw_iast (k := 300 * to + n) hx hb hw 0 (by omega) h99 rfl (iI_in (by omega) (by omega) (by omega)) ((iI_cl (by omega) (by omega)).trans (by omega)) d_M_setLong_82 (fun F82 H locs eF82 hw => ?_)
              have m82_99 : F82 (99) = .inl (ty 0, 12900, .inl (upd P9 (300 * to + n) (iI (((rest0 % 65536 : Nat) : Int))))) := by rw [eF82]; exact va_up_self ..
              have hO_at_82 : F82 (98) = .inr (6, [.int (iI (co)), .ref (ad (99)), .ref (ad (100)), .ref (ad (101)), .ref (ad (102)), .int (iI (ln)), .int (iI (wr)), .ref (ad (103))]) := (show F82 (98) = F56 (98) from by rw [eF82]; exact va_up_ne _ _ (by omega)).trans hO
              have h100_at_82 : F82 (100) = .inl (ty 0, 43, .inl (S)) := (show F82 (100) = F56 (100) from by rw [eF82]; exact va_up_ne _ _ (by omega)).trans h100
              have h101_at_82 : F82 (101) = .inl (ty 4, 43, .inl (G)) := (show F82 (101) = F56 (101) from by rw [eF82]; exact va_up_ne _ _ (by omega)).trans h101
              refine lv_lload hx hb d_M_setLong_83 (lv_at hl 3 rfl) ?_
              refine lv_ldc2 (v := iL (65536)) hx hb hown (hq _ cj_M_37) d_M_setLong_85 ?_
              refine wz_ldiv (a := rest0) (b := 65536) (z := rest0 / 65536) hx hb d_M_setLong_88 (by omega) (by omega) (by omega) (rfl) ?_
              refine lv_lstore (lv' := [(4, .long (iL (((rest0 / 65536 : Nat) : Int)))), (0, .ref (ad (98))), (1, .int (iI ((to : Int)))), (2, .long (iL (v))), (7, .int (iI ((n : Int))))]) hx hb d_M_setLong_89 hl (by decide) rfl (fun ls hl => ?_)
              refine wz_iinc (z := ((n + 1 : Nat) : Int)) (lv' := [(7, .int (iI (((n + 1 : Nat) : Int)))), (4, .long (iL (((rest0 / 65536 : Nat) : Int)))), (0, .ref (ad (98))), (1, .int (iI ((to : Int)))), (2, .long (iL (v)))]) hx hb d_M_setLong_91 hl (k := 4) rfl (by omega) (by decide) rfl (fun ls hl => ?_)
              refine lv_goto (tgt := 56) hx hb d_M_setLong_94 (by decide) ?_
              exact ih56 (n + 1) (rest0 / 65536) (upd P9 (300 * to + n) (iI ((rest0 % 65536 : Nat) : Int))) _ _ _ ls (by omega) (by omega) (by omega) (by
                rw [bvP_s, bvP_up (Nat.le_refl _), dig_up (by omega), Nat.pow_succ, Nat.add_assoc, carry_step]; exact hval) (Dg_up hDg (by omega)) (fun j hj => by rw [pk_un (by omega)]; exact hPo j hj) (fun y9 h9 => (show F82 (y9) = F56 (y9) from by rw [eF82]; exact va_up_ne _ _ (by omega)).trans (hfr y9 h9)) hO_at_82 m82_99 h100_at_82 h101_at_82 hw (lv_sub hl [2, 3, 4, 1, 0] rfl)
        exact K56 _ 1 (va / 65536) P1 _ _ _ ls (Nat.lt_succ_self _) (by omega) (by omega) (by rw [bvP_s, bvP_0, Nat.add_zero, eP1, show -((va % 65536 : Nat) : Int) = ((va % 65536 : Nat) : Int) by omega, dl_us (by omega), Nat.pow_zero, Nat.mul_one, Nat.zero_add, Nat.pow_one]; omega) (fun i hi => by rw [show i = 0 by omega, Nat.add_zero, eP1, show -((va % 65536 : Nat) : Int) = ((va % 65536 : Nat) : Int) by omega, dl_us (by omega)]; omega) (fun j hj => by rw [eP1, pk_un (by omega)]) (fun y9 h9 => show F52 (y9) = F (y9) from by rw [eF52]; exact va_up_ne _ _ (by omega)) hO_at_52 m52_99 h100_at_52 h101_at_52 hw (lv_sub hl [3, 4, 5, 2, 0] rfl)
      · refine lv_iload hx hb d_M_setLong_44 (lv_at hl 0 rfl) ?_
        refine wz_ineg (z := ((va % 65536 : Nat) : Int)) hx hb d_M_setLong_46 (by omega) ?_
        refine lv_goto (tgt := 52) hx hb d_M_setLong_47 (by decide) ?_
        refine pw_iast (k := 300 * to) hx hb hw 0 (by omega) h99 rfl (iI_in (by omega) (by omega) (by omega)) ((iI_cl (by omega) (by omega)).trans (by omega)) d_M_setLong_52 (fun F52 H locs eF52 hw => ?_)
        obtain ⟨P1, eP1⟩ : ∃ z9, z9 = upd P (300 * to) (iI (((va % 65536 : Nat) : Int))) := ⟨_, rfl⟩
        rw [← eP1] at eF52
        have m52_99 : F52 (99) = .inl (ty 0, 12900, .inl (P1)) := by rw [eF52]; exact va_up_self ..
        have hO_at_52 : F52 (98) = .inr (6, [.int (iI (co)), .ref (ad (99)), .ref (ad (100)), .ref (ad (101)), .ref (ad (102)), .int (iI (ln)), .int (iI (wr)), .ref (ad (103))]) := (show F52 (98) = F (98) from by rw [eF52]; exact va_up_ne _ _ (by omega)).trans hO
        have h100_at_52 : F52 (100) = .inl (ty 0, 43, .inl (S)) := (show F52 (100) = F (100) from by rw [eF52]; exact va_up_ne _ _ (by omega)).trans h100
        have h101_at_52 : F52 (101) = .inl (ty 4, 43, .inl (G)) := (show F52 (101) = F (101) from by rw [eF52]; exact va_up_ne _ _ (by omega)).trans h101
        refine wz_iconst (n := 1) hx hb d_M_setLong_53 ?_
        refine lv_istore (lv' := [(7, .int (iI (1))), (6, .int (iI (-((va % 65536 : Nat) : Int)))), (4, .long (iL (((va / 65536 : Nat) : Int)))), (0, .ref (ad (98))), (1, .int (iI ((to : Int)))), (2, .long (iL (v)))]) hx hb d_M_setLong_54 hl (by decide) rfl (fun ls hl => ?_)
        have K56 : ∀ (fuel : Nat) (n rest0 : Nat) (P9 : Nat → Int32) (F56 : Nat → va_E) (H : Heap) (locs : List Loc) (ls : Array Slot), rest0 < fuel → (1 ≤ n ∧ n ≤ 4) → (rest0 < 9223372036854775808) → (bvP P9 to n + rest0 * 65536 ^ n = va) → (Dg P9 to n) → (∀ j, j < 300 * to ∨ 300 * to + 300 ≤ j → P9 j = P j) → (∀ y, y ≠ 99 → F56 y = F y) → F56 (98) = .inr (6, [.int (iI (co)), .ref (ad (99)), .ref (ad (100)), .ref (ad (101)), .ref (ad (102)), .int (iI (ln)), .int (iI (wr)), .ref (ad (103))]) → F56 (99) = .inl (ty 0, 12900, .inl (P9)) → F56 (100) = .inl (ty 0, 43, .inl (S)) → F56 (101) = .inl (ty 4, 43, .inl (G)) → pw D classes (tysL ty) ad M F56 (pA ad M s.heap.size) s H locs → lv_has ls 8 [(0, .ref (ad (98))), (1, .int (iI ((to : Int)))), (2, .long (iL (v))), (4, .long (iL ((rest0 : Int)))), (7, .int (iI ((n : Int))))] → W p l e ({ frames := 1, cells := 0, slots := 0, locals := 21 } : Room) s m ([.ref (ad (98)), .int (iI ((to : Int))), .long (iL (v))]).toArray below meth c H locs 0 0 Q (F0 m 56 ls []) := by
          intro fuel
          induction fuel with
          | zero => intro n rest0 P9 F56 H locs ls hfuel hn hrb hval hDg hPo hfr hO h99 h100 h101 hw hl; exact absurd hfuel (Nat.not_lt_zero _)
          | succ fuel ih56 =>
            intro n rest0 P9 F56 H locs ls hfuel hn hrb hval hDg hPo hfr hO h99 h100 h101 hw hl
            refine lv_lload hx hb d_M_setLong_56 (lv_at hl 3 rfl) ?_
            refine lv_lconst (v := iL 0) hx hb d_M_setLong_58 (by decide) ?_
            refine wz_lcmp_le (tgt := 97) hx hb d_M_setLong_59 d_M_setLong_60 (by decide) (by omega) (by omega) (by omega) (by omega) (fun c59 => ?_) (fun c59 => ?_)
            · have hr00 : rest0 = 0 := by omega
              refine lv_aload_n hx hb d_M_setLong_97 rfl (lv_at hl 0 rfl) ?_
              refine pw_get (ci := 6) (C := R_M) (T := T_M) (N := 8) hx hb hq i_M hown hw (by omega) hO rfl 2 (by decide) (hq _ fl_M_13) (fun _ h9 => h9) rfl d_M_setLong_98 ?_
              refine lv_iload_n hx hb d_M_setLong_101 rfl (lv_at hl 1 rfl) ?_
              refine lv_iload hx hb d_M_setLong_102 (lv_at hl 4 rfl) ?_
              refine pw_iast (k := to) hx hb hw 0 (by omega) h100 rfl (iI_in (by omega) (by omega) (by omega)) ((iI_cl (by omega) (by omega)).trans (by omega)) d_M_setLong_104 (fun F104 H locs eF104 hw => ?_)
              obtain ⟨S9, eS9⟩ : ∃ z9, z9 = upd S (to) (iI ((n : Int))) := ⟨_, rfl⟩
              rw [← eS9] at eF104
              have m104_100 : F104 (100) = .inl (ty 0, 43, .inl (S9)) := by rw [eF104]; exact va_up_self ..
              have hO_at_104 : F104 (98) = .inr (6, [.int (iI (co)), .ref (ad (99)), .ref (ad (100)), .ref (ad (101)), .ref (ad (102)), .int (iI (ln)), .int (iI (wr)), .ref (ad (103))]) := (show F104 (98) = F56 (98) from by rw [eF104]; exact va_up_ne _ _ (by omega)).trans hO
              have h99_at_104 : F104 (99) = .inl (ty 0, 12900, .inl (P9)) := (show F104 (99) = F56 (99) from by rw [eF104]; exact va_up_ne _ _ (by omega)).trans h99
              have h101_at_104 : F104 (101) = .inl (ty 4, 43, .inl (G)) := (show F104 (101) = F56 (101) from by rw [eF104]; exact va_up_ne _ _ (by omega)).trans h101
              refine lv_aload_n hx hb d_M_setLong_105 rfl (lv_at hl 0 rfl) ?_
              refine pw_get (ci := 6) (C := R_M) (T := T_M) (N := 8) hx hb hq i_M hown hw (by omega) hO_at_104 rfl 3 (by decide) (hq _ fl_M_16) (fun _ h9 => h9) rfl d_M_setLong_106 ?_
              refine lv_iload_n hx hb d_M_setLong_109 rfl (lv_at hl 1 rfl) ?_
              refine lv_lload_n hx hb d_M_setLong_110 rfl (lv_at hl 2 rfl) ?_
              refine lv_lconst (v := iL 0) hx hb d_M_setLong_111 (by decide) ?_
              refine wz_lcmp_ge (tgt := 120) hx hb d_M_setLong_112 d_M_setLong_113 (by decide) (by omega) (by omega) (by omega) (by omega) (fun c112 => ?_) (fun c112 => ?_)
              · refine wz_iconst (n := 0) hx hb d_M_setLong_120 ?_
                refine pw_zast (k := to) hx hb hw 4 (by omega) h101_at_104 rfl (iI_in (by omega) (by omega) (by omega)) ((iI_cl (by omega) (by omega)).trans (by omega)) (y := iI (0)) (by decide) d_M_setLong_121 (fun F121 H locs eF121 hw => ?_)
                obtain ⟨G9, eG9⟩ : ∃ z9, z9 = upd G (to) (iI (0)) := ⟨_, rfl⟩
                rw [← eG9] at eF121
                have m121_101 : F121 (101) = .inl (ty 4, 43, .inl (G9)) := by rw [eF121]; exact va_up_self ..
                have hO_at_121 : F121 (98) = .inr (6, [.int (iI (co)), .ref (ad (99)), .ref (ad (100)), .ref (ad (101)), .ref (ad (102)), .int (iI (ln)), .int (iI (wr)), .ref (ad (103))]) := (show F121 (98) = F104 (98) from by rw [eF121]; exact va_up_ne _ _ (by omega)).trans hO_at_104
                have h99_at_121 : F121 (99) = .inl (ty 0, 12900, .inl (P9)) := (show F121 (99) = F104 (99) from by rw [eF121]; exact va_up_ne _ _ (by omega)).trans h99_at_104
                have m104_100_at_121 : F121 (100) = .inl (ty 0, 43, .inl (S9)) := (show F121 (100) = F104 (100) from by rw [eF121]; exact va_up_ne _ _ (by omega)).trans m104_100
                refine lv_aload_n hx hb d_M_setLong_122 rfl (lv_at hl 0 rfl) ?_
                refine lv_iload_n hx hb d_M_setLong_123 rfl (lv_at hl 1 rfl) ?_
                refine pw_callv hw (va_runV (As := [.int (iI ((to : Int)))]) (rest := []) ⟨hx, hb, hml, hown, hq⟩ (c_M_trim l D ty ad M F121 H.size hM co ln wr hO_at_121 P9 S9 G9 ⟨h99_at_121, m104_100_at_121, m121_101⟩ to n hto (by rw [eS9, pk_us]) (by omega) (hDg)) (cwV 1 hq (gV ml_M_39 im_M_trim se_M_trim in_M m_M_trim) rfl rfl rfl (by decide +kernel) ⟨Nat.le_of_ble_eq_true rfl, Nat.le_of_ble_eq_true rfl⟩) (pw_preV hw (by omega) hO_at_121 rfl) rfl rfl hl.1 rfl (lv_room (Nat.le_of_ble_eq_true rfl)) d_M_setLong_124 ⟨Nat.le_of_ble_eq_true rfl, Nat.le_of_ble_eq_true rfl⟩) (fun F124 H locs q124 hw => ?_)
                obtain ⟨S8, B8, hMA8, hMg8, hB8, ho8, hf8⟩ := q124
                have hO_at_124 : F124 (98) = .inr (6, [.int (iI (co)), .ref (ad (99)), .ref (ad (100)), .ref (ad (101)), .ref (ad (102)), .int (iI (ln)), .int (iI (wr)), .ref (ad (103))]) := (hf8 (98) (by omega) (by omega) (by omega)).trans hO_at_121
                rw [← hQ]
                exact pw_vret hx hb hr hlocks hw (by
                  have hr0 : rest0 = 0 := by omega
                  have hv9 : bvP P9 to n = va := by rw [hr0, Nat.zero_mul, Nat.add_zero] at hval; exact hval
                  rw [hv9] at hMg8 hB8
                  obtain ⟨h1, h2⟩ := fin_trim (z := v) hMA hMA8 hMg8 hB8 ho8 (fun c9 h9 => by rw [eS9, pk_un h9]) (fun c9 h9 => by rw [eG9, pk_un h9]) hPo (by omega) (fun _ => by rw [eG9, pk_us]; unfold sB; rw [if_neg (by omega)]; rfl)
                  exact ⟨h1, h2, fun y9 h3 h4 h5 => ((hf8 (y9) (by omega) (by omega) (by omega)).trans ((show F121 (y9) = F104 (y9) from by rw [eF121]; exact va_up_ne _ _ (by omega)).trans (show F104 (y9) = F56 (y9) from by rw [eF104]; exact va_up_ne _ _ (by omega)))).trans (hfr y9 h3)⟩) d_M_setLong_127
              · refine wz_iconst (n := 1) hx hb d_M_setLong_116 ?_
                refine lv_goto (tgt := 121) hx hb d_M_setLong_117 (by decide) ?_
                refine pw_zast (k := to) hx hb hw 4 (by omega) h101_at_104 rfl (iI_in (by omega) (by omega) (by omega)) ((iI_cl (by omega) (by omega)).trans (by omega)) (y := iI (1)) (by decide) d_M_setLong_121 (fun F121 H locs eF121 hw => ?_)
                obtain ⟨G9, eG9⟩ : ∃ z9, z9 = upd G (to) (iI (1)) := ⟨_, rfl⟩
                rw [← eG9] at eF121
                have m121_101 : F121 (101) = .inl (ty 4, 43, .inl (G9)) := by rw [eF121]; exact va_up_self ..
                have hO_at_121 : F121 (98) = .inr (6, [.int (iI (co)), .ref (ad (99)), .ref (ad (100)), .ref (ad (101)), .ref (ad (102)), .int (iI (ln)), .int (iI (wr)), .ref (ad (103))]) := (show F121 (98) = F104 (98) from by rw [eF121]; exact va_up_ne _ _ (by omega)).trans hO_at_104
                have h99_at_121 : F121 (99) = .inl (ty 0, 12900, .inl (P9)) := (show F121 (99) = F104 (99) from by rw [eF121]; exact va_up_ne _ _ (by omega)).trans h99_at_104
                have m104_100_at_121 : F121 (100) = .inl (ty 0, 43, .inl (S9)) := (show F121 (100) = F104 (100) from by rw [eF121]; exact va_up_ne _ _ (by omega)).trans m104_100
                refine lv_aload_n hx hb d_M_setLong_122 rfl (lv_at hl 0 rfl) ?_
                refine lv_iload_n hx hb d_M_setLong_123 rfl (lv_at hl 1 rfl) ?_
                refine pw_callv hw (va_runV (As := [.int (iI ((to : Int)))]) (rest := []) ⟨hx, hb, hml, hown, hq⟩ (c_M_trim l D ty ad M F121 H.size hM co ln wr hO_at_121 P9 S9 G9 ⟨h99_at_121, m104_100_at_121, m121_101⟩ to n hto (by rw [eS9, pk_us]) (by omega) (hDg)) (cwV 1 hq (gV ml_M_39 im_M_trim se_M_trim in_M m_M_trim) rfl rfl rfl (by decide +kernel) ⟨Nat.le_of_ble_eq_true rfl, Nat.le_of_ble_eq_true rfl⟩) (pw_preV hw (by omega) hO_at_121 rfl) rfl rfl hl.1 rfl (lv_room (Nat.le_of_ble_eq_true rfl)) d_M_setLong_124 ⟨Nat.le_of_ble_eq_true rfl, Nat.le_of_ble_eq_true rfl⟩) (fun F124 H locs q124 hw => ?_)
                obtain ⟨S8, B8, hMA8, hMg8, hB8, ho8, hf8⟩ := q124
                have hO_at_124 : F124 (98) = .inr (6, [.int (iI (co)), .ref (ad (99)), .ref (ad (100)), .ref (ad (101)), .ref (ad (102)), .int (iI (ln)), .int (iI (wr)), .ref (ad (103))]) := (hf8 (98) (by omega) (by omega) (by omega)).trans hO_at_121
                rw [← hQ]
                exact pw_vret hx hb hr hlocks hw (by
                  have hr0 : rest0 = 0 := by omega
                  have hv9 : bvP P9 to n = va := by rw [hr0, Nat.zero_mul, Nat.add_zero] at hval; exact hval
                  rw [hv9] at hMg8 hB8
                  obtain ⟨h1, h2⟩ := fin_trim (z := v) hMA hMA8 hMg8 hB8 ho8 (fun c9 h9 => by rw [eS9, pk_un h9]) (fun c9 h9 => by rw [eG9, pk_un h9]) hPo (by omega) (fun _ => by rw [eG9, pk_us]; unfold sB; rw [if_pos (by omega)]; rfl)
                  exact ⟨h1, h2, fun y9 h3 h4 h5 => ((hf8 (y9) (by omega) (by omega) (by omega)).trans ((show F121 (y9) = F104 (y9) from by rw [eF121]; exact va_up_ne _ _ (by omega)).trans (show F104 (y9) = F56 (y9) from by rw [eF104]; exact va_up_ne _ _ (by omega)))).trans (hfr y9 h3)⟩) d_M_setLong_127
            · have hp : 65536 ^ n ≤ rest0 * 65536 ^ n := Nat.le_mul_of_pos_left _ (by omega)
              have hn4 : n ≠ 4 := fun h9 => by
                rw [h9] at hp hval
                omega
              have hrl : rest0 ≤ rest0 * 65536 ^ n := Nat.le_mul_of_pos_right _ (Nat.pow_pos (by decide))
              refine lv_aload_n hx hb d_M_setLong_63 rfl (lv_at hl 0 rfl) ?_
              refine pw_get (ci := 6) (C := R_M) (T := T_M) (N := 8) hx hb hq i_M hown hw (by omega) hO rfl 1 (by decide) (hq _ fl_M_7) (fun _ h9 => h9) rfl d_M_setLong_64 ?_
              refine wz_sipush (n := 300) hx hb d_M_setLong_67 (by decide) ?_
              refine lv_iload_n hx hb d_M_setLong_70 rfl (lv_at hl 1 rfl) ?_
              refine wz_imul hx hb d_M_setLong_71 rfl ?_
              refine lv_iload hx hb d_M_setLong_72 (lv_at hl 4 rfl) ?_
              refine wz_iadd hx hb d_M_setLong_74 rfl ?_
              refine lv_lload hx hb d_M_setLong_75 (lv_at hl 3 rfl) ?_
              refine lv_ldc2 (v := iL (65536)) hx hb hown (hq _ cj_M_37) d_M_setLong_77 ?_
              refine wz_lrem (a := rest0) (b := 65536) (z := rest0 % 65536) hx hb d_M_setLong_80 (by omega) (by omega) (by omega) (rfl) ?_
              refine wz_l2i hx hb d_M_setLong_81 ?_
              refine pw_iast (k := 300 * to + n) hx hb hw 0 (by omega) h99 rfl (iI_in (by omega) (by omega) (by omega)) ((iI_cl (by omega) (by omega)).trans (by omega)) d_M_setLong_82 (fun F82 H locs eF82 hw => ?_)
              have m82_99 : F82 (99) = .inl (ty 0, 12900, .inl (upd P9 (300 * to + n) (iI (((rest0 % 65536 : Nat) : Int))))) := by rw [eF82]; exact va_up_self ..
              have hO_at_82 : F82 (98) = .inr (6, [.int (iI (co)), .ref (ad (99)), .ref (ad (100)), .ref (ad (101)), .ref (ad (102)), .int (iI (ln)), .int (iI (wr)), .ref (ad (103))]) := (show F82 (98) = F56 (98) from by rw [eF82]; exact va_up_ne _ _ (by omega)).trans hO
              have h100_at_82 : F82 (100) = .inl (ty 0, 43, .inl (S)) := (show F82 (100) = F56 (100) from by rw [eF82]; exact va_up_ne _ _ (by omega)).trans h100
              have h101_at_82 : F82 (101) = .inl (ty 4, 43, .inl (G)) := (show F82 (101) = F56 (101) from by rw [eF82]; exact va_up_ne _ _ (by omega)).trans h101
              refine lv_lload hx hb d_M_setLong_83 (lv_at hl 3 rfl) ?_
              refine lv_ldc2 (v := iL (65536)) hx hb hown (hq _ cj_M_37) d_M_setLong_85 ?_
              refine wz_ldiv (a := rest0) (b := 65536) (z := rest0 / 65536) hx hb d_M_setLong_88 (by omega) (by omega) (by omega) (rfl) ?_
              refine lv_lstore (lv' := [(4, .long (iL (((rest0 / 65536 : Nat) : Int)))), (0, .ref (ad (98))), (1, .int (iI ((to : Int)))), (2, .long (iL (v))), (7, .int (iI ((n : Int))))]) hx hb d_M_setLong_89 hl (by decide) rfl (fun ls hl => ?_)
              refine wz_iinc (z := ((n + 1 : Nat) : Int)) (lv' := [(7, .int (iI (((n + 1 : Nat) : Int)))), (4, .long (iL (((rest0 / 65536 : Nat) : Int)))), (0, .ref (ad (98))), (1, .int (iI ((to : Int)))), (2, .long (iL (v)))]) hx hb d_M_setLong_91 hl (k := 4) rfl (by omega) (by decide) rfl (fun ls hl => ?_)
              refine lv_goto (tgt := 56) hx hb d_M_setLong_94 (by decide) ?_
              exact ih56 (n + 1) (rest0 / 65536) (upd P9 (300 * to + n) (iI ((rest0 % 65536 : Nat) : Int))) _ _ _ ls (by omega) (by omega) (by omega) (by
                rw [bvP_s, bvP_up (Nat.le_refl _), dig_up (by omega), Nat.pow_succ, Nat.add_assoc, carry_step]; exact hval) (Dg_up hDg (by omega)) (fun j hj => by rw [pk_un (by omega)]; exact hPo j hj) (fun y9 h9 => (show F82 (y9) = F56 (y9) from by rw [eF82]; exact va_up_ne _ _ (by omega)).trans (hfr y9 h9)) hO_at_82 m82_99 h100_at_82 h101_at_82 hw (lv_sub hl [2, 3, 4, 1, 0] rfl)
        exact K56 _ 1 (va / 65536) P1 _ _ _ ls (Nat.lt_succ_self _) (by omega) (by omega) (by rw [bvP_s, bvP_0, Nat.add_zero, eP1, show ((va % 65536 : Nat) : Int) = ((va % 65536 : Nat) : Int) by omega, dl_us (by omega), Nat.pow_zero, Nat.mul_one, Nat.zero_add, Nat.pow_one]; omega) (fun i hi => by rw [show i = 0 by omega, Nat.add_zero, eP1, show ((va % 65536 : Nat) : Int) = ((va % 65536 : Nat) : Int) by omega, dl_us (by omega)]; omega) (fun j hj => by rw [eP1, pk_un (by omega)]) (fun y9 h9 => show F52 (y9) = F (y9) from by rw [eF52]; exact va_up_ne _ _ (by omega)) hO_at_52 m52_99 h100_at_52 h101_at_52 hw (lv_sub hl [3, 4, 5, 2, 0] rfl)
  rw [hH, hlo] at hgo
  exact hgo
set_option maxHeartbeats 4000000 in
set_option maxRecDepth 100000 in
/-- copy(to, a) -/
theorem c_M_copy (l : Launch) (D : va_G) (ty : Nat → ClassId) (ad : Nat → Nat) (M : Nat) (F : Nat → va_E) (sz : Nat) (hM : 103 < M) (co ln wr : Int) (hO : F 98 = oM ad co ln wr) (to a : Nat) (hto : to < 43) (ha : a < 43) (hne : to ≠ a) (z : Int) (hNa : Nm ty F a z) :
    CV l y_M_copy w_M_copy ({ frames := 0, cells := 0, slots := 0, locals := 0 } : Room) [.ref (ad (98)), .int (iI ((to : Int))), .int (iI ((a : Int)))] D ty ad M F sz (fun F1 => Nm ty F1 to z ∧ kp ty F F1 (fun c => c = to) ∧ frM F F1) := by
  refine Met.ofW (cc := b_M_copy) (maxL := 4) (ret := none) (by decide) rfl ?_
  intro p e s m args below meth c s₁ B hml hv
  obtain ⟨rfl, hsz, hP, hK, hD0⟩ := hv
  have hx := B.exec
  have hb := B.bytes
  have hr := B.returns
  have hts := atoms_spec (ws := w_M_copy) B.pre
  have hq : ∀ w ∈ wT, w.before _ s = true := fun w h => hts w (List.mem_cons_of_mem _ h)
  have hown : s.vm.findClass R_M = some m.cls := findClass_of_methodNamed B.named
  have hlocks := B.notSynchronized
  subst hsz
  have hw := pw_start hP hK hD0
  have hl := lv_entry ([.ref (ad (98)), .int (iI ((to : Int))), .int (iI ((a : Int)))]) (n := 4) (Nat.le_of_ble_eq_true rfl)
  rw [lg_entry_eq]
  generalize (lg_sl ([.ref (ad (98)), .int (iI ((to : Int))), .int (iI ((a : Int)))]) ++ List.replicate (4 - (lg_sl ([.ref (ad (98)), .int (iI ((to : Int))), .int (iI ((a : Int)))])).length) Slot.unset).toArray = ls at hl ⊢
  have hl : lv_has ls 4 [(0, .ref (ad (98))), (1, .int (iI ((to : Int)))), (2, .int (iI ((a : Int))))] := hl
  change W p l e ({ frames := 0, cells := 0, slots := 0, locals := 0 } : Room) s m ([.ref (ad (98)), .int (iI ((to : Int))), .int (iI ((a : Int)))]).toArray below meth c s.heap [] 0 0 (MQ below (va_Qv (fun F1 => Nm ty F1 to z ∧ kp ty F F1 (fun c => c = to) ∧ frM F F1) (pAt D classes (tysL ty) ad M (pA ad M s.heap.size)) (pA ad M s.heap.size)) ([.ref (ad (98)), .int (iI ((to : Int))), .int (iI ((a : Int)))]).toArray s 0 0 (pA ad M s.heap.size)) (F0 m 0 ls [])
  generalize hQ : MQ below (va_Qv (fun F1 => Nm ty F1 to z ∧ kp ty F F1 (fun c => c = to) ∧ frM F F1) (pAt D classes (tysL ty) ad M (pA ad M s.heap.size)) (pA ad M s.heap.size)) ([.ref (ad (98)), .int (iI ((to : Int))), .int (iI ((a : Int)))]).toArray s 0 0 (pA ad M s.heap.size) = Q
  obtain ⟨H, hH⟩ : ∃ H, H = s.heap := ⟨_, rfl⟩
  obtain ⟨locs, hlo⟩ : ∃ z : List Loc, z = [] := ⟨_, rfl⟩
  have hw : pw D classes (tysL ty) ad M F (pA ad M s.heap.size) s H locs := by rw [hH, hlo]; exact hw
  have hgo : W p l e ({ frames := 0, cells := 0, slots := 0, locals := 0 } : Room) s m ([.ref (ad (98)), .int (iI ((to : Int))), .int (iI ((a : Int)))]).toArray below meth c H locs 0 0 Q (F0 m 0 ls []) := by
    obtain ⟨P, S, G, hMA, ⟨n, hSn, hn3, hDg, htop, hbv⟩, hG⟩ := id hNa
    obtain ⟨h99, h100, h101⟩ := id hMA
    refine wz_iconst (n := 0) hx hb d_M_copy_0 ?_
    refine lv_istore_n (lv' := [(3, .int (iI (0))), (0, .ref (ad (98))), (1, .int (iI ((to : Int)))), (2, .int (iI ((a : Int))))]) hx hb d_M_copy_1 rfl hl (by decide) rfl (fun ls hl => ?_)
    have K2 : ∀ (fuel : Nat) (k : Nat) (P9 : Nat → Int32) (F2 : Nat → va_E) (H : Heap) (locs : List Loc) (ls : Array Slot), n - k < fuel → (k ≤ n) → (∀ i, i < k → P9 (300 * to + i) = P (300 * a + i)) → (∀ j, j < 300 * to ∨ 300 * to + 300 ≤ j → P9 j = P j) → (∀ y, y ≠ 99 → F2 y = F y) → F2 (98) = .inr (6, [.int (iI (co)), .ref (ad (99)), .ref (ad (100)), .ref (ad (101)), .ref (ad (102)), .int (iI (ln)), .int (iI (wr)), .ref (ad (103))]) → F2 (99) = .inl (ty 0, 12900, .inl (P9)) → F2 (100) = .inl (ty 0, 43, .inl (S)) → F2 (101) = .inl (ty 4, 43, .inl (G)) → pw D classes (tysL ty) ad M F2 (pA ad M s.heap.size) s H locs → lv_has ls 4 [(0, .ref (ad (98))), (1, .int (iI ((to : Int)))), (2, .int (iI ((a : Int)))), (3, .int (iI ((k : Int))))] → W p l e ({ frames := 0, cells := 0, slots := 0, locals := 0 } : Room) s m ([.ref (ad (98)), .int (iI ((to : Int))), .int (iI ((a : Int)))]).toArray below meth c H locs 0 0 Q (F0 m 2 ls []) := by
      intro fuel
      induction fuel with
      | zero => intro k P9 F2 H locs ls hfuel hk hcp hPo hfr hO h99 h100 h101 hw hl; exact absurd hfuel (Nat.not_lt_zero _)
      | succ fuel ih2 =>
        intro k P9 F2 H locs ls hfuel hk hcp hPo hfr hO h99 h100 h101 hw hl
        refine lv_iload_n hx hb d_M_copy_2 rfl (lv_at hl 3 rfl) ?_
        refine lv_aload_n hx hb d_M_copy_3 rfl (lv_at hl 0 rfl) ?_
        refine pw_get (ci := 6) (C := R_M) (T := T_M) (N := 8) hx hb hq i_M hown hw (by omega) hO rfl 2 (by decide) (hq _ fl_M_13) (fun _ h9 => h9) rfl d_M_copy_4 ?_
        refine lv_iload_n hx hb d_M_copy_7 rfl (lv_at hl 2 rfl) ?_
        refine pw_iald (k := a) hx hb hw 0 (by omega) h100 rfl (iI_in (by omega) (by omega) (by omega)) ((iI_cl (by omega) (by omega)).trans (by omega)) d_M_copy_8 ?_
        refine lv_topi (fun x8 ex8 => ?_)
        obtain rfl : x8 = iI ((n : Int)) := ex8.trans (hSn)
        refine wz_icmp_ge (tgt := 42) hx hb d_M_copy_9 (by decide) (by omega) (by omega) (by omega) (by omega) (fun c9 => ?_) (fun c9 => ?_)
        · refine lv_aload_n hx hb d_M_copy_42 rfl (lv_at hl 0 rfl) ?_
          refine pw_get (ci := 6) (C := R_M) (T := T_M) (N := 8) hx hb hq i_M hown hw (by omega) hO rfl 2 (by decide) (hq _ fl_M_13) (fun _ h9 => h9) rfl d_M_copy_43 ?_
          refine lv_iload_n hx hb d_M_copy_46 rfl (lv_at hl 1 rfl) ?_
          refine lv_aload_n hx hb d_M_copy_47 rfl (lv_at hl 0 rfl) ?_
          refine pw_get (ci := 6) (C := R_M) (T := T_M) (N := 8) hx hb hq i_M hown hw (by omega) hO rfl 2 (by decide) (hq _ fl_M_13) (fun _ h9 => h9) rfl d_M_copy_48 ?_
          refine lv_iload_n hx hb d_M_copy_51 rfl (lv_at hl 2 rfl) ?_
          refine pw_iald (k := a) hx hb hw 0 (by omega) h100 rfl (iI_in (by omega) (by omega) (by omega)) ((iI_cl (by omega) (by omega)).trans (by omega)) d_M_copy_52 ?_
          refine lv_topi (fun x52 ex52 => ?_)
          obtain rfl : x52 = iI ((n : Int)) := ex52.trans (hSn)
          refine pw_iast (k := to) hx hb hw 0 (by omega) h100 rfl (iI_in (by omega) (by omega) (by omega)) ((iI_cl (by omega) (by omega)).trans (by omega)) d_M_copy_53 (fun F53 H locs eF53 hw => ?_)
          obtain ⟨S9, eS9⟩ : ∃ z9, z9 = upd S (to) (iI ((n : Int))) := ⟨_, rfl⟩
          rw [← eS9] at eF53
          have m53_100 : F53 (100) = .inl (ty 0, 43, .inl (S9)) := by rw [eF53]; exact va_up_self ..
          have hO_at_53 : F53 (98) = .inr (6, [.int (iI (co)), .ref (ad (99)), .ref (ad (100)), .ref (ad (101)), .ref (ad (102)), .int (iI (ln)), .int (iI (wr)), .ref (ad (103))]) := (show F53 (98) = F2 (98) from by rw [eF53]; exact va_up_ne _ _ (by omega)).trans hO
          have h99_at_53 : F53 (99) = .inl (ty 0, 12900, .inl (P9)) := (show F53 (99) = F2 (99) from by rw [eF53]; exact va_up_ne _ _ (by omega)).trans h99
          have h101_at_53 : F53 (101) = .inl (ty 4, 43, .inl (G)) := (show F53 (101) = F2 (101) from by rw [eF53]; exact va_up_ne _ _ (by omega)).trans h101
          refine lv_aload_n hx hb d_M_copy_54 rfl (lv_at hl 0 rfl) ?_
          refine pw_get (ci := 6) (C := R_M) (T := T_M) (N := 8) hx hb hq i_M hown hw (by omega) hO_at_53 rfl 3 (by decide) (hq _ fl_M_16) (fun _ h9 => h9) rfl d_M_copy_55 ?_
          refine lv_iload_n hx hb d_M_copy_58 rfl (lv_at hl 1 rfl) ?_
          refine lv_aload_n hx hb d_M_copy_59 rfl (lv_at hl 0 rfl) ?_
          refine pw_get (ci := 6) (C := R_M) (T := T_M) (N := 8) hx hb hq i_M hown hw (by omega) hO_at_53 rfl 3 (by decide) (hq _ fl_M_16) (fun _ h9 => h9) rfl d_M_copy_60 ?_
          refine lv_iload_n hx hb d_M_copy_63 rfl (lv_at hl 2 rfl) ?_
          refine pw_zald (k := a) hx hb hw 4 (by omega) h101_at_53 rfl (iI_in (by omega) (by omega) (by omega)) ((iI_cl (by omega) (by omega)).trans (by omega)) d_M_copy_64 ?_
          refine lv_topi (fun x64 ex64 => ?_)
          obtain rfl : x64 = iI ((sB z : Int)) := ex64.trans (hG)
          refine pw_zast (k := to) hx hb hw 4 (by omega) h101_at_53 rfl (iI_in (by omega) (by omega) (by omega)) ((iI_cl (by omega) (by omega)).trans (by omega)) (y := iI (sB z : Int)) (nar_sB z) d_M_copy_65 (fun F65 H locs eF65 hw => ?_)
          obtain ⟨G9, eG9⟩ : ∃ z9, z9 = upd G (to) (iI (sB z : Int)) := ⟨_, rfl⟩
          rw [← eG9] at eF65
          have m65_101 : F65 (101) = .inl (ty 4, 43, .inl (G9)) := by rw [eF65]; exact va_up_self ..
          have hO_at_65 : F65 (98) = .inr (6, [.int (iI (co)), .ref (ad (99)), .ref (ad (100)), .ref (ad (101)), .ref (ad (102)), .int (iI (ln)), .int (iI (wr)), .ref (ad (103))]) := (show F65 (98) = F53 (98) from by rw [eF65]; exact va_up_ne _ _ (by omega)).trans hO_at_53
          have h99_at_65 : F65 (99) = .inl (ty 0, 12900, .inl (P9)) := (show F65 (99) = F53 (99) from by rw [eF65]; exact va_up_ne _ _ (by omega)).trans h99_at_53
          have m53_100_at_65 : F65 (100) = .inl (ty 0, 43, .inl (S9)) := (show F65 (100) = F53 (100) from by rw [eF65]; exact va_up_ne _ _ (by omega)).trans m53_100
          rw [← hQ]
          exact pw_vret hx hb hr hlocks hw (by
            have hk9 : k = n := by omega
            subst hk9
            have hMA9 : MA ty F65 P9 S9 G9 := ⟨h99_at_65, m53_100_at_65, m65_101⟩
            refine ⟨⟨P9, S9, G9, hMA9, ⟨k, by rw [eS9, pk_us], hn3, fun i hi => by rw [dl_congr (hcp i hi)]; exact hDg i hi, ?_, by rw [bvP_congr hcp]; exact hbv⟩, by rw [eG9, pk_us]⟩, kp_of hMA hMA9 (fun c9 h8 h9 => ⟨by rw [eS9, pk_un h9], by rw [eG9, pk_un h9], fun i hi => hPo _ (by omega)⟩), fun y9 h3 h4 h5 => ((show F65 (y9) = F53 (y9) from by rw [eF65]; exact va_up_ne _ _ (by omega)).trans (show F53 (y9) = F2 (y9) from by rw [eF53]; exact va_up_ne _ _ (by omega))).trans (hfr y9 h3)⟩
            rcases htop with h9 | h9
            · exact Or.inl h9
            · by_cases h8 : k = 0
              · exact Or.inl h8
              · exact Or.inr (by rw [dl_congr (hcp (k - 1) (by omega))]; exact h9)) d_M_copy_66
        · refine lv_aload_n hx hb d_M_copy_12 rfl (lv_at hl 0 rfl) ?_
          refine pw_get (ci := 6) (C := R_M) (T := T_M) (N := 8) hx hb hq i_M hown hw (by omega) hO rfl 1 (by decide) (hq _ fl_M_7) (fun _ h9 => h9) rfl d_M_copy_13 ?_
          refine wz_sipush (n := 300) hx hb d_M_copy_16 (by decide) ?_
          refine lv_iload_n hx hb d_M_copy_19 rfl (lv_at hl 1 rfl) ?_
          refine wz_imul hx hb d_M_copy_20 rfl ?_
          refine lv_iload_n hx hb d_M_copy_21 rfl (lv_at hl 3 rfl) ?_
          refine wz_iadd hx hb d_M_copy_22 rfl ?_
          refine lv_aload_n hx hb d_M_copy_23 rfl (lv_at hl 0 rfl) ?_
          refine pw_get (ci := 6) (C := R_M) (T := T_M) (N := 8) hx hb hq i_M hown hw (by omega) hO rfl 1 (by decide) (hq _ fl_M_7) (fun _ h9 => h9) rfl d_M_copy_24 ?_
          refine wz_sipush (n := 300) hx hb d_M_copy_27 (by decide) ?_
          refine lv_iload_n hx hb d_M_copy_30 rfl (lv_at hl 2 rfl) ?_
          refine wz_imul hx hb d_M_copy_31 rfl ?_
          refine lv_iload_n hx hb d_M_copy_32 rfl (lv_at hl 3 rfl) ?_
          refine wz_iadd hx hb d_M_copy_33 rfl ?_
          refine pw_iald (k := 300 * a + k) hx hb hw 0 (by omega) h99 rfl (iI_in (by omega) (by omega) (by omega)) ((iI_cl (by omega) (by omega)).trans (by omega)) d_M_copy_34 ?_
          refine lv_topi (fun v34 ev34 => ?_)
          obtain rfl : v34 = P (300 * a + k) := ev34.trans (hPo _ (by omega))
          refine pw_iast (k := 300 * to + k) hx hb hw 0 (by omega) h99 rfl (iI_in (by omega) (by omega) (by omega)) ((iI_cl (by omega) (by omega)).trans (by omega)) d_M_copy_35 (fun F35 H locs eF35 hw => ?_)
          have m35_99 : F35 (99) = .inl (ty 0, 12900, .inl (upd P9 (300 * to + k) (P (300 * a + k)))) := by rw [eF35]; exact va_up_self ..
          have hO_at_35 : F35 (98) = .inr (6, [.int (iI (co)), .ref (ad (99)), .ref (ad (100)), .ref (ad (101)), .ref (ad (102)), .int (iI (ln)), .int (iI (wr)), .ref (ad (103))]) := (show F35 (98) = F2 (98) from by rw [eF35]; exact va_up_ne _ _ (by omega)).trans hO
          have h100_at_35 : F35 (100) = .inl (ty 0, 43, .inl (S)) := (show F35 (100) = F2 (100) from by rw [eF35]; exact va_up_ne _ _ (by omega)).trans h100
          have h101_at_35 : F35 (101) = .inl (ty 4, 43, .inl (G)) := (show F35 (101) = F2 (101) from by rw [eF35]; exact va_up_ne _ _ (by omega)).trans h101
          refine wz_iinc (z := ((k + 1 : Nat) : Int)) (lv' := [(3, .int (iI (((k + 1 : Nat) : Int)))), (0, .ref (ad (98))), (1, .int (iI ((to : Int)))), (2, .int (iI ((a : Int))))]) hx hb d_M_copy_36 hl (k := 3) rfl (by omega) (by decide) rfl (fun ls hl => ?_)
          refine lv_goto (tgt := 2) hx hb d_M_copy_39 (by decide) ?_
          exact ih2 (k + 1) (upd P9 (300 * to + k) (P (300 * a + k))) _ _ _ ls (by omega) (by omega) (fun i hi => by
            by_cases h9 : i = k
            · rw [h9, pk_us]
            · rw [pk_un (by omega)]; exact hcp i (by omega)) (fun j hj => by rw [pk_un (by omega)]; exact hPo j hj) (fun y9 h9 => (show F35 (y9) = F2 (y9) from by rw [eF35]; exact va_up_ne _ _ (by omega)).trans (hfr y9 h9)) hO_at_35 m35_99 h100_at_35 h101_at_35 hw (lv_sub hl [1, 2, 3, 0] rfl)
    exact K2 _ 0 P _ _ _ ls (Nat.lt_succ_self _) (by omega) (fun i hi => absurd hi (by omega)) (fun j hj => rfl) (fun y9 h9 => rfl) hO h99 h100 h101 hw (lv_sub hl [1, 2, 3, 0] rfl)
  rw [hH, hlo] at hgo
  exact hgo
