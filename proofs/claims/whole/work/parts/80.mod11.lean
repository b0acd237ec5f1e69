/-! the reference: tell, write, type: by program -/
set_option maxHeartbeats 4000000 in
set_option maxRecDepth 100000 in
/-- tell(to, from, end) -/
theorem c_M_tell (l : Launch) (D : va_G) (ty : Nat → ClassId) (ad : Nat → Nat) (M : Nat) (F : Nat → va_E) (sz : Nat) (hM : 103 < M) (co wr : Int) (n : Nat) (tx : Nat → Nat) (tt : Nat → Int32) (hO : F 98 = oM ad co (n : Int) wr) (h102 : F 102 = aN ty 0 1400 tt) (htt : ∀ i, i < n → tt i = iI (tx i : Int)) (hn : n ≤ 1400) (hch : ∀ i, i < n → tx i < 128) (to i0 i9 : Nat) (hto : to < 43 ∧ 32 ≤ to) (hi0 : i0 ≤ i9) (hi9 : i9 ≤ n) (hdg : ∀ j, i0 ≤ j → j < i9 → isd (tx j)) (zt : Int) (N0 : Nm ty F 0 zt) :
    CI l y_M_tell w_M_tell ({ frames := 2, cells := 0, slots := 0, locals := 48 } : Room) [.ref (ad (98)), .int (iI ((to : Int))), .int (iI ((i0 : Int))), .int (iI ((i9 : Int)))] D ty ad M F sz (fun r F1 => ((sm (dval tx i0 (i9 - i0)) ∧ r = iI 1 ∧ Nm ty F1 to ((dval tx i0 (i9 - i0) : Nat) : Int)) ∨ (¬ sm (dval tx i0 (i9 - i0)) ∧ r = iI 0)) ∧ kp ty F F1 (fun c => c = to) ∧ frM F F1) := by
  refine Met.ofW (cc := b_M_tell) (maxL := 8) (ret := (some .boolean)) (by decide) rfl ?_
  intro p e s m args below meth c s₁ B hml hv
  obtain ⟨rfl, hsz, hP, hK, hD0⟩ := hv
  have hx := B.exec
  have hb := B.bytes
  have hr := B.returns
  have hts := atoms_spec (ws := w_M_tell) B.pre
  have hq : ∀ w ∈ wT, w.before _ s = true := fun w h => hts w (List.mem_cons_of_mem _ h)
  have hown : s.vm.findClass R_M = some m.cls := findClass_of_methodNamed B.named
  have hlocks := B.notSynchronized
  subst hsz
  have hw := pw_start hP hK hD0
  have hl := lv_entry ([.ref (ad (98)), .int (iI ((to : Int))), .int (iI ((i0 : Int))), .int (iI ((i9 : Int)))]) (n := 8) (Nat.le_of_ble_eq_true rfl)
  rw [lg_entry_eq]
  generalize (lg_sl ([.ref (ad (98)), .int (iI ((to : Int))), .int (iI ((i0 : Int))), .int (iI ((i9 : Int)))]) ++ List.replicate (8 - (lg_sl ([.ref (ad (98)), .int (iI ((to : Int))), .int (iI ((i0 : Int))), .int (iI ((i9 : Int)))])).length) Slot.unset).toArray = ls at hl ⊢
  have hl : lv_has ls 8 [(0, .ref (ad (98))), (1, .int (iI ((to : Int)))), (2, .int (iI ((i0 : Int)))), (3, .int (iI ((i9 : Int))))] := hl
  change W p l e ({ frames := 2, cells := 0, slots := 0, locals := 48 } : Room) s m ([.ref (ad (98)), .int (iI ((to : Int))), .int (iI ((i0 : Int))), .int (iI ((i9 : Int)))]).toArray below meth c s.heap [] 0 0 (MQ below (va_Qi (fun r F1 => ((sm (dval tx i0 (i9 - i0)) ∧ r = iI 1 ∧ Nm ty F1 to ((dval tx i0 (i9 - i0) : Nat) : Int)) ∨ (¬ sm (dval tx i0 (i9 - i0)) ∧ r = iI 0)) ∧ kp ty F F1 (fun c => c = to) ∧ frM F F1) (pAt D classes (tysL ty) ad M (pA ad M s.heap.size)) (pA ad M s.heap.size)) ([.ref (ad (98)), .int (iI ((to : Int))), .int (iI ((i0 : Int))), .int (iI ((i9 : Int)))]).toArray s 0 0 (pA ad M s.heap.size)) (F0 m 0 ls [])
  generalize hQ : MQ below (va_Qi (fun r F1 => ((sm (dval tx i0 (i9 - i0)) ∧ r = iI 1 ∧ Nm ty F1 to ((dval tx i0 (i9 - i0) : Nat) : Int)) ∨ (¬ sm (dval tx i0 (i9 - i0)) ∧ r = iI 0)) ∧ kp ty F F1 (fun c => c = to) ∧ frM F F1) (pAt D classes (tysL ty) ad M (pA ad M s.heap.size)) (pA ad M s.heap.size)) ([.ref (ad (98)), .int (iI ((to : Int))), .int (iI ((i0 : Int))), .int (iI ((i9 : Int)))]).toArray s 0 0 (pA ad M s.heap.size) = Q
  obtain ⟨H, hH⟩ : ∃ H, H = s.heap := ⟨_, rfl⟩
  obtain ⟨locs, hlo⟩ : ∃ z : List Loc, z = [] := ⟨_, rfl⟩
  have hw : pw D classes (tysL ty) ad M F (pA ad M s.heap.size) s H locs := by rw [hH, hlo]; exact hw
  have hgo : W p l e ({ frames := 2, cells := 0, slots := 0, locals := 48 } : Room) s m ([.ref (ad (98)), .int (iI ((to : Int))), .int (iI ((i0 : Int))), .int (iI ((i9 : Int)))]).toArray below meth c H locs 0 0 Q (F0 m 0 ls []) := by
    refine lv_aload_n hx hb d_M_tell_0 rfl (lv_at hl 0 rfl) ?_
    refine lv_iload_n hx hb d_M_tell_1 rfl (lv_at hl 1 rfl) ?_
    refine lv_lconst (v := iL 0) hx hb d_M_tell_2 (by decide) ?_
    obtain ⟨_, _, _, hA3⟩ := (N0).ma
    refine pw_callv hw (va_runV (As := [.int (iI ((to : Int))), .long (iL (0))]) (rest := []) ⟨hx, hb, hml, hown, hq⟩ (c_M_setLong l D ty ad M F H.size hM (co) ((n : Int)) (wr) hO _ _ _ hA3 (to) (by omega) (0) (by omega)) (cwV 2 hq (gV ml_M_30 im_M_setLong se_M_setLong in_M m_M_setLong) rfl rfl rfl (by decide +kernel) ⟨Nat.le_of_ble_eq_true rfl, Nat.le_of_ble_eq_true rfl⟩) (pw_preV hw (by omega) hO rfl) rfl rfl hl.1 rfl (lv_room (Nat.le_of_ble_eq_true rfl)) d_M_tell_3 ⟨Nat.le_of_ble_eq_true rfl, Nat.le_of_ble_eq_true rfl⟩) (fun F3 H locs q3 hw => ?_)
    obtain ⟨Nto, hk3, hf3⟩ := q3
    have hO_at_3 : F3 (98) = .inr (6, [.int (iI (co)), .ref (ad (99)), .ref (ad (100)), .ref (ad (101)), .ref (ad (102)), .int (iI ((n : Int))), .int (iI (wr)), .ref (ad (103))]) := (hf3 (98) (by omega) (by omega) (by omega)).trans hO
    have h102_at_3 : F3 (102) = .inl (ty 0, 1400, .inl (tt)) := (hf3 (102) (by omega) (by omega) (by omega)).trans h102
    have N0_at_3 : Nm ty F3 (0) (zt) := hk3 _ _ (by omega) (by first | omega | (dsimp only; omega)) N0
    refine lv_iload_n hx hb d_M_tell_6 rfl (lv_at hl 2 rfl) ?_
    refine lv_istore (lv' := [(4, .int (iI ((i0 : Int)))), (0, .ref (ad (98))), (1, .int (iI ((to : Int)))), (2, .int (iI ((i0 : Int)))), (3, .int (iI ((i9 : Int))))]) hx hb d_M_tell_7 hl (by decide) rfl (fun ls hl => ?_)
    have K9 : ∀ (fuel : Nat) (k : Nat) (F9 : Nat → va_E) (H : Heap) (locs : List Loc) (ls : Array Slot), i9 - k < fuel → (i0 ≤ k ∧ k ≤ i9) → (sm (dval tx i0 (k - i0))) → (kp ty F F9 (fun c => c = to)) → (frM F F9) → F9 (98) = .inr (6, [.int (iI (co)), .ref (ad (99)), .ref (ad (100)), .ref (ad (101)), .ref (ad (102)), .int (iI ((n : Int))), .int (iI (wr)), .ref (ad (103))]) → F9 (102) = .inl (ty 0, 1400, .inl (tt)) → Nm ty F9 (to) (((dval tx i0 (k - i0) : Nat) : Int)) → pw D classes (tysL ty) ad M F9 (pA ad M s.heap.size) s H locs → lv_has ls 8 [(0, .ref (ad (98))), (1, .int (iI ((to : Int)))), (2, .int (iI ((i0 : Int)))), (3, .int (iI ((i9 : Int)))), (4, .int (iI ((k : Int))))] → W p l e ({ frames := 2, cells := 0, slots := 0, locals := 48 } : Room) s m ([.ref (ad (98)), .int (iI ((to : Int))), .int (iI ((i0 : Int))), .int (iI ((i9 : Int)))]).toArray below meth c H locs 0 0 Q (F0 m 9 ls []) := by
      intro fuel
      induction fuel with
      | zero => intro k F9 H locs ls hfuel hk hsm hkp hfr hO h102 Nto hw hl; exact absurd hfuel (Nat.not_lt_zero _)
      | succ fuel ih9 =>
        intro k F9 H locs ls hfuel hk hsm hkp hfr hO h102 Nto hw hl
        obtain ⟨P9, S9, G9, ⟨g99, g100, g101⟩, ⟨n9, hS9, h39, hD9, ht9, hv9⟩, hG9⟩ := id Nto
        have hMA9 : MA ty F9 P9 S9 G9 := ⟨g99, g100, g101⟩
        have hn9 := (sm_n hD9 ht9 hv9).mpr (by rw [Int.natAbs_natCast]; exact hsm)
        rw [Int.natAbs_natCast] at hv9
        rw [zB_0 (Int.natCast_nonneg _)] at hG9
        refine lv_iload hx hb d_M_tell_9 (lv_at hl 4 rfl) ?_
        refine lv_iload_n hx hb d_M_tell_11 rfl (lv_at hl 3 rfl) ?_
        refine wz_icmp_ge (tgt := 147) hx hb d_M_tell_12 (by decide) (by omega) (by omega) (by omega) (by omega) (fun c12 => ?_) (fun c12 => ?_)
        · have hk9 : k = i9 := by omega
          subst hk9
          refine wz_iconst (n := 1) hx hb d_M_tell_147 ?_
          rw [← hQ]
          exact pw_zret hx hb hr (by decide) hlocks hw (⟨Or.inl ⟨hsm, rfl, Nto⟩, hkp, hfr⟩) d_M_tell_148
        · have hd9 := hdg k hk.1 (by omega)
          have hd1 := hd9.1
          have hd2 := hd9.2
          refine lv_aload_n hx hb d_M_tell_15 rfl (lv_at hl 0 rfl) ?_
          refine pw_get (ci := 6) (C := R_M) (T := T_M) (N := 8) hx hb hq i_M hown hw (by omega) hO rfl 4 (by decide) (hq _ fl_M_20) (fun _ h9 => h9) rfl d_M_tell_16 ?_
          refine lv_iload hx hb d_M_tell_19 (lv_at hl 4 rfl) ?_
          refine pw_iald (k := k) hx hb hw 0 (by omega) h102 rfl (iI_in (by omega) (by omega) (by omega)) ((iI_cl (by omega) (by omega)).trans (by omega)) d_M_tell_21 ?_
          refine lv_topi (fun x21 ex21 => ?_)
          obtain rfl : x21 = iI ((tx k : Int)) := ex21.trans (htt k (by omega))
          refine wz_bipush (n := 48) hx hb d_M_tell_22 (by decide) ?_
          refine wz_isub (z := ((tx k - 48 : Nat) : Int)) hx hb d_M_tell_24 (by omega) ?_
          refine lv_istore (lv' := [(5, .int (iI (((tx k - 48 : Nat) : Int)))), (0, .ref (ad (98))), (1, .int (iI ((to : Int)))), (2, .int (iI ((i0 : Int)))), (3, .int (iI ((i9 : Int)))), (4, .int (iI ((k : Int))))]) hx hb d_M_tell_25 hl (by decide) rfl (fun ls hl => ?_)
          refine wz_iconst (n := 0) hx hb d_M_tell_27 ?_
          refine lv_istore (lv' := [(6, .int (iI (0))), (5, .int (iI (((tx k - 48 : Nat) : Int)))), (0, .ref (ad (98))), (1, .int (iI ((to : Int)))), (2, .int (iI ((i0 : Int)))), (3, .int (iI ((i9 : Int)))), (4, .int (iI ((k : Int))))]) hx hb d_M_tell_28 hl (by decide) rfl (fun ls hl => ?_)
          have K30 : ∀ (fuel : Nat) (i cy : Nat) (P8 : Nat → Int32) (F30 : Nat → va_E) (H : Heap) (locs : List Loc) (ls : Array Slot), n9 - i < fuel → (i ≤ n9) → (cy ≤ 9) → (bvP P8 to i + cy * 65536 ^ i = 10 * bvP P9 to i + (tx k - 48)) → (Dg P8 to i) → (∀ j, j < 300 * to ∨ 300 * to + i ≤ j → P8 j = P9 j) → (frM F F30) → F30 (98) = .inr (6, [.int (iI (co)), .ref (ad (99)), .ref (ad (100)), .ref (ad (101)), .ref (ad (102)), .int (iI ((n : Int))), .int (iI (wr)), .ref (ad (103))]) → F30 (102) = .inl (ty 0, 1400, .inl (tt)) → F30 (99) = .inl (ty 0, 12900, .inl (P8)) → F30 (100) = .inl (ty 0, 43, .inl (S9)) → F30 (101) = .inl (ty 4, 43, .inl (G9)) → pw D classes (tysL ty) ad M F30 (pA ad M s.heap.size) s H locs → lv_has ls 8 [(0, .ref (ad (98))), (1, .int (iI ((to : Int)))), (2, .int (iI ((i0 : Int)))), (3, .int (iI ((i9 : Int)))), (4, .int (iI ((k : Int)))), (5, .int (iI ((cy : Int)))), (6, .int (iI ((i : Int))))] → W p l e ({ frames := 2, cells := 0, slots := 0, locals := 48 } : Room) s m ([.ref (ad (98)), .int (iI ((to : Int))), .int (iI ((i0 : Int))), .int (iI ((i9 : Int)))]).toArray below meth c H locs 0 0 Q (F0 m 30 ls []) := by
            intro fuel
            induction fuel with
            | zero => intro i cy P8 F30 H locs ls hfuel hi hcy hval hDg hPo hfr8 hO h102 g99 g100 g101 hw hl; exact absurd hfuel (Nat.not_lt_zero _)
            | succ fuel ih30 =>
              intro i cy P8 F30 H locs ls hfuel hi hcy hval hDg hPo hfr8 hO h102 g99 g100 g101 hw hl
              refine lv_iload hx hb d_M_tell_30 (lv_at hl 6 rfl) ?_
              refine lv_aload_n hx hb d_M_tell_32 rfl (lv_at hl 0 rfl) ?_
              refine pw_get (ci := 6) (C := R_M) (T := T_M) (N := 8) hx hb hq i_M hown hw (by omega) hO rfl 2 (by decide) (hq _ fl_M_13) (fun _ h9 => h9) rfl d_M_tell_33 ?_
              refine lv_iload_n hx hb d_M_tell_36 rfl (lv_at hl 1 rfl) ?_
              refine pw_iald (k := to) hx hb hw 0 (by omega) g100 rfl (iI_in (by omega) (by omega) (by omega)) ((iI_cl (by omega) (by omega)).trans (by omega)) d_M_tell_37 ?_
              refine lv_topi (fun x37 ex37 => ?_)
              obtain rfl : x37 = iI ((n9 : Int)) := ex37.trans (hS9)
              refine wz_icmp_ge (tgt := 93) hx hb d_M_tell_38 (by decide) (by omega) (by omega) (by omega) (by omega) (fun c38 => ?_) (fun c38 => ?_)
              · have hin9 : n9 = i := by omega
                subst hin9
                refine lv_iload hx hb d_M_tell_93 (lv_at hl 5 rfl) ?_
                refine wz_if_le (tgt := 127) hx hb d_M_tell_95 (by decide) (by omega) (by omega) (fun c95 => ?_) (fun c95 => ?_)
                · refine lv_aload_n hx hb d_M_tell_127 rfl (lv_at hl 0 rfl) ?_
                  refine pw_get (ci := 6) (C := R_M) (T := T_M) (N := 8) hx hb hq i_M hown hw (by omega) hO rfl 2 (by decide) (hq _ fl_M_13) (fun _ h9 => h9) rfl d_M_tell_128 ?_
                  refine lv_iload_n hx hb d_M_tell_131 rfl (lv_at hl 1 rfl) ?_
                  have hMA7 : MA ty F30 P8 S9 G9 := ⟨g99, g100, g101⟩
                  have hv7 : bvP P8 to n9 = dval tx i0 (k + 1 - i0) := by
                    rw [dval_s9 hk.1]
                    rw [show cy = 0 by omega, Nat.zero_mul, Nat.add_zero, hv9] at hval; exact hval
                  have hD7 := hDg
                  have ht7 : n9 = 0 ∨ dl P8 (300 * to + (n9 - 1)) ≠ 0 := tell_top hDg hv7 (mg_ge ht9 hv9) (by rw [dval_s9 hk.1]; omega)
                  have hS7 := hS9
                  have hsw := sm_n hD7 ht7 hv7
                  have Nto9 : Nm ty F30 to ((dval tx i0 (k + 1 - i0) : Nat) : Int) := ⟨P8, S9, G9, hMA7, ⟨n9, hS7, by omega, hD7, ht7, by rw [Int.natAbs_natCast]; exact hv7⟩, by rw [zB_0 (Int.natCast_nonneg _)]; exact hG9⟩
                  have hkp9 : kp ty F F30 (fun c => c = to) := (hkp.trans (kp_of (T := fun c => c = to) hMA9 hMA7 (fun c9 h8 h9 => ⟨rfl, rfl, fun i9 h7 => hPo _ (by first | omega | ((try dsimp only at h9); (try dsimp only); omega))⟩))).weak (fun c9 _ h9 => by first | omega | ((try dsimp only at h9); (try dsimp only); omega))
                  have hfr9 : frM F F30 := fun y9 h1 h2 h3 => (rfl).trans (hfr8 y9 h1 h2 h3)
                  refine pw_iald (k := to) hx hb hw 0 (by omega) g100 rfl (iI_in (by omega) (by omega) (by omega)) ((iI_cl (by omega) (by omega)).trans (by omega)) d_M_tell_132 ?_
                  refine lv_topi (fun x132 ex132 => ?_)
                  obtain rfl : x132 = iI (((n9 : Nat) : Int)) := ex132.trans (hS7)
                  refine wz_sipush (n := 128) hx hb d_M_tell_133 (by decide) ?_
                  refine wz_icmp_le (tgt := 141) hx hb d_M_tell_136 (by decide) (by omega) (by omega) (by omega) (by omega) (fun c136 => ?_) (fun c136 => ?_)
                  · have hs9 := hsw.mp (by omega)
                    refine wz_iinc (z := ((k + 1 : Nat) : Int)) (lv' := [(4, .int (iI (((k + 1 : Nat) : Int)))), (0, .ref (ad (98))), (1, .int (iI ((to : Int)))), (2, .int (iI ((i0 : Int)))), (3, .int (iI ((i9 : Int)))), (5, .int (iI ((cy : Int)))), (6, .int (iI ((n9 : Int))))]) hx hb d_M_tell_141 hl (k := 4) rfl (by omega) (by decide) rfl (fun ls hl => ?_)
                    refine lv_goto (tgt := 9) hx hb d_M_tell_144 (by decide) ?_
                    exact ih9 (k + 1) _ _ _ ls (by omega) (by omega) (hs9) (hkp9) (hfr9) (hO) (h102) (Nto9) hw (lv_sub hl [1, 2, 3, 4, 0] rfl)
                  · have hs9 : ¬ sm (dval tx i0 (k + 1 - i0)) := fun h9 => by have := hsw.mpr h9; omega
                    refine wz_iconst (n := 0) hx hb d_M_tell_139 ?_
                    rw [← hQ]
                    exact pw_zret hx hb hr (by decide) hlocks hw (⟨Or.inr ⟨fun h9 => hs9 (h9.le (dval_le tx i0 (by omega))), rfl⟩, hkp9, hfr9⟩) d_M_tell_140
                · refine lv_aload_n hx hb d_M_tell_98 rfl (lv_at hl 0 rfl) ?_
                  refine pw_get (ci := 6) (C := R_M) (T := T_M) (N := 8) hx hb hq i_M hown hw (by omega) hO rfl 1 (by decide) (hq _ fl_M_7) (fun _ h9 => h9) rfl d_M_tell_99 ?_
                  refine wz_sipush (n := 300) hx hb d_M_tell_102 (by decide) ?_
                  refine lv_iload_n hx hb d_M_tell_105 rfl (lv_at hl 1 rfl) ?_
                  refine wz_imul hx hb d_M_tell_106 rfl ?_
                  refine lv_aload_n hx hb d_M_tell_107 rfl (lv_at hl 0 rfl) ?_
                  refine pw_get (ci := 6) (C := R_M) (T := T_M) (N := 8) hx hb hq i_M hown hw (by omega) hO rfl 2 (by decide) (hq _ fl_M_13) (fun _ h9 => h9) rfl d_M_tell_108 ?_
                  refine lv_iload_n hx hb d_M_tell_111 rfl (lv_at hl 1 rfl) ?_
                  refine pw_iald (k := to) hx hb hw 0 (by omega) g100 rfl (iI_in (by omega) (by omega) (by omega)) ((iI_cl (by omega) (by omega)).trans (by omega)) d_M_tell_112 ?_
                  refine lv_topi (fun x112 ex112 => ?_)
                  obtain rfl : x112 = iI ((n9 : Int)) := ex112.trans (hS9)
                  refine wz_iadd hx hb d_M_tell_113 rfl ?_
                  refine lv_iload hx hb d_M_tell_114 (lv_at hl 5 rfl) ?_
                  refine pw_iast (k := 300 * to + n9) hx hb hw 0 (by omega) g99 rfl (iI_in (by omega) (by omega) (by omega)) ((iI_cl (by omega) (by omega)).trans (by omega)) d_M_tell_116 (fun F116 H locs eF116 hw => ?_)
                  obtain ⟨P7, eP7⟩ : ∃ z9, z9 = upd P8 (300 * to + n9) (iI ((cy : Int))) := ⟨_, rfl⟩
                  rw [← eP7] at eF116
                  have m116_99 : F116 (99) = .inl (ty 0, 12900, .inl (P7)) := by rw [eF116]; exact va_up_self ..
                  have hO_at_116 : F116 (98) = .inr (6, [.int (iI (co)), .ref (ad (99)), .ref (ad (100)), .ref (ad (101)), .ref (ad (102)), .int (iI ((n : Int))), .int (iI (wr)), .ref (ad (103))]) := (show F116 (98) = F30 (98) from by rw [eF116]; exact va_up_ne _ _ (by omega)).trans hO
                  have h102_at_116 : F116 (102) = .inl (ty 0, 1400, .inl (tt)) := (show F116 (102) = F30 (102) from by rw [eF116]; exact va_up_ne _ _ (by omega)).trans h102
                  have g100_at_116 : F116 (100) = .inl (ty 0, 43, .inl (S9)) := (show F116 (100) = F30 (100) from by rw [eF116]; exact va_up_ne _ _ (by omega)).trans g100
                  have g101_at_116 : F116 (101) = .inl (ty 4, 43, .inl (G9)) := (show F116 (101) = F30 (101) from by rw [eF116]; exact va_up_ne _ _ (by omega)).trans g101
                  refine lv_aload_n hx hb d_M_tell_117 rfl (lv_at hl 0 rfl) ?_
                  refine pw_get (ci := 6) (C := R_M) (T := T_M) (N := 8) hx hb hq i_M hown hw (by omega) hO_at_116 rfl 2 (by decide) (hq _ fl_M_13) (fun _ h9 => h9) rfl d_M_tell_118 ?_
                  refine lv_iload_n hx hb d_M_tell_121 rfl (lv_at hl 1 rfl) ?_
                  refine lv_dup2_11 hx hb d_M_tell_122 rfl rfl ?_
                  refine pw_iald (k := to) hx hb hw 0 (by omega) g100_at_116 rfl (iI_in (by omega) (by omega) (by omega)) ((iI_cl (by omega) (by omega)).trans (by omega)) d_M_tell_123 ?_
                  refine lv_topi (fun x123 ex123 => ?_)
                  obtain rfl : x123 = iI ((n9 : Int)) := ex123.trans (hS9)
                  refine wz_iconst (n := 1) hx hb d_M_tell_124 ?_
                  refine wz_iadd (z := ((n9 + 1 : Nat) : Int)) hx hb d_M_tell_125 (by omega) ?_
                  refine pw_iast (k := to) hx hb hw 0 (by omega) g100_at_116 rfl (iI_in (by omega) (by omega) (by omega)) ((iI_cl (by omega) (by omega)).trans (by omega)) d_M_tell_126 (fun F126 H locs eF126 hw => ?_)
                  obtain ⟨S7, eS7⟩ : ∃ z9, z9 = upd S9 (to) (iI (((n9 + 1 : Nat) : Int))) := ⟨_, rfl⟩
                  rw [← eS7] at eF126
                  have m126_100 : F126 (100) = .inl (ty 0, 43, .inl (S7)) := by rw [eF126]; exact va_up_self ..
                  have hO_at_126 : F126 (98) = .inr (6, [.int (iI (co)), .ref (ad (99)), .ref (ad (100)), .ref (ad (101)), .ref (ad (102)), .int (iI ((n : Int))), .int (iI (wr)), .ref (ad (103))]) := (show F126 (98) = F116 (98) from by rw [eF126]; exact va_up_ne _ _ (by omega)).trans hO_at_116
                  have h102_at_126 : F126 (102) = .inl (ty 0, 1400, .inl (tt)) := (show F126 (102) = F116 (102) from by rw [eF126]; exact va_up_ne _ _ (by omega)).trans h102_at_116
                  have g101_at_126 : F126 (101) = .inl (ty 4, 43, .inl (G9)) := (show F126 (101) = F116 (101) from by rw [eF126]; exact va_up_ne _ _ (by omega)).trans g101_at_116
                  have m116_99_at_126 : F126 (99) = .inl (ty 0, 12900, .inl (P7)) := (show F126 (99) = F116 (99) from by rw [eF126]; exact va_up_ne _ _ (by omega)).trans m116_99
                  refine lv_aload_n hx hb d_M_tell_127 rfl (lv_at hl 0 rfl) ?_
                  refine pw_get (ci := 6) (C := R_M) (T := T_M) (N := 8) hx hb hq i_M hown hw (by omega) hO_at_126 rfl 2 (by decide) (hq _ fl_M_13) (fun _ h9 => h9) rfl d_M_tell_128 ?_
                  refine lv_iload_n hx hb d_M_tell_131 rfl (lv_at hl 1 rfl) ?_
                  have hMA7 : MA ty F126 P7 S7 G9 := ⟨m116_99_at_126, m126_100, g101_at_126⟩
                  have hv7 : bvP P7 to (n9 + 1) = dval tx i0 (k + 1 - i0) := by
                    rw [dval_s9 hk.1]
                    rw [eP7, bvP_s, bvP_up (Nat.le_refl _), dig_up (by omega), hval, hv9]
                  have hD7 : Dg P7 to (n9 + 1) := by rw [eP7]; exact Dg_up hDg (by omega)
                  have ht7 : n9 + 1 = 0 ∨ dl P7 (300 * to + (n9 + 1 - 1)) ≠ 0 := Or.inr (by rw [Nat.add_sub_cancel, eP7, dig_up (by omega)]; omega)
                  have hS7 : S7 to = iI ((n9 + 1 : Nat) : Int) := by rw [eS7, pk_us]
                  have hsw := sm_n hD7 ht7 hv7
                  have Nto9 : Nm ty F126 to ((dval tx i0 (k + 1 - i0) : Nat) : Int) := ⟨P7, S7, G9, hMA7, ⟨(n9 + 1), hS7, by omega, hD7, ht7, by rw [Int.natAbs_natCast]; exact hv7⟩, by rw [zB_0 (Int.natCast_nonneg _)]; exact hG9⟩
                  have hkp9 : kp ty F F126 (fun c => c = to) := (hkp.trans (kp_of (T := fun c => c = to) hMA9 hMA7 (fun c9 h8 h9 => ⟨by rw [eS7, pk_un h9], rfl, fun i9 h7 => by rw [eP7, pk_un (by first | omega | ((try dsimp only at h9); (try dsimp only); omega))]; exact hPo _ (by first | omega | ((try dsimp only at h9); (try dsimp only); omega))⟩))).weak (fun c9 _ h9 => by first | omega | ((try dsimp only at h9); (try dsimp only); omega))
                  have hfr9 : frM F F126 := fun y9 h1 h2 h3 => ((show F126 (y9) = F116 (y9) from by rw [eF126]; exact va_up_ne _ _ (by omega)).trans (show F116 (y9) = F30 (y9) from by rw [eF116]; exact va_up_ne _ _ (by omega))).trans (hfr8 y9 h1 h2 h3)
                  refine pw_iald (k := to) hx hb hw 0 (by omega) m126_100 rfl (iI_in (by omega) (by omega) (by omega)) ((iI_cl (by omega) (by omega)).trans (by omega)) d_M_tell_132 ?_
                  refine lv_topi (fun x132 ex132 => ?_)
                  obtain rfl : x132 = iI (((n9 + 1 : Nat) : Int)) := ex132.trans (hS7)
                  refine wz_sipush (n := 128) hx hb d_M_tell_133 (by decide) ?_
                  refine wz_icmp_le (tgt := 141) hx hb d_M_tell_136 (by decide) (by omega) (by omega) (by omega) (by omega) (fun c136 => ?_) (fun c136 => ?_)
                  · have hs9 := hsw.mp (by omega)
                    refine wz_iinc (z := ((k + 1 : Nat) : Int)) (lv' := [(4, .int (iI (((k + 1 : Nat) : Int)))), (0, .ref (ad (98))), (1, .int (iI ((to : Int)))), (2, .int (iI ((i0 : Int)))), (3, .int (iI ((i9 : Int)))), (5, .int (iI ((cy : Int)))), (6, .int (iI ((n9 : Int))))]) hx hb d_M_tell_141 hl (k := 4) rfl (by omega) (by decide) rfl (fun ls hl => ?_)
                    refine lv_goto (tgt := 9) hx hb d_M_tell_144 (by decide) ?_
                    exact ih9 (k + 1) _ _ _ ls (by omega) (by omega) (hs9) (hkp9) (hfr9) (hO_at_126) (h102_at_126) (Nto9) hw (lv_sub hl [1, 2, 3, 4, 0] rfl)
                  · have hs9 : ¬ sm (dval tx i0 (k + 1 - i0)) := fun h9 => by have := hsw.mpr h9; omega
                    refine wz_iconst (n := 0) hx hb d_M_tell_139 ?_
                    rw [← hQ]
                    exact pw_zret hx hb hr (by decide) hlocks hw (⟨Or.inr ⟨fun h9 => hs9 (h9.le (dval_le tx i0 (by omega))), rfl⟩, hkp9, hfr9⟩) d_M_tell_140
              · have hdP := hD9 i (by omega)
                obtain ⟨w0, hw0⟩ : ∃ w0, w0 = 10 * dl P9 (300 * to + i) + cy := ⟨_, rfl⟩
                refine wz_bipush (n := 10) hx hb d_M_tell_41 (by decide) ?_
                refine lv_aload_n hx hb d_M_tell_43 rfl (lv_at hl 0 rfl) ?_
                refine pw_get (ci := 6) (C := R_M) (T := T_M) (N := 8) hx hb hq i_M hown hw (by omega) hO rfl 1 (by decide) (hq _ fl_M_7) (fun _ h9 => h9) rfl d_M_tell_44 ?_
                refine wz_sipush (n := 300) hx hb d_M_tell_47 (by decide) ?_
                refine lv_iload_n hx hb d_M_tell_50 rfl (lv_at hl 1 rfl) ?_
                refine wz_imul hx hb d_M_tell_51 rfl ?_
                refine lv_iload hx hb d_M_tell_52 (lv_at hl 6 rfl) ?_
                refine wz_iadd hx hb d_M_tell_54 rfl ?_
                refine pw_iald (k := 300 * to + i) hx hb hw 0 (by omega) g99 rfl (iI_in (by omega) (by omega) (by omega)) ((iI_cl (by omega) (by omega)).trans (by omega)) d_M_tell_55 ?_
                refine lv_topi (fun x55 ex55 => ?_)
                obtain rfl : x55 = iI ((dl P9 (300 * to + i) : Int)) := ex55.trans ((hPo _ (by omega)).trans (hD9.get (by omega)))
                refine wz_imul hx hb d_M_tell_56 rfl ?_
                refine lv_iload hx hb d_M_tell_57 (lv_at hl 5 rfl) ?_
                refine wz_iadd (z := (w0 : Int)) hx hb d_M_tell_59 (by omega) ?_
                refine lv_istore (lv' := [(7, .int (iI ((w0 : Int)))), (0, .ref (ad (98))), (1, .int (iI ((to : Int)))), (2, .int (iI ((i0 : Int)))), (3, .int (iI ((i9 : Int)))), (4, .int (iI ((k : Int)))), (5, .int (iI ((cy : Int)))), (6, .int (iI ((i : Int))))]) hx hb d_M_tell_60 hl (by decide) rfl (fun ls hl => ?_)
                refine lv_aload_n hx hb d_M_tell_62 rfl (lv_at hl 1 rfl) ?_
                refine pw_get (ci := 6) (C := R_M) (T := T_M) (N := 8) hx hb hq i_M hown hw (by omega) hO rfl 1 (by decide) (hq _ fl_M_7) (fun _ h9 => h9) rfl d_M_tell_63 ?_
                refine wz_sipush (n := 300) hx hb d_M_tell_66 (by decide) ?_
                refine lv_iload_n hx hb d_M_tell_69 rfl (lv_at hl 2 rfl) ?_
                refine wz_imul hx hb d_M_tell_70 rfl ?_
                refine lv_iload hx hb d_M_tell_71 (lv_at hl 7 rfl) ?_
                refine wz_iadd hx hb d_M_tell_73 rfl ?_
                refine lv_iload hx hb d_M_tell_74 (lv_at hl 0 rfl) ?_
                refine lv_ldc (v := iI (65536)) hx hb hown (hq _ co_M_43) d_M_tell_76 ?_
                refine wz_irem (a := w0) (b := 65536) (z := w0 % 65536) hx hb d_M_tell_78 (by omega) (by omega) (by omega) (rfl) ?_
                refine pw_iast (k := 300 * to + i) hx hb hw 0 (by omega) g99 rfl (iI_in (by omega) (by omega) (by omega)) ((iI_cl (by omega) (by omega)).trans (by omega)) d_M_tell_79 (fun F79 H locs eF79 hw => ?_)
                have m79_99 : F79 (99) = .inl (ty 0, 12900, .inl (upd P8 (300 * to + i) (iI (((w0 % 65536 : Nat) : Int))))) := by rw [eF79]; exact va_up_self ..
                have hO_at_79 : F79 (98) = .inr (6, [.int (iI (co)), .ref (ad (99)), .ref (ad (100)), .ref (ad (101)), .ref (ad (102)), .int (iI ((n : Int))), .int (iI (wr)), .ref (ad (103))]) := (show F79 (98) = F30 (98) from by rw [eF79]; exact va_up_ne _ _ (by omega)).trans hO
                have h102_at_79 : F79 (102) = .inl (ty 0, 1400, .inl (tt)) := (show F79 (102) = F30 (102) from by rw [eF79]; exact va_up_ne _ _ (by omega)).trans h102
                have g100_at_79 : F79 (100) = .inl (ty 0, 43, .inl (S9)) := (show F79 (100) = F30 (100) from by rw [eF79]; exact va_up_ne _ _ (by omega)).trans g100
                have g101_at_79 : F79 (101) = .inl (ty 4, 43, .inl (G9)) := (show F79 (101) = F30 (101) from by rw [eF79]; exact va_up_ne _ _ (by omega)).trans g101
                refine lv_iload hx hb d_M_tell_80 (lv_at hl 0 rfl) ?_
                refine lv_ldc (v := iI (65536)) hx hb hown (hq _ co_M_43) d_M_tell_82 ?_
                refine wz_idiv (a := w0) (b := 65536) (z := w0 / 65536) hx hb d_M_tell_84 (by omega) (by omega) (by omega) (rfl) ?_
                refine lv_istore (lv' := [(5, .int (iI (((w0 / 65536 : Nat) : Int)))), (7, .int (iI ((w0 : Int)))), (0, .ref (ad (98))), (1, .int (iI ((to : Int)))), (2, .int (iI ((i0 : Int)))), (3, .int (iI ((i9 : Int)))), (4, .int (iI ((k : Int)))), (6, .int (iI ((i : Int))))]) hx hb d_M_tell_85 hl (by decide) rfl (fun ls hl => ?_)
                refine wz_iinc (z := ((i + 1 : Nat) : Int)) (lv' := [(6, .int (iI (((i + 1 : Nat) : Int)))), (5, .int (iI (((w0 / 65536 : Nat) : Int)))), (7, .int (iI ((w0 : Int)))), (0, .ref (ad (98))), (1, .int (iI ((to : Int)))), (2, .int (iI ((i0 : Int)))), (3, .int (iI ((i9 : Int)))), (4, .int (iI ((k : Int))))]) hx hb d_M_tell_87 hl (k := 7) rfl (by omega) (by decide) rfl (fun ls hl => ?_)
                refine lv_goto (tgt := 30) hx hb d_M_tell_90 (by decide) ?_
                exact ih30 (i + 1) (w0 / 65536) (upd P8 (300 * to + i) (iI ((w0 % 65536 : Nat) : Int))) _ _ _ ls (by omega) (by omega) (by omega) (by
                  rw [bvP_s, bvP_up (Nat.le_refl _), dig_up (by omega), bvP_s P9, hw0]; exact tp_step hval rfl) (Dg_up hDg (by omega)) (fun j hj => by rw [pk_un (by omega)]; exact hPo j (by omega)) (fun y9 h1 h2 h3 => (show F79 (y9) = F30 (y9) from by rw [eF79]; exact va_up_ne _ _ (by omega)).trans (hfr8 y9 h1 h2 h3)) hO_at_79 h102_at_79 m79_99 g100_at_79 g101_at_79 hw (lv_sub hl [3, 4, 5, 6, 7, 1, 0] rfl)
          exact K30 _ 0 (tx k - 48) P9 _ _ _ ls (Nat.lt_succ_self _) (by omega) (by omega) (by simp [bvP_0]) (fun i hi => absurd hi (by omega)) (fun j hj => rfl) (hfr) hO h102 g99 g100 g101 hw (lv_sub hl [2, 3, 4, 5, 6, 1, 0] rfl)
    exact K9 _ i0 _ _ _ ls (Nat.lt_succ_self _) (by omega) (by rw [Nat.sub_self]; exact sm_0) ((hk3).weak (fun c9 _ h9 => by first | omega | ((try dsimp only at h9); (try dsimp only); omega))) (fun y9 h1 h2 h3 => hf3 (y9) (by omega) (by omega) (by omega)) (hO_at_3) (h102_at_3) (by rw [Nat.sub_self]; exact Nto) hw (lv_sub hl [1, 2, 3, 4, 0] rfl)
  rw [hH, hlo] at hgo
  exact hgo
set_option maxHeartbeats 4000000 in
set_option maxRecDepth 100000 in
/-- write(a) -/
theorem c_M_write (l : Launch) (D : va_G) (ty : Nat → ClassId) (ad : Nat → Nat) (M : Nat) (F : Nat → va_E) (sz : Nat) (hM : 103 < M) (g : Sg) (co : Int) (hMo : Mo ty ad F co g) (hok : okS g) (a : Int) (ha : -2147483648 ≤ a ∧ a < 2147483648) :
    CI l y_M_write w_M_write ({ frames := 2, cells := 0, slots := 0, locals := 48 } : Room) [.ref (ad (98)), .int (iI (a))] D ty ad M F sz (fun r F1 => r = iI (o_write g a).2.1 ∧ Mo ty ad F1 (o_write g a).1 (o_write g a).2.2 ∧ frP F F1) := by
  refine Met.ofW (cc := b_M_write) (maxL := 2) (ret := (some .int)) (by decide) rfl ?_
  intro p e s m args below meth c s₁ B hml hv
  obtain ⟨rfl, hsz, hP, hK, hD0⟩ := hv
  have hx := B.exec
  have hb := B.bytes
  have hr := B.returns
  have hts := atoms_spec (ws := w_M_write) B.pre
  have hq : ∀ w ∈ wT, w.before _ s = true := fun w h => hts w (List.mem_cons_of_mem _ h)
  have hown : s.vm.findClass R_M = some m.cls := findClass_of_methodNamed B.named
  have hlocks := B.notSynchronized
  subst hsz
  have hw := pw_start hP hK hD0
  have hl := lv_entry ([.ref (ad (98)), .int (iI (a))]) (n := 2) (Nat.le_of_ble_eq_true rfl)
  rw [lg_entry_eq]
  generalize (lg_sl ([.ref (ad (98)), .int (iI (a))]) ++ List.replicate (2 - (lg_sl ([.ref (ad (98)), .int (iI (a))])).length) Slot.unset).toArray = ls at hl ⊢
  have hl : lv_has ls 2 [(0, .ref (ad (98))), (1, .int (iI (a)))] := hl
  change W p l e ({ frames := 2, cells := 0, slots := 0, locals := 48 } : Room) s m ([.ref (ad (98)), .int (iI (a))]).toArray below meth c s.heap [] 0 0 (MQ below (va_Qi (fun r F1 => r = iI (o_write g a).2.1 ∧ Mo ty ad F1 (o_write g a).1 (o_write g a).2.2 ∧ frP F F1) (pAt D classes (tysL ty) ad M (pA ad M s.heap.size)) (pA ad M s.heap.size)) ([.ref (ad (98)), .int (iI (a))]).toArray s 0 0 (pA ad M s.heap.size)) (F0 m 0 ls [])
  generalize hQ : MQ below (va_Qi (fun r F1 => r = iI (o_write g a).2.1 ∧ Mo ty ad F1 (o_write g a).1 (o_write g a).2.2 ∧ frP F F1) (pAt D classes (tysL ty) ad M (pA ad M s.heap.size)) (pA ad M s.heap.size)) ([.ref (ad (98)), .int (iI (a))]).toArray s 0 0 (pA ad M s.heap.size) = Q
  obtain ⟨H, hH⟩ : ∃ H, H = s.heap := ⟨_, rfl⟩
  obtain ⟨locs, hlo⟩ : ∃ z : List Loc, z = [] := ⟨_, rfl⟩
  have hw : pw D classes (tysL ty) ad M F (pA ad M s.heap.size) s H locs := by rw [hH, hlo]; exact hw
  have hgo : W p l e ({ frames := 2, cells := 0, slots := 0, locals := 48 } : Room) s m ([.ref (ad (98)), .int (iI (a))]).toArray below meth c H locs 0 0 Q (F0 m 0 ls []) := by
    obtain ⟨hO, hRn, tt, dd, h102, htt, h103⟩ := id hMo
    have N0 := (hRn 0 (by decide)).1
    have hn14 := hok.2.1
    refine lv_aload_n hx hb d_M_write_0 rfl (lv_at hl 0 rfl) ?_
    refine lv_iload_n hx hb d_M_write_1 rfl (lv_at hl 1 rfl) ?_
    refine pw_calli hw (va_runS (As := [.int (iI (a))]) (rest := [.ref (ad (98))]) ⟨hx, hb, hml, hown, hq⟩ (c_M_isRegister l D ty ad M F H.size (a) (by omega)) (va_cwS 1 hq (gS ml_M_86 st_M_isRegister in_M m_M_isRegister) rfl rfl rfl (by decide +kernel) ⟨Nat.le_of_ble_eq_true rfl, Nat.le_of_ble_eq_true rfl⟩) (pw_preS hw) rfl rfl hl.1 rfl (lv_room (Nat.le_of_ble_eq_true rfl)) d_M_write_2 ⟨Nat.le_of_ble_eq_true rfl, Nat.le_of_ble_eq_true rfl⟩) (fun r2 F2 H locs q2 hw => ?_)
    obtain ⟨er2, eF2⟩ := q2
    rw [eF2] at hw
    clear eF2
    subst er2
    have hrg5 := rg_le a
    refine wz_if_eq (tgt := 12) hx hb d_M_write_5 (by decide) (by omega) (by omega) (fun c5 => ?_) (fun c5 => ?_)
    · have hRe : ¬ isR a := rg_z c5
      refine wz_iconst (n := 1) hx hb d_M_write_12 ?_
      refine pw_put (ci := 6) (C := R_M) (T := T_M) (N := 8) (ty := .int) (fs' := [.int (iI (1)), .ref (ad (99)), .ref (ad (100)), .ref (ad (101)), .ref (ad (102)), .int (iI ((nS g : Int))), .int (iI (pS g)), .ref (ad (103))]) hx hb hq i_M ft_M ft_M_ok n_M hown hw (by omega) hO rfl 0 (by decide) (hq _ fl_M_34) (fun _ h9 => h9) rfl (by decide +kernel) rfl rfl (Nat.le_of_ble_eq_true rfl) rfl d_M_write_13 (fun F13 H locs eF13 hw => ?_)
      have m13_98 : F13 (98) = .inr (6, [.int (iI (1)), .ref (ad (99)), .ref (ad (100)), .ref (ad (101)), .ref (ad (102)), .int (iI ((nS g : Int))), .int (iI (pS g)), .ref (ad (103))]) := by rw [eF13]; exact va_up_self ..
      have hRn_at_13 : Rn ty F13 (g) := hRn.m3 (show F13 (99) = F (99) from by rw [eF13]; exact va_up_ne _ _ (by omega)) (show F13 (100) = F (100) from by rw [eF13]; exact va_up_ne _ _ (by omega)) (show F13 (101) = F (101) from by rw [eF13]; exact va_up_ne _ _ (by omega))
      have N0_at_13 : Nm ty F13 (0) (zS g 0) := N0.m3 (show F13 (99) = F (99) from by rw [eF13]; exact va_up_ne _ _ (by omega)) (show F13 (100) = F (100) from by rw [eF13]; exact va_up_ne _ _ (by omega)) (show F13 (101) = F (101) from by rw [eF13]; exact va_up_ne _ _ (by omega))
      have h102_at_13 : F13 (102) = .inl (ty 0, 1400, .inl (tt)) := (show F13 (102) = F (102) from by rw [eF13]; exact va_up_ne _ _ (by omega)).trans h102
      have h103_at_13 : F13 (103) = .inl (ty 0, 700, .inl (dd)) := (show F13 (103) = F (103) from by rw [eF13]; exact va_up_ne _ _ (by omega)).trans h103
      refine lv_aload_n hx hb d_M_write_16 rfl (lv_at hl 0 rfl) ?_
      refine pw_get (ci := 6) (C := R_M) (T := T_M) (N := 8) hx hb hq i_M hown hw (by omega) m13_98 rfl 0 (by decide) (hq _ fl_M_34) (fun _ h9 => h9) rfl d_M_write_17 ?_
      refine wz_if_le (tgt := 25) hx hb d_M_write_20 (by decide) (by omega) (by omega) (fun c20 => ?_) (fun c20 => ?_)
      · exact absurd c20 (by omega)
      · refine wz_iconst (n := 0) hx hb d_M_write_23 ?_
        rw [← hQ]
        exact pw_iret hx hb hr hlocks hw (by
          rw [o_write, cif_neg hRe]
          exact ⟨rfl, Mo.mk' ⟨rfl, rfl, rfl⟩ m13_98 hRn_at_13 h102_at_13 htt h103_at_13, fun y9 h1 => show F13 (y9) = F (y9) from by rw [eF13]; exact va_up_ne _ _ (by omega)⟩) d_M_write_24
    · have hRa : isR a := rg_nz c5
      refine wz_iconst (n := 0) hx hb d_M_write_8 ?_
      refine lv_goto (tgt := 13) hx hb d_M_write_9 (by decide) ?_
      refine pw_put (ci := 6) (C := R_M) (T := T_M) (N := 8) (ty := .int) (fs' := [.int (iI (0)), .ref (ad (99)), .ref (ad (100)), .ref (ad (101)), .ref (ad (102)), .int (iI ((nS g : Int))), .int (iI (pS g)), .ref (ad (103))]) hx hb hq i_M ft_M ft_M_ok n_M hown hw (by omega) hO rfl 0 (by decide) (hq _ fl_M_34) (fun _ h9 => h9) rfl (by decide +kernel) rfl rfl (Nat.le_of_ble_eq_true rfl) rfl d_M_write_13 (fun F13 H locs eF13 hw => ?_)
      have m13_98 : F13 (98) = .inr (6, [.int (iI (0)), .ref (ad (99)), .ref (ad (100)), .ref (ad (101)), .ref (ad (102)), .int (iI ((nS g : Int))), .int (iI (pS g)), .ref (ad (103))]) := by rw [eF13]; exact va_up_self ..
      have hRn_at_13 : Rn ty F13 (g) := hRn.m3 (show F13 (99) = F (99) from by rw [eF13]; exact va_up_ne _ _ (by omega)) (show F13 (100) = F (100) from by rw [eF13]; exact va_up_ne _ _ (by omega)) (show F13 (101) = F (101) from by rw [eF13]; exact va_up_ne _ _ (by omega))
      have N0_at_13 : Nm ty F13 (0) (zS g 0) := N0.m3 (show F13 (99) = F (99) from by rw [eF13]; exact va_up_ne _ _ (by omega)) (show F13 (100) = F (100) from by rw [eF13]; exact va_up_ne _ _ (by omega)) (show F13 (101) = F (101) from by rw [eF13]; exact va_up_ne _ _ (by omega))
      have h102_at_13 : F13 (102) = .inl (ty 0, 1400, .inl (tt)) := (show F13 (102) = F (102) from by rw [eF13]; exact va_up_ne _ _ (by omega)).trans h102
      have h103_at_13 : F13 (103) = .inl (ty 0, 700, .inl (dd)) := (show F13 (103) = F (103) from by rw [eF13]; exact va_up_ne _ _ (by omega)).trans h103
      refine lv_aload_n hx hb d_M_write_16 rfl (lv_at hl 0 rfl) ?_
      refine pw_get (ci := 6) (C := R_M) (T := T_M) (N := 8) hx hb hq i_M hown hw (by omega) m13_98 rfl 0 (by decide) (hq _ fl_M_34) (fun _ h9 => h9) rfl d_M_write_17 ?_
      refine wz_if_le (tgt := 25) hx hb d_M_write_20 (by decide) (by omega) (by omega) (fun c20 => ?_) (fun c20 => ?_)
      · obtain ⟨ua, hua⟩ : ∃ u : Nat, a = (u : Int) := ⟨(a).toNat, by have := hRa.1; omega⟩
        have h16a : ua < 16 := by have := hRa.2; omega
        rw [hua] at hl
        have Nua := (hRn_at_13 ua h16a).1
        have N16ua := (hRn_at_13 ua h16a).2
        have hl1 := isLen_620 (isLen_dlen (zS g ua).natAbs) (hok.at h16a).1
        have hl2 := isLen_620 (isLen_dlen (bS g ua)) (hok.at h16a).2.1
        have hib := i1_b ((bS g ua : Nat) : Int)
        refine lv_aload_n hx hb d_M_write_25 rfl (lv_at hl 0 rfl) ?_
        refine wz_iconst (n := 0) hx hb d_M_write_26 ?_
        refine pw_put (ci := 6) (C := R_M) (T := T_M) (N := 8) (ty := .int) (fs' := [.int (iI (0)), .ref (ad (99)), .ref (ad (100)), .ref (ad (101)), .ref (ad (102)), .int (iI (0)), .int (iI (pS g)), .ref (ad (103))]) hx hb hq i_M ft_M ft_M_ok n_M hown hw (by omega) m13_98 rfl 5 (by decide) (hq _ fl_M_125) (fun _ h9 => h9) rfl (by decide +kernel) rfl rfl (Nat.le_of_ble_eq_true rfl) rfl d_M_write_27 (fun F27 H locs eF27 hw => ?_)
        have m27_98 : F27 (98) = .inr (6, [.int (iI (0)), .ref (ad (99)), .ref (ad (100)), .ref (ad (101)), .ref (ad (102)), .int (iI (0)), .int (iI (pS g)), .ref (ad (103))]) := by rw [eF27]; exact va_up_self ..
        have hRn_at_27 : Rn ty F27 (g) := hRn_at_13.m3 (show F27 (99) = F13 (99) from by rw [eF27]; exact va_up_ne _ _ (by omega)) (show F27 (100) = F13 (100) from by rw [eF27]; exact va_up_ne _ _ (by omega)) (show F27 (101) = F13 (101) from by rw [eF27]; exact va_up_ne _ _ (by omega))
        have N0_at_27 : Nm ty F27 (0) (zS g 0) := N0_at_13.m3 (show F27 (99) = F13 (99) from by rw [eF27]; exact va_up_ne _ _ (by omega)) (show F27 (100) = F13 (100) from by rw [eF27]; exact va_up_ne _ _ (by omega)) (show F27 (101) = F13 (101) from by rw [eF27]; exact va_up_ne _ _ (by omega))
        have h102_at_27 : F27 (102) = .inl (ty 0, 1400, .inl (tt)) := (show F27 (102) = F13 (102) from by rw [eF27]; exact va_up_ne _ _ (by omega)).trans h102_at_13
        have h103_at_27 : F27 (103) = .inl (ty 0, 700, .inl (dd)) := (show F27 (103) = F13 (103) from by rw [eF27]; exact va_up_ne _ _ (by omega)).trans h103_at_13
        have Nua_at_27 : Nm ty F27 (ua) (zS g ua) := Nua.m3 (show F27 (99) = F13 (99) from by rw [eF27]; exact va_up_ne _ _ (by omega)) (show F27 (100) = F13 (100) from by rw [eF27]; exact va_up_ne _ _ (by omega)) (show F27 (101) = F13 (101) from by rw [eF27]; exact va_up_ne _ _ (by omega))
        have N16ua_at_27 : Nm ty F27 (16 + ua) (((bS g ua : Nat) : Int)) := N16ua.m3 (show F27 (99) = F13 (99) from by rw [eF27]; exact va_up_ne _ _ (by omega)) (show F27 (100) = F13 (100) from by rw [eF27]; exact va_up_ne _ _ (by omega)) (show F27 (101) = F13 (101) from by rw [eF27]; exact va_up_ne _ _ (by omega))
        refine lv_aload_n hx hb d_M_write_30 rfl (lv_at hl 0 rfl) ?_
        refine pw_get (ci := 6) (C := R_M) (T := T_M) (N := 8) hx hb hq i_M hown hw (by omega) m27_98 rfl 3 (by decide) (hq _ fl_M_16) (fun _ h9 => h9) rfl d_M_write_31 ?_
        refine lv_iload_n hx hb d_M_write_34 rfl (lv_at hl 1 rfl) ?_
        obtain ⟨P35, S35, G35, ⟨a35_99, a35_100, a35_101⟩, ⟨n35, hS35, h335, hD35, ht35, hv35⟩, hG35⟩ := id Nua_at_27
        have hs35 := sB_c (zS g ua)
        refine pw_zald (k := ua) hx hb hw 4 (by omega) a35_101 rfl (iI_in (by omega) (by omega) (by omega)) ((iI_cl (by omega) (by omega)).trans (by omega)) d_M_write_35 ?_
        refine lv_topi (fun x35 ex35 => ?_)
        obtain rfl : x35 = iI ((sB (zS g ua) : Int)) := ex35.trans (hG35)
        refine wz_if_eq (tgt := 45) hx hb d_M_write_36 (by decide) (by omega) (by omega) (fun c36 => ?_) (fun c36 => ?_)
        · refine lv_aload_n hx hb d_M_write_45 rfl (lv_at hl 0 rfl) ?_
          refine lv_iload_n hx hb d_M_write_46 rfl (lv_at hl 1 rfl) ?_
          refine pw_callv hw (va_runV (As := [.int (iI ((ua : Int)))]) (rest := []) ⟨hx, hb, hml, hown, hq⟩ (c_M_printDigits l D ty ad M F27 H.size hM (0) (pS g) (0) (ua) (zS g ua) _ _ m27_98 h102_at_27 h103_at_27 (by omega) Nua_at_27 ((hok.at h16a).1) (by omega)) (cwV 1 hq (gV ml_M_131 im_M_printDigits se_M_printDigits in_M m_M_printDigits) rfl rfl rfl (by decide +kernel) ⟨Nat.le_of_ble_eq_true rfl, Nat.le_of_ble_eq_true rfl⟩) (pw_preV hw (by omega) m27_98 rfl) rfl rfl hl.1 rfl (lv_room (Nat.le_of_ble_eq_true rfl)) d_M_write_47 ⟨Nat.le_of_ble_eq_true rfl, Nat.le_of_ble_eq_true rfl⟩) (fun F47 H locs q47 hw => ?_)
          obtain ⟨tt47, dd47, v98_47, v102_47, v103_47, hpr47, hdg47, hk47, hf47⟩ := q47
          have hRn_at_47 : Rn ty F47 (g) := hRn_at_27.kq hk47 (fun c9 h8 h9 => by first | omega | (dsimp only at h9; omega))
          have N0_at_47 : Nm ty F47 (0) (zS g 0) := hk47 _ _ (by omega) (by first | omega | (dsimp only; omega)) N0_at_27
          have Nua_at_47 : Nm ty F47 (ua) (zS g ua) := hk47 _ _ (by omega) (by first | omega | (dsimp only; omega)) Nua_at_27
          have N16ua_at_47 : Nm ty F47 (16 + ua) (((bS g ua : Nat) : Int)) := hk47 _ _ (by omega) (by first | omega | (dsimp only; omega)) N16ua_at_27
          refine lv_aload_n hx hb d_M_write_50 rfl (lv_at hl 0 rfl) ?_
          refine lv_iload_n hx hb d_M_write_51 rfl (lv_at hl 1 rfl) ?_
          refine pw_calli hw (va_runS (As := [.int (iI ((ua : Int)))]) (rest := [.ref (ad (98))]) ⟨hx, hb, hml, hown, hq⟩ (c_M_below l D ty ad M F47 H.size (ua) (by omega)) (va_cwS 1 hq (gS ml_M_82 st_M_below in_M m_M_below) rfl rfl rfl (by decide +kernel) ⟨Nat.le_of_ble_eq_true rfl, Nat.le_of_ble_eq_true rfl⟩) (pw_preS hw) rfl rfl hl.1 rfl (lv_room (Nat.le_of_ble_eq_true rfl)) d_M_write_52 ⟨Nat.le_of_ble_eq_true rfl, Nat.le_of_ble_eq_true rfl⟩) (fun r52 F52 H locs q52 hw => ?_)
          obtain ⟨er52, eF52⟩ := q52
          rw [eF52] at hw
          clear eF52
          subst er52
          refine pw_calli hw (va_runV (As := [.int (iI (((16 + ua : Nat) : Int)))]) (rest := []) ⟨hx, hb, hml, hown, hq⟩ (c_M_isOne l D ty ad M F47 H.size hM (0) (((0 + dlen (Int.natAbs (zS g ua)) : Nat) : Int)) (pS g) v98_47 (16 + ua) (((bS g ua : Nat) : Int)) (by omega) N16ua_at_47) (cwV 1 hq (gV ml_M_98 im_M_isOne se_M_isOne in_M m_M_isOne) rfl rfl rfl (by decide +kernel) ⟨Nat.le_of_ble_eq_true rfl, Nat.le_of_ble_eq_true rfl⟩) (pw_preV hw (by omega) v98_47 rfl) rfl rfl hl.1 rfl (lv_room (Nat.le_of_ble_eq_true rfl)) d_M_write_55 ⟨Nat.le_of_ble_eq_true rfl, Nat.le_of_ble_eq_true rfl⟩) (fun r55 F55 H locs q55 hw => ?_)
          obtain ⟨er55, eF55⟩ := q55
          rw [eF55] at hw
          clear eF55
          subst er55
          refine wz_if_ne (tgt := 75) hx hb d_M_write_58 (by decide) (by omega) (by omega) (fun c58 => ?_) (fun c58 => ?_)
          · have hb1 := i1_nz c58
            refine lv_aload_n hx hb d_M_write_75 rfl (lv_at hl 0 rfl) ?_
            refine pw_get (ci := 6) (C := R_M) (T := T_M) (N := 8) hx hb hq i_M hown hw (by omega) v98_47 rfl 5 (by decide) (hq _ fl_M_125) (fun _ h9 => h9) rfl d_M_write_76 ?_
            rw [← hQ]
            exact pw_iret hx hb hr hlocks hw (by
              have hs9 : sB (zS g ua) = 0 := by omega
              have hw1 := wr_1 hs9 (fun i hi => absurd hi (by omega)) hdg47
              rw [o_write, cif_pos hRa, show a.toNat = ua by omega, wrS, cif_pos (by omega)]
              dsimp only
              have hn1 : (wr1 (zS g ua)).1 = 0 + dlen (zS g ua).natAbs := by rw [wr1, hs9]
              refine ⟨by rw [hn1], ⟨?_, hRn_at_47, _, _, v102_47, hw1, v103_47⟩, fun y9 h1 => (hf47 (y9) (by omega)).trans ((show F27 (y9) = F13 (y9) from by rw [eF27]; exact va_up_ne _ _ (by omega)).trans (show F13 (y9) = F (y9) from by rw [eF13]; exact va_up_ne _ _ (by omega)))⟩
              show _ = oM ad 0 (((wr1 (zS g ua)).1 : Nat) : Int) (pS g)
              rw [hn1]; exact v98_47) d_M_write_79
          · have hb1 := i1_z (show i1 ((bS g ua : Nat) : Int) = 0 by omega)
            refine lv_aload_n hx hb d_M_write_61 rfl (lv_at hl 0 rfl) ?_
            refine wz_bipush (n := 47) hx hb d_M_write_62 (by decide) ?_
            refine pw_callv hw (va_runV (As := [.int (iI (47))]) (rest := []) ⟨hx, hb, hml, hown, hq⟩ (c_M_print l D ty ad M F47 H.size hM (0) (pS g) (0 + dlen (Int.natAbs (zS g ua))) (47) _ v98_47 v102_47 (by omega)) (cwV 1 hq (gV ml_M_128 im_M_print se_M_print in_M m_M_print) rfl rfl rfl (by decide +kernel) ⟨Nat.le_of_ble_eq_true rfl, Nat.le_of_ble_eq_true rfl⟩) (pw_preV hw (by omega) v98_47 rfl) rfl rfl hl.1 rfl (lv_room (Nat.le_of_ble_eq_true rfl)) d_M_write_64 ⟨Nat.le_of_ble_eq_true rfl, Nat.le_of_ble_eq_true rfl⟩) (fun F64 H locs q64 hw => ?_)
            obtain ⟨u98_64, u102_64, hf64⟩ := q64
            have hRn_at_64 : Rn ty F64 (g) := hRn_at_47.m3 (hf64 (99) (by omega) (by omega)) (hf64 (100) (by omega) (by omega)) (hf64 (101) (by omega) (by omega))
            have N0_at_64 : Nm ty F64 (0) (zS g 0) := N0_at_47.m3 (hf64 (99) (by omega) (by omega)) (hf64 (100) (by omega) (by omega)) (hf64 (101) (by omega) (by omega))
            have Nua_at_64 : Nm ty F64 (ua) (zS g ua) := Nua_at_47.m3 (hf64 (99) (by omega) (by omega)) (hf64 (100) (by omega) (by omega)) (hf64 (101) (by omega) (by omega))
            have N16ua_at_64 : Nm ty F64 (16 + ua) (((bS g ua : Nat) : Int)) := N16ua_at_47.m3 (hf64 (99) (by omega) (by omega)) (hf64 (100) (by omega) (by omega)) (hf64 (101) (by omega) (by omega))
            have v103_47_at_64 : F64 (103) = .inl (ty 0, 700, .inl (dd47)) := (hf64 (103) (by omega) (by omega)).trans v103_47
            refine lv_aload_n hx hb d_M_write_67 rfl (lv_at hl 0 rfl) ?_
            refine lv_iload_n hx hb d_M_write_68 rfl (lv_at hl 1 rfl) ?_
            refine pw_calli hw (va_runS (As := [.int (iI ((ua : Int)))]) (rest := [.ref (ad (98))]) ⟨hx, hb, hml, hown, hq⟩ (c_M_below l D ty ad M F64 H.size (ua) (by omega)) (va_cwS 1 hq (gS ml_M_82 st_M_below in_M m_M_below) rfl rfl rfl (by decide +kernel) ⟨Nat.le_of_ble_eq_true rfl, Nat.le_of_ble_eq_true rfl⟩) (pw_preS hw) rfl rfl hl.1 rfl (lv_room (Nat.le_of_ble_eq_true rfl)) d_M_write_69 ⟨Nat.le_of_ble_eq_true rfl, Nat.le_of_ble_eq_true rfl⟩) (fun r69 F69 H locs q69 hw => ?_)
            obtain ⟨er69, eF69⟩ := q69
            rw [eF69] at hw
            clear eF69
            subst er69
            refine pw_callv hw (va_runV (As := [.int (iI (((16 + ua : Nat) : Int)))]) (rest := []) ⟨hx, hb, hml, hown, hq⟩ (c_M_printDigits l D ty ad M F64 H.size hM (0) (pS g) (0 + dlen (Int.natAbs (zS g ua)) + 1) (16 + ua) (((bS g ua : Nat) : Int)) _ _ u98_64 u102_64 v103_47_at_64 (by omega) N16ua_at_64 ((hok.at h16a).2.1) (by omega)) (cwV 1 hq (gV ml_M_131 im_M_printDigits se_M_printDigits in_M m_M_printDigits) rfl rfl rfl (by decide +kernel) ⟨Nat.le_of_ble_eq_true rfl, Nat.le_of_ble_eq_true rfl⟩) (pw_preV hw (by omega) u98_64 rfl) rfl rfl hl.1 rfl (lv_room (Nat.le_of_ble_eq_true rfl)) d_M_write_72 ⟨Nat.le_of_ble_eq_true rfl, Nat.le_of_ble_eq_true rfl⟩) (fun F72 H locs q72 hw => ?_)
            obtain ⟨tt72, dd72, v98_72, v102_72, v103_72, hpr72, hdg72, hk72, hf72⟩ := q72
            have hRn_at_72 : Rn ty F72 (g) := hRn_at_64.kq hk72 (fun c9 h8 h9 => by first | omega | (dsimp only at h9; omega))
            have N0_at_72 : Nm ty F72 (0) (zS g 0) := hk72 _ _ (by omega) (by first | omega | (dsimp only; omega)) N0_at_64
            have Nua_at_72 : Nm ty F72 (ua) (zS g ua) := hk72 _ _ (by omega) (by first | omega | (dsimp only; omega)) Nua_at_64
            have N16ua_at_72 : Nm ty F72 (16 + ua) (((bS g ua : Nat) : Int)) := hk72 _ _ (by omega) (by first | omega | (dsimp only; omega)) N16ua_at_64
            refine lv_aload_n hx hb d_M_write_75 rfl (lv_at hl 0 rfl) ?_
            refine pw_get (ci := 6) (C := R_M) (T := T_M) (N := 8) hx hb hq i_M hown hw (by omega) v98_72 rfl 5 (by decide) (hq _ fl_M_125) (fun _ h9 => h9) rfl d_M_write_76 ?_
            rw [← hQ]
            exact pw_iret hx hb hr hlocks hw (by
              have hs9 : sB (zS g ua) = 0 := by omega
              have hw1 := wr_1 hs9 (fun i hi => absurd hi (by omega)) hdg47
              have hn1 : (wr1 (zS g ua)).1 = 0 + dlen (zS g ua).natAbs := by rw [wr1, hs9]
              rw [o_write, cif_pos hRa, show a.toNat = ua by omega, wrS, cif_neg (by omega)]
              dsimp only
              refine ⟨by rw [hn1]; rfl, ⟨?_, hRn_at_72, _, _, v102_72, wr_2 hw1 hn1 hpr72 hdg72, v103_72⟩, fun y9 h1 => (hf72 (y9) (by omega)).trans ((hf64 (y9) (by omega) (by omega)).trans ((hf47 (y9) (by omega)).trans ((show F27 (y9) = F13 (y9) from by rw [eF27]; exact va_up_ne _ _ (by omega)).trans (show F13 (y9) = F (y9) from by rw [eF13]; exact va_up_ne _ _ (by omega)))))⟩
              show _ = oM ad 0 (((wr1 (zS g ua)).1 + 1 + dlen (bS g ua) : Nat) : Int) (pS g)
              rw [hn1]; exact v98_72) d_M_write_79
        · refine lv_aload_n hx hb d_M_write_39 rfl (lv_at hl 0 rfl) ?_
          refine wz_bipush (n := 45) hx hb d_M_write_40 (by decide) ?_
          refine pw_callv hw (va_runV (As := [.int (iI (45))]) (rest := []) ⟨hx, hb, hml, hown, hq⟩ (c_M_print l D ty ad M F27 H.size hM (0) (pS g) (0) (45) _ m27_98 h102_at_27 (by omega)) (cwV 1 hq (gV ml_M_128 im_M_print se_M_print in_M m_M_print) rfl rfl rfl (by decide +kernel) ⟨Nat.le_of_ble_eq_true rfl, Nat.le_of_ble_eq_true rfl⟩) (pw_preV hw (by omega) m27_98 rfl) rfl rfl hl.1 rfl (lv_room (Nat.le_of_ble_eq_true rfl)) d_M_write_42 ⟨Nat.le_of_ble_eq_true rfl, Nat.le_of_ble_eq_true rfl⟩) (fun F42 H locs q42 hw => ?_)
          obtain ⟨u98_42, u102_42, hf42⟩ := q42
          have hRn_at_42 : Rn ty F42 (g) := hRn_at_27.m3 (hf42 (99) (by omega) (by omega)) (hf42 (100) (by omega) (by omega)) (hf42 (101) (by omega) (by omega))
          have N0_at_42 : Nm ty F42 (0) (zS g 0) := N0_at_27.m3 (hf42 (99) (by omega) (by omega)) (hf42 (100) (by omega) (by omega)) (hf42 (101) (by omega) (by omega))
          have h103_at_42 : F42 (103) = .inl (ty 0, 700, .inl (dd)) := (hf42 (103) (by omega) (by omega)).trans h103_at_27
          have Nua_at_42 : Nm ty F42 (ua) (zS g ua) := Nua_at_27.m3 (hf42 (99) (by omega) (by omega)) (hf42 (100) (by omega) (by omega)) (hf42 (101) (by omega) (by omega))
          have N16ua_at_42 : Nm ty F42 (16 + ua) (((bS g ua : Nat) : Int)) := N16ua_at_27.m3 (hf42 (99) (by omega) (by omega)) (hf42 (100) (by omega) (by omega)) (hf42 (101) (by omega) (by omega))
          have a35_99_at_42 : F42 (99) = .inl (ty 0, 12900, .inl (P35)) := (hf42 (99) (by omega) (by omega)).trans a35_99
          have a35_100_at_42 : F42 (100) = .inl (ty 0, 43, .inl (S35)) := (hf42 (100) (by omega) (by omega)).trans a35_100
          have a35_101_at_42 : F42 (101) = .inl (ty 4, 43, .inl (G35)) := (hf42 (101) (by omega) (by omega)).trans a35_101
          refine lv_aload_n hx hb d_M_write_45 rfl (lv_at hl 0 rfl) ?_
          refine lv_iload_n hx hb d_M_write_46 rfl (lv_at hl 1 rfl) ?_
          refine pw_callv hw (va_runV (As := [.int (iI ((ua : Int)))]) (rest := []) ⟨hx, hb, hml, hown, hq⟩ (c_M_printDigits l D ty ad M F42 H.size hM (0) (pS g) (1) (ua) (zS g ua) _ _ u98_42 u102_42 h103_at_42 (by omega) Nua_at_42 ((hok.at h16a).1) (by omega)) (cwV 1 hq (gV ml_M_131 im_M_printDigits se_M_printDigits in_M m_M_printDigits) rfl rfl rfl (by decide +kernel) ⟨Nat.le_of_ble_eq_true rfl, Nat.le_of_ble_eq_true rfl⟩) (pw_preV hw (by omega) u98_42 rfl) rfl rfl hl.1 rfl (lv_room (Nat.le_of_ble_eq_true rfl)) d_M_write_47 ⟨Nat.le_of_ble_eq_true rfl, Nat.le_of_ble_eq_true rfl⟩) (fun F47 H locs q47 hw => ?_)
          obtain ⟨tt47, dd47, v98_47, v102_47, v103_47, hpr47, hdg47, hk47, hf47⟩ := q47
          have hRn_at_47 : Rn ty F47 (g) := hRn_at_42.kq hk47 (fun c9 h8 h9 => by first | omega | (dsimp only at h9; omega))
          have N0_at_47 : Nm ty F47 (0) (zS g 0) := hk47 _ _ (by omega) (by first | omega | (dsimp only; omega)) N0_at_42
          have Nua_at_47 : Nm ty F47 (ua) (zS g ua) := hk47 _ _ (by omega) (by first | omega | (dsimp only; omega)) Nua_at_42
          have N16ua_at_47 : Nm ty F47 (16 + ua) (((bS g ua : Nat) : Int)) := hk47 _ _ (by omega) (by first | omega | (dsimp only; omega)) N16ua_at_42
          refine lv_aload_n hx hb d_M_write_50 rfl (lv_at hl 0 rfl) ?_
          refine lv_iload_n hx hb d_M_write_51 rfl (lv_at hl 1 rfl) ?_
          refine pw_calli hw (va_runS (As := [.int (iI ((ua : Int)))]) (rest := [.ref (ad (98))]) ⟨hx, hb, hml, hown, hq⟩ (c_M_below l D ty ad M F47 H.size (ua) (by omega)) (va_cwS 1 hq (gS ml_M_82 st_M_below in_M m_M_below) rfl rfl rfl (by decide +kernel) ⟨Nat.le_of_ble_eq_true rfl, Nat.le_of_ble_eq_true rfl⟩) (pw_preS hw) rfl rfl hl.1 rfl (lv_room (Nat.le_of_ble_eq_true rfl)) d_M_write_52 ⟨Nat.le_of_ble_eq_true rfl, Nat.le_of_ble_eq_true rfl⟩) (fun r52 F52 H locs q52 hw => ?_)
          obtain ⟨er52, eF52⟩ := q52
          rw [eF52] at hw
          clear eF52
          subst er52
          refine pw_calli hw (va_runV (As := [.int (iI (((16 + ua : Nat) : Int)))]) (rest := []) ⟨hx, hb, hml, hown, hq⟩ (c_M_isOne l D ty ad M F47 H.size hM (0) (((1 + dlen (Int.natAbs (zS g ua)) : Nat) : Int)) (pS g) v98_47 (16 + ua) (((bS g ua : Nat) : Int)) (by omega) N16ua_at_47) (cwV 1 hq (gV ml_M_98 im_M_isOne se_M_isOne in_M m_M_isOne) rfl rfl rfl (by decide +kernel) ⟨Nat.le_of_ble_eq_true rfl, Nat.le_of_ble_eq_true rfl⟩) (pw_preV hw (by omega) v98_47 rfl) rfl rfl hl.1 rfl (lv_room (Nat.le_of_ble_eq_true rfl)) d_M_write_55 ⟨Nat.le_of_ble_eq_true rfl, Nat.le_of_ble_eq_true rfl⟩) (fun r55 F55 H locs q55 hw => ?_)
          obtain ⟨er55, eF55⟩ := q55
          rw [eF55] at hw
          clear eF55
          subst er55
          refine wz_if_ne (tgt := 75) hx hb d_M_write_58 (by decide) (by omega) (by omega) (fun c58 => ?_) (fun c58 => ?_)
          · have hb1 := i1_nz c58
            refine lv_aload_n hx hb d_M_write_75 rfl (lv_at hl 0 rfl) ?_
            refine pw_get (ci := 6) (C := R_M) (T := T_M) (N := 8) hx hb hq i_M hown hw (by omega) v98_47 rfl 5 (by decide) (hq _ fl_M_125) (fun _ h9 => h9) rfl d_M_write_76 ?_
            rw [← hQ]
            exact pw_iret hx hb hr hlocks hw (by
              have hs9 : sB (zS g ua) = 1 := by omega
              have hw1 := wr_1 hs9 (fun i hi => by rw [hpr47 i hi, show i = 0 by omega, pk_us]) hdg47
              rw [o_write, cif_pos hRa, show a.toNat = ua by omega, wrS, cif_pos (by omega)]
              dsimp only
              have hn1 : (wr1 (zS g ua)).1 = 1 + dlen (zS g ua).natAbs := by rw [wr1, hs9]
              refine ⟨by rw [hn1], ⟨?_, hRn_at_47, _, _, v102_47, hw1, v103_47⟩, fun y9 h1 => (hf47 (y9) (by omega)).trans ((hf42 (y9) (by omega) (by omega)).trans ((show F27 (y9) = F13 (y9) from by rw [eF27]; exact va_up_ne _ _ (by omega)).trans (show F13 (y9) = F (y9) from by rw [eF13]; exact va_up_ne _ _ (by omega))))⟩
              show _ = oM ad 0 (((wr1 (zS g ua)).1 : Nat) : Int) (pS g)
              rw [hn1]; exact v98_47) d_M_write_79
          · have hb1 := i1_z (show i1 ((bS g ua : Nat) : Int) = 0 by omega)
            refine lv_aload_n hx hb d_M_write_61 rfl (lv_at hl 0 rfl) ?_
            refine wz_bipush (n := 47) hx hb d_M_write_62 (by decide) ?_
            refine pw_callv hw (va_runV (As := [.int (iI (47))]) (rest := []) ⟨hx, hb, hml, hown, hq⟩ (c_M_print l D ty ad M F47 H.size hM (0) (pS g) (1 + dlen (Int.natAbs (zS g ua))) (47) _ v98_47 v102_47 (by omega)) (cwV 1 hq (gV ml_M_128 im_M_print se_M_print in_M m_M_print) rfl rfl rfl (by decide +kernel) ⟨Nat.le_of_ble_eq_true rfl, Nat.le_of_ble_eq_true rfl⟩) (pw_preV hw (by omega) v98_47 rfl) rfl rfl hl.1 rfl (lv_room (Nat.le_of_ble_eq_true rfl)) d_M_write_64 ⟨Nat.le_of_ble_eq_true rfl, Nat.le_of_ble_eq_true rfl⟩) (fun F64 H locs q64 hw => ?_)
            obtain ⟨u98_64, u102_64, hf64⟩ := q64
            have hRn_at_64 : Rn ty F64 (g) := hRn_at_47.m3 (hf64 (99) (by omega) (by omega)) (hf64 (100) (by omega) (by omega)) (hf64 (101) (by omega) (by omega))
            have N0_at_64 : Nm ty F64 (0) (zS g 0) := N0_at_47.m3 (hf64 (99) (by omega) (by omega)) (hf64 (100) (by omega) (by omega)) (hf64 (101) (by omega) (by omega))
            have Nua_at_64 : Nm ty F64 (ua) (zS g ua) := Nua_at_47.m3 (hf64 (99) (by omega) (by omega)) (hf64 (100) (by omega) (by omega)) (hf64 (101) (by omega) (by omega))
            have N16ua_at_64 : Nm ty F64 (16 + ua) (((bS g ua : Nat) : Int)) := N16ua_at_47.m3 (hf64 (99) (by omega) (by omega)) (hf64 (100) (by omega) (by omega)) (hf64 (101) (by omega) (by omega))
            have v103_47_at_64 : F64 (103) = .inl (ty 0, 700, .inl (dd47)) := (hf64 (103) (by omega) (by omega)).trans v103_47
            refine lv_aload_n hx hb d_M_write_67 rfl (lv_at hl 0 rfl) ?_
            refine lv_iload_n hx hb d_M_write_68 rfl (lv_at hl 1 rfl) ?_
            refine pw_calli hw (va_runS (As := [.int (iI ((ua : Int)))]) (rest := [.ref (ad (98))]) ⟨hx, hb, hml, hown, hq⟩ (c_M_below l D ty ad M F64 H.size (ua) (by omega)) (va_cwS 1 hq (gS ml_M_82 st_M_below in_M m_M_below) rfl rfl rfl (by decide +kernel) ⟨Nat.le_of_ble_eq_true rfl, Nat.le_of_ble_eq_true rfl⟩) (pw_preS hw) rfl rfl hl.1 rfl (lv_room (Nat.le_of_ble_eq_true rfl)) d_M_write_69 ⟨Nat.le_of_ble_eq_true rfl, Nat.le_of_ble_eq_true rfl⟩) (fun r69 F69 H locs q69 hw => ?_)
            obtain ⟨er69, eF69⟩ := q69
            rw [eF69] at hw
            clear eF69
            subst er69
            refine pw_callv hw (va_runV (As := [.int (iI (((16 + ua : Nat) : Int)))]) (rest := []) ⟨hx, hb, hml, hown, hq⟩ (c_M_printDigits l D ty ad M F64 H.size hM (0) (pS g) (1 + dlen (Int.natAbs (zS g ua)) + 1) (16 + ua) (((bS g ua : Nat) : Int)) _ _ u98_64 u102_64 v103_47_at_64 (by omega) N16ua_at_64 ((hok.at h16a).2.1) (by omega)) (cwV 1 hq (gV ml_M_131 im_M_printDigits se_M_printDigits in_M m_M_printDigits) rfl rfl rfl (by decide +kernel) ⟨Nat.le_of_ble_eq_true rfl, Nat.le_of_ble_eq_true rfl⟩) (pw_preV hw (by omega) u98_64 rfl) rfl rfl hl.1 rfl (lv_room (Nat.le_of_ble_eq_true rfl)) d_M_write_72 ⟨Nat.le_of_ble_eq_true rfl, Nat.le_of_ble_eq_true rfl⟩) (fun F72 H locs q72 hw => ?_)
            obtain ⟨tt72, dd72, v98_72, v102_72, v103_72, hpr72, hdg72, hk72, hf72⟩ := q72
            have hRn_at_72 : Rn ty F72 (g) := hRn_at_64.kq hk72 (fun c9 h8 h9 => by first | omega | (dsimp only at h9; omega))
            have N0_at_72 : Nm ty F72 (0) (zS g 0) := hk72 _ _ (by omega) (by first | omega | (dsimp only; omega)) N0_at_64
            have Nua_at_72 : Nm ty F72 (ua) (zS g ua) := hk72 _ _ (by omega) (by first | omega | (dsimp only; omega)) Nua_at_64
            have N16ua_at_72 : Nm ty F72 (16 + ua) (((bS g ua : Nat) : Int)) := hk72 _ _ (by omega) (by first | omega | (dsimp only; omega)) N16ua_at_64
            refine lv_aload_n hx hb d_M_write_75 rfl (lv_at hl 0 rfl) ?_
            refine pw_get (ci := 6) (C := R_M) (T := T_M) (N := 8) hx hb hq i_M hown hw (by omega) v98_72 rfl 5 (by decide) (hq _ fl_M_125) (fun _ h9 => h9) rfl d_M_write_76 ?_
            rw [← hQ]
            exact pw_iret hx hb hr hlocks hw (by
              have hs9 : sB (zS g ua) = 1 := by omega
              have hw1 := wr_1 hs9 (fun i hi => by rw [hpr47 i hi, show i = 0 by omega, pk_us]) hdg47
              have hn1 : (wr1 (zS g ua)).1 = 1 + dlen (zS g ua).natAbs := by rw [wr1, hs9]
              rw [o_write, cif_pos hRa, show a.toNat = ua by omega, wrS, cif_neg (by omega)]
              dsimp only
              refine ⟨by rw [hn1]; rfl, ⟨?_, hRn_at_72, _, _, v102_72, wr_2 hw1 hn1 hpr72 hdg72, v103_72⟩, fun y9 h1 => (hf72 (y9) (by omega)).trans ((hf64 (y9) (by omega) (by omega)).trans ((hf47 (y9) (by omega)).trans ((hf42 (y9) (by omega) (by omega)).trans ((show F27 (y9) = F13 (y9) from by rw [eF27]; exact va_up_ne _ _ (by omega)).trans (show F13 (y9) = F (y9) from by rw [eF13]; exact va_up_ne _ _ (by omega))))))⟩
              show _ = oM ad 0 (((wr1 (zS g ua)).1 + 1 + dlen (bS g ua) : Nat) : Int) (pS g)
              rw [hn1]; exact v98_72) d_M_write_79
      · exact absurd c20 (by omega)
  rw [hH, hlo] at hgo
  exact hgo
set_option maxHeartbeats 4000000 in
set_option maxRecDepth 100000 in
/-- type(characters, n) -/
theorem c_M_type (l : Launch) (D : va_G) (ty : Nat → ClassId) (ad : Nat → Nat) (M : Nat) (F : Nat → va_E) (sz : Nat) (hM : 103 < M) (g : Sg) (co : Int) (hMo : Mo ty ad F co g) (hok : okS g) (C : Nat) (hC : C < 18446744073709551616) (mm : Int) (hmm : -2147483648 ≤ mm ∧ mm < 2147483648) :
    CI l y_M_type w_M_type ({ frames := 1, cells := 0, slots := 0, locals := 21 } : Room) [.ref (ad (98)), .long (iL ((C : Int))), .int (iI (mm))] D ty ad M F sz (fun r F1 => r = iI (s_type g C mm).1 ∧ Mo ty ad F1 0 (s_type g C mm).2 ∧ frP F F1) := by
  refine Met.ofW (cc := b_M_type) (maxL := 8) (ret := (some .int)) (by decide) rfl ?_
  intro p e s m args below meth c s₁ B hml hv
  obtain ⟨rfl, hsz, hP, hK, hD0⟩ := hv
  have hx := B.exec
  have hb := B.bytes
  have hr := B.returns
  have hts := atoms_spec (ws := w_M_type) B.pre
  have hq : ∀ w ∈ wT, w.before _ s = true := fun w h => hts w (List.mem_cons_of_mem _ h)
  have hown : s.vm.findClass R_M = some m.cls := findClass_of_methodNamed B.named
  have hlocks := B.notSynchronized
  subst hsz
  have hw := pw_start hP hK hD0
  have hl := lv_entry ([.ref (ad (98)), .long (iL ((C : Int))), .int (iI (mm))]) (n := 8) (Nat.le_of_ble_eq_true rfl)
  rw [lg_entry_eq]
  generalize (lg_sl ([.ref (ad (98)), .long (iL ((C : Int))), .int (iI (mm))]) ++ List.replicate (8 - (lg_sl ([.ref (ad (98)), .long (iL ((C : Int))), .int (iI (mm))])).length) Slot.unset).toArray = ls at hl ⊢
  have hl : lv_has ls 8 [(0, .ref (ad (98))), (1, .long (iL ((C : Int)))), (3, .int (iI (mm)))] := hl
  change W p l e ({ frames := 1, cells := 0, slots := 0, locals := 21 } : Room) s m ([.ref (ad (98)), .long (iL ((C : Int))), .int (iI (mm))]).toArray below meth c s.heap [] 0 0 (MQ below (va_Qi (fun r F1 => r = iI (s_type g C mm).1 ∧ Mo ty ad F1 0 (s_type g C mm).2 ∧ frP F F1) (pAt D classes (tysL ty) ad M (pA ad M s.heap.size)) (pA ad M s.heap.size)) ([.ref (ad (98)), .long (iL ((C : Int))), .int (iI (mm))]).toArray s 0 0 (pA ad M s.heap.size)) (F0 m 0 ls [])
  generalize hQ : MQ below (va_Qi (fun r F1 => r = iI (s_type g C mm).1 ∧ Mo ty ad F1 0 (s_type g C mm).2 ∧ frP F F1) (pAt D classes (tysL ty) ad M (pA ad M s.heap.size)) (pA ad M s.heap.size)) ([.ref (ad (98)), .long (iL ((C : Int))), .int (iI (mm))]).toArray s 0 0 (pA ad M s.heap.size) = Q
  obtain ⟨H, hH⟩ : ∃ H, H = s.heap := ⟨_, rfl⟩
  obtain ⟨locs, hlo⟩ : ∃ z : List Loc, z = [] := ⟨_, rfl⟩
  have hw : pw D classes (tysL ty) ad M F (pA ad M s.heap.size) s H locs := by rw [hH, hlo]; exact hw
  have hgo : W p l e ({ frames := 1, cells := 0, slots := 0, locals := 21 } : Room) s m ([.ref (ad (98)), .long (iL ((C : Int))), .int (iI (mm))]).toArray below meth c H locs 0 0 Q (F0 m 0 ls []) := by
    obtain ⟨hO, hRn, tt, dd, h102, htt, h103⟩ := id hMo
    have N0 := (hRn 0 (by decide)).1
    have hn14 := hok.2.1
    refine lv_aload_n hx hb d_M_type_0 rfl (lv_at hl 0 rfl) ?_
    refine wz_iconst (n := 0) hx hb d_M_type_1 ?_
    refine pw_put (ci := 6) (C := R_M) (T := T_M) (N := 8) (ty := .int) (fs' := [.int (iI (0)), .ref (ad (99)), .ref (ad (100)), .ref (ad (101)), .ref (ad (102)), .int (iI ((nS g : Int))), .int (iI (pS g)), .ref (ad (103))]) hx hb hq i_M ft_M ft_M_ok n_M hown hw (by omega) hO rfl 0 (by decide) (hq _ fl_M_34) (fun _ h9 => h9) rfl (by decide +kernel) rfl rfl (Nat.le_of_ble_eq_true rfl) rfl d_M_type_2 (fun F2 H locs eF2 hw => ?_)
    have m2_98 : F2 (98) = .inr (6, [.int (iI (0)), .ref (ad (99)), .ref (ad (100)), .ref (ad (101)), .ref (ad (102)), .int (iI ((nS g : Int))), .int (iI (pS g)), .ref (ad (103))]) := by rw [eF2]; exact va_up_self ..
    have hRn_at_2 : Rn ty F2 (g) := hRn.m3 (show F2 (99) = F (99) from by rw [eF2]; exact va_up_ne _ _ (by omega)) (show F2 (100) = F (100) from by rw [eF2]; exact va_up_ne _ _ (by omega)) (show F2 (101) = F (101) from by rw [eF2]; exact va_up_ne _ _ (by omega))
    have N0_at_2 : Nm ty F2 (0) (zS g 0) := N0.m3 (show F2 (99) = F (99) from by rw [eF2]; exact va_up_ne _ _ (by omega)) (show F2 (100) = F (100) from by rw [eF2]; exact va_up_ne _ _ (by omega)) (show F2 (101) = F (101) from by rw [eF2]; exact va_up_ne _ _ (by omega))
    have h102_at_2 : F2 (102) = .inl (ty 0, 1400, .inl (tt)) := (show F2 (102) = F (102) from by rw [eF2]; exact va_up_ne _ _ (by omega)).trans h102
    have h103_at_2 : F2 (103) = .inl (ty 0, 700, .inl (dd)) := (show F2 (103) = F (103) from by rw [eF2]; exact va_up_ne _ _ (by omega)).trans h103
    have K38 : ∀ (fuel : Nat) (k gd : Nat) (ls : Array Slot), mm.toNat - k < fuel → (k ≤ mm.toNat) → (gd ≤ 1) → (gd = 1 → 1 ≤ mm ∧ mm ≤ 8 ∧ nS g + mm ≤ 1400) → (gd = 1 → ∀ j : Nat, j < k → 32 ≤ byt C j ∧ byt C j ≤ 126) → (gd = 0 → ¬ tyC g C mm) → lv_has ls 8 [(0, .ref (ad (98))), (1, .long (iL ((C : Int)))), (3, .int (iI (mm))), (4, .int (iI ((gd : Int)))), (5, .int (iI ((k : Int))))] → W p l e ({ frames := 1, cells := 0, slots := 0, locals := 21 } : Room) s m ([.ref (ad (98)), .long (iL ((C : Int))), .int (iI (mm))]).toArray below meth c H locs 0 0 Q (F0 m 38 ls []) := by
      intro fuel
      induction fuel with
      | zero => intro k gd ls hfuel hk hg1 hgd hch hbad hl; exact absurd hfuel (Nat.not_lt_zero _)
      | succ fuel ih38 =>
        intro k gd ls hfuel hk hg1 hgd hch hbad hl
        refine lv_iload hx hb d_M_type_38 (lv_at hl 4 rfl) ?_
        refine lv_iload_n hx hb d_M_type_40 rfl (lv_at hl 2 rfl) ?_
        refine wz_icmp_ge (tgt := 93) hx hb d_M_type_41 (by decide) (by omega) (by omega) (by omega) (by omega) (fun c41 => ?_) (fun c41 => ?_)
        · have hend : k = mm.toNat := by omega
          refine lv_iload hx hb d_M_type_93 (lv_at hl 3 rfl) ?_
          refine wz_if_ne (tgt := 100) hx hb d_M_type_95 (by decide) (by omega) (by omega) (fun c95 => ?_) (fun c95 => ?_)
          · have hg9 : gd = 1 := by omega
            have htc : tyC g C mm := ⟨(hgd hg9).1, (hgd hg9).2.1, (hgd hg9).2.2, fun j hj => hch hg9 j (by omega)⟩
            have hgd9 := hgd hg9
            refine lv_iload_n hx hb d_M_type_100 rfl (lv_at hl 2 rfl) ?_
            refine wz_iconst (n := 1) hx hb d_M_type_101 ?_
            refine wz_isub (z := (mm.toNat : Int) - 1) hx hb d_M_type_102 (by omega) ?_
            refine lv_istore (lv' := [(5, .int (iI ((mm.toNat : Int) - 1))), (0, .ref (ad (98))), (1, .long (iL ((C : Int)))), (3, .int (iI (mm))), (4, .int (iI ((gd : Int))))]) hx hb d_M_type_103 hl (by decide) rfl (fun ls hl => ?_)
            have K105 : ∀ (fuel : Nat) (kk ln : Nat) (tt9 : Nat → Int32) (F105 : Nat → va_E) (H : Heap) (locs : List Loc) (ls : Array Slot), kk < fuel → (kk ≤ mm.toNat) → (ln + kk = nS g + mm.toNat ∧ nS g ≤ ln) → (∀ i, i < nS g → tt9 i = iI (tS g i : Int)) → (∀ j, nS g ≤ j → j < ln → tt9 j = iI ((byt C (nS g + mm.toNat - 1 - j) : Nat) : Int)) → (frP F F105) → F105 (98) = .inr (6, [.int (iI (0)), .ref (ad (99)), .ref (ad (100)), .ref (ad (101)), .ref (ad (102)), .int (iI ((ln : Int))), .int (iI (pS g)), .ref (ad (103))]) → Rn ty F105 (g) → F105 (102) = .inl (ty 0, 1400, .inl (tt9)) → F105 (103) = .inl (ty 0, 700, .inl (dd)) → pw D classes (tysL ty) ad M F105 (pA ad M s.heap.size) s H locs → lv_has ls 8 [(0, .ref (ad (98))), (1, .long (iL ((C : Int)))), (3, .int (iI (mm))), (5, .int (iI ((kk : Int) - 1)))] → W p l e ({ frames := 1, cells := 0, slots := 0, locals := 21 } : Room) s m ([.ref (ad (98)), .long (iL ((C : Int))), .int (iI (mm))]).toArray below meth c H locs 0 0 Q (F0 m 105 ls []) := by
              intro fuel
              induction fuel with
              | zero => intro kk ln tt9 F105 H locs ls hfuel hkk hln hpre htx hfr hO hRn h102 h103 hw hl; exact absurd hfuel (Nat.not_lt_zero _)
              | succ fuel ih105 =>
                intro kk ln tt9 F105 H locs ls hfuel hkk hln hpre htx hfr hO hRn h102 h103 hw hl
                refine lv_iload hx hb d_M_type_105 (lv_at hl 3 rfl) ?_
                refine wz_if_lt (tgt := 132) hx hb d_M_type_107 (by decide) (by omega) (by omega) (fun c107 => ?_) (fun c107 => ?_)
                · have hkk0 : kk = 0 := by omega
                  subst hkk0
                  refine lv_aload_n hx hb d_M_type_132 rfl (lv_at hl 0 rfl) ?_
                  refine pw_get (ci := 6) (C := R_M) (T := T_M) (N := 8) hx hb hq i_M hown hw (by omega) hO rfl 5 (by decide) (hq _ fl_M_125) (fun _ h9 => h9) rfl d_M_type_133 ?_
                  rw [← hQ]
                  exact pw_iret hx hb hr hlocks hw (by
                    rw [s_type, cif_pos htc]
                    refine ⟨by rw [show (ln : Int) = (nS g : Int) + mm by omega], ⟨?_, hRn, _, _, h102, ?_, h103⟩, hfr⟩
                    · show _ = oM ad 0 ((nS g + mm.toNat : Nat) : Int) (pS g)
                      rw [show nS g + mm.toNat = ln by omega]; exact hO
                    · intro i hi
                      show tt9 i = iI ((tyT (tS g) (nS g) C mm.toNat i : Nat) : Int)
                      have hi9 : i < nS g + mm.toNat := hi
                      unfold tyT
                      by_cases h9 : i < nS g
                      · rw [if_pos h9]; exact hpre i h9
                      · rw [if_neg h9]; exact htx i (by omega) (by omega)) d_M_type_136
                · obtain ⟨k, rfl⟩ : ∃ k, kk = k + 1 := ⟨kk - 1, by omega⟩
                  rw [show ((k + 1 : Nat) : Int) - 1 = (k : Int) by omega] at hl
                  have hbl := byt_lt C k
                  refine lv_aload_n hx hb d_M_type_110 rfl (lv_at hl 0 rfl) ?_
                  refine lv_lload_n hx hb d_M_type_111 rfl (lv_at hl 1 rfl) ?_
                  refine wz_bipush (n := 8) hx hb d_M_type_112 (by decide) ?_
                  refine lv_iload hx hb d_M_type_114 (lv_at hl 3 rfl) ?_
                  refine wz_imul (z := ((8 * k : Nat) : Int)) hx hb d_M_type_116 (by omega) ?_
                  refine lv_lshr (v := iL (C : Int) >>> ((iI ((8 * k : Nat) : Int)).toInt64 &&& 63)) hx hb d_M_type_117 (rfl) ?_
                  refine lv_ldc2 (v := iL (255)) hx hb hown (hq _ cj_M_134) d_M_type_118 ?_
                  refine lv_land hx hb d_M_type_121 ?_
                  refine lv_topl (fun x121 ex121 => ?_)
                  obtain rfl : x121 = iL (((byt C k : Nat) : Int)) := ex121.trans (byt_L hC (by omega))
                  refine wz_l2i hx hb d_M_type_122 ?_
                  refine pw_callv hw (va_runV (As := [.int (iI (((byt C k : Nat) : Int)))]) (rest := []) ⟨hx, hb, hml, hown, hq⟩ (c_M_print l D ty ad M F105 H.size hM (0) (pS g) (ln) (byt C k) _ hO h102 (by omega)) (cwV 1 hq (gV ml_M_128 im_M_print se_M_print in_M m_M_print) rfl rfl rfl (by decide +kernel) ⟨Nat.le_of_ble_eq_true rfl, Nat.le_of_ble_eq_true rfl⟩) (pw_preV hw (by omega) hO rfl) rfl rfl hl.1 rfl (lv_room (Nat.le_of_ble_eq_true rfl)) d_M_type_123 ⟨Nat.le_of_ble_eq_true rfl, Nat.le_of_ble_eq_true rfl⟩) (fun F123 H locs q123 hw => ?_)
                  obtain ⟨u98_123, u102_123, hf123⟩ := q123
                  have hRn_at_123 : Rn ty F123 (g) := hRn.m3 (hf123 (99) (by omega) (by omega)) (hf123 (100) (by omega) (by omega)) (hf123 (101) (by omega) (by omega))
                  have h103_at_123 : F123 (103) = .inl (ty 0, 700, .inl (dd)) := (hf123 (103) (by omega) (by omega)).trans h103
                  refine wz_iinc (z := (k : Int) - 1) (lv' := [(5, .int (iI ((k : Int) - 1))), (0, .ref (ad (98))), (1, .long (iL ((C : Int)))), (3, .int (iI (mm)))]) hx hb d_M_type_126 hl (k := 3) rfl (by omega) (by decide) rfl (fun ls hl => ?_)
                  refine lv_goto (tgt := 105) hx hb d_M_type_129 (by decide) ?_
                  exact ih105 k (ln + 1) (upd tt9 ln (iI ((byt C k : Nat) : Int))) _ _ _ ls (by omega) (by omega) (by omega) (fun i hi => by rw [pk_un (by omega)]; exact hpre i hi) (fun j h1 h2 => by
                    by_cases h9 : j = ln
                    · rw [h9, pk_us, show nS g + mm.toNat - 1 - ln = k by omega]
                    · rw [pk_un h9]; exact htx j h1 (by omega)) (fun y9 h1 => (hf123 (y9) (by omega) (by omega)).trans (hfr y9 h1)) u98_123 hRn_at_123 u102_123 h103_at_123 hw (lv_sub hl [1, 2, 3, 0] rfl)
            exact K105 _ mm.toNat (nS g) tt _ _ _ ls (Nat.lt_succ_self _) (by omega) (by omega) (fun i hi => htt i (by omega)) (fun j h1 h2 => absurd h1 (by omega)) (fun y9 h1 => show F2 (y9) = F (y9) from by rw [eF2]; exact va_up_ne _ _ (by omega)) m2_98 hRn_at_2 h102_at_2 h103_at_2 hw (lv_sub hl [1, 2, 3, 0] rfl)
          · have hbad8 := hbad (by omega)
            refine wz_iconst (n := -1) hx hb d_M_type_98 ?_
            rw [← hQ]
            exact pw_iret hx hb hr hlocks hw (by
              rw [s_type, cif_neg hbad8]
              exact ⟨rfl, Mo.mk' ⟨rfl, rfl, rfl⟩ m2_98 hRn_at_2 h102_at_2 htt h103_at_2, fun y9 h1 => show F2 (y9) = F (y9) from by rw [eF2]; exact va_up_ne _ _ (by omega)⟩) d_M_type_99
        · refine lv_iload hx hb d_M_type_44 (lv_at hl 3 rfl) ?_
          refine wz_if_eq (tgt := 93) hx hb d_M_type_46 (by decide) (by omega) (by omega) (fun c46 => ?_) (fun c46 => ?_)
          · have hg0 : gd = 0 := by omega
            refine lv_iload hx hb d_M_type_93 (lv_at hl 3 rfl) ?_
            refine wz_if_ne (tgt := 100) hx hb d_M_type_95 (by decide) (by omega) (by omega) (fun c95 => ?_) (fun c95 => ?_)
            · have hg9 : gd = 1 := by omega
              have htc : tyC g C mm := ⟨(hgd hg9).1, (hgd hg9).2.1, (hgd hg9).2.2, fun j hj => hch hg9 j (by omega)⟩
              have hgd9 := hgd hg9
              refine lv_iload_n hx hb d_M_type_100 rfl (lv_at hl 2 rfl) ?_
              refine wz_iconst (n := 1) hx hb d_M_type_101 ?_
              refine wz_isub (z := (mm.toNat : Int) - 1) hx hb d_M_type_102 (by omega) ?_
              refine lv_istore (lv' := [(5, .int (iI ((mm.toNat : Int) - 1))), (0, .ref (ad (98))), (1, .long (iL ((C : Int)))), (3, .int (iI (mm))), (4, .int (iI ((gd : Int))))]) hx hb d_M_type_103 hl (by decide) rfl (fun ls hl => ?_)
              have K105 : ∀ (fuel : Nat) (kk ln : Nat) (tt9 : Nat → Int32) (F105 : Nat → va_E) (H : Heap) (locs : List Loc) (ls : Array Slot), kk < fuel → (kk ≤ mm.toNat) → (ln + kk = nS g + mm.toNat ∧ nS g ≤ ln) → (∀ i, i < nS g → tt9 i = iI (tS g i : Int)) → (∀ j, nS g ≤ j → j < ln → tt9 j = iI ((byt C (nS g + mm.toNat - 1 - j) : Nat) : Int)) → (frP F F105) → F105 (98) = .inr (6, [.int (iI (0)), .ref (ad (99)), .ref (ad (100)), .ref (ad (101)), .ref (ad (102)), .int (iI ((ln : Int))), .int (iI (pS g)), .ref (ad (103))]) → Rn ty F105 (g) → F105 (102) = .inl (ty 0, 1400, .inl (tt9)) → F105 (103) = .inl (ty 0, 700, .inl (dd)) → pw D classes (tysL ty) ad M F105 (pA ad M s.heap.size) s H locs → lv_has ls 8 [(0, .ref (ad (98))), (1, .long (iL ((C : Int)))), (3, .int (iI (mm))), (5, .int (iI ((kk : Int) - 1)))] → W p l e ({ frames := 1, cells := 0, slots := 0, locals := 21 } : Room) s m ([.ref (ad (98)), .long (iL ((C : Int))), .int (iI (mm))]).toArray below meth c H locs 0 0 Q (F0 m 105 ls []) := by
                intro fuel
                induction fuel with
                | zero => intro kk ln tt9 F105 H locs ls hfuel hkk hln hpre htx hfr hO hRn h102 h103 hw hl; exact absurd hfuel (Nat.not_lt_zero _)
                | succ fuel ih105 =>
                  intro kk ln tt9 F105 H locs ls hfuel hkk hln hpre htx hfr hO hRn h102 h103 hw hl
                  refine lv_iload hx hb d_M_type_105 (lv_at hl 3 rfl) ?_
                  refine wz_if_lt (tgt := 132) hx hb d_M_type_107 (by decide) (by omega) (by omega) (fun c107 => ?_) (fun c107 => ?_)
                  · have hkk0 : kk = 0 := by omega
                    subst hkk0
                    refine lv_aload_n hx hb d_M_type_132 rfl (lv_at hl 0 rfl) ?_
                    refine pw_get (ci := 6) (C := R_M) (T := T_M) (N := 8) hx hb hq i_M hown hw (by omega) hO rfl 5 (by decide) (hq _ fl_M_125) (fun _ h9 => h9) rfl d_M_type_133 ?_
                    rw [← hQ]
                    exact pw_iret hx hb hr hlocks hw (by
                      rw [s_type, cif_pos htc]
                      refine ⟨by rw [show (ln : Int) = (nS g : Int) + mm by omega], ⟨?_, hRn, _, _, h102, ?_, h103⟩, hfr⟩
                      · show _ = oM ad 0 ((nS g + mm.toNat : Nat) : Int) (pS g)
                        rw [show nS g + mm.toNat = ln by omega]; exact hO
                      · intro i hi
                        show tt9 i = iI ((tyT (tS g) (nS g) C mm.toNat i : Nat) : Int)
                        have hi9 : i < nS g + mm.toNat := hi
                        unfold tyT
                        by_cases h9 : i < nS g
                        · rw [if_pos h9]; exact hpre i h9
                        · rw [if_neg h9]; exact htx i (by omega) (by omega)) d_M_type_136
                  · obtain ⟨k, rfl⟩ : ∃ k, kk = k + 1 := ⟨kk - 1, by omega⟩
                    rw [show ((k + 1 : Nat) : Int) - 1 = (k : Int) by omega] at hl
                    have hbl := byt_lt C k
                    refine lv_aload_n hx hb d_M_type_110 rfl (lv_at hl 0 rfl) ?_
                    refine lv_lload_n hx hb d_M_type_111 rfl (lv_at hl 1 rfl) ?_
                    refine wz_bipush (n := 8) hx hb d_M_type_112 (by decide) ?_
                    refine lv_iload hx hb d_M_type_114 (lv_at hl 3 rfl) ?_
                    refine wz_imul (z := ((8 * k : Nat) : Int)) hx hb d_M_type_116 (by omega) ?_
                    refine lv_lshr (v := iL (C : Int) >>> ((iI ((8 * k : Nat) : Int)).toInt64 &&& 63)) hx hb d_M_type_117 (rfl) ?_
                    refine lv_ldc2 (v := iL (255)) hx hb hown (hq _ cj_M_134) d_M_type_118 ?_
                    refine lv_land hx hb d_M_type_121 ?_
                    refine lv_topl (fun x121 ex121 => ?_)
                    obtain rfl : x121 = iL (((byt C k : Nat) : Int)) := ex121.trans (byt_L hC (by omega))
                    refine wz_l2i hx hb d_M_type_122 ?_
                    refine pw_callv hw (va_runV (As := [.int (iI (((byt C k : Nat) : Int)))]) (rest := []) ⟨hx, hb, hml, hown, hq⟩ (c_M_print l D ty ad M F105 H.size hM (0) (pS g) (ln) (byt C k) _ hO h102 (by omega)) (cwV 1 hq (gV ml_M_128 im_M_print se_M_print in_M m_M_print) rfl rfl rfl (by decide +kernel) ⟨Nat.le_of_ble_eq_true rfl, Nat.le_of_ble_eq_true rfl⟩) (pw_preV hw (by omega) hO rfl) rfl rfl hl.1 rfl (lv_room (Nat.le_of_ble_eq_true rfl)) d_M_type_123 ⟨Nat.le_of_ble_eq_true rfl, Nat.le_of_ble_eq_true rfl⟩) (fun F123 H locs q123 hw => ?_)
                    obtain ⟨u98_123, u102_123, hf123⟩ := q123
                    have hRn_at_123 : Rn ty F123 (g) := hRn.m3 (hf123 (99) (by omega) (by omega)) (hf123 (100) (by omega) (by omega)) (hf123 (101) (by omega) (by omega))
                    have h103_at_123 : F123 (103) = .inl (ty 0, 700, .inl (dd)) := (hf123 (103) (by omega) (by omega)).trans h103
                    refine wz_iinc (z := (k : Int) - 1) (lv' := [(5, .int (iI ((k : Int) - 1))), (0, .ref (ad (98))), (1, .long (iL ((C : Int)))), (3, .int (iI (mm)))]) hx hb d_M_type_126 hl (k := 3) rfl (by omega) (by decide) rfl (fun ls hl => ?_)
                    refine lv_goto (tgt := 105) hx hb d_M_type_129 (by decide) ?_
                    exact ih105 k (ln + 1) (upd tt9 ln (iI ((byt C k : Nat) : Int))) _ _ _ ls (by omega) (by omega) (by omega) (fun i hi => by rw [pk_un (by omega)]; exact hpre i hi) (fun j h1 h2 => by
                      by_cases h9 : j = ln
                      · rw [h9, pk_us, show nS g + mm.toNat - 1 - ln = k by omega]
                      · rw [pk_un h9]; exact htx j h1 (by omega)) (fun y9 h1 => (hf123 (y9) (by omega) (by omega)).trans (hfr y9 h1)) u98_123 hRn_at_123 u102_123 h103_at_123 hw (lv_sub hl [1, 2, 3, 0] rfl)
              exact K105 _ mm.toNat (nS g) tt _ _ _ ls (Nat.lt_succ_self _) (by omega) (by omega) (fun i hi => htt i (by omega)) (fun j h1 h2 => absurd h1 (by omega)) (fun y9 h1 => show F2 (y9) = F (y9) from by rw [eF2]; exact va_up_ne _ _ (by omega)) m2_98 hRn_at_2 h102_at_2 h103_at_2 hw (lv_sub hl [1, 2, 3, 0] rfl)
            · have hbad8 := hbad (by omega)
              refine wz_iconst (n := -1) hx hb d_M_type_98 ?_
              rw [← hQ]
              exact pw_iret hx hb hr hlocks hw (by
                rw [s_type, cif_neg hbad8]
                exact ⟨rfl, Mo.mk' ⟨rfl, rfl, rfl⟩ m2_98 hRn_at_2 h102_at_2 htt h103_at_2, fun y9 h1 => show F2 (y9) = F (y9) from by rw [eF2]; exact va_up_ne _ _ (by omega)⟩) d_M_type_99
          · have hgd9 := hgd (by omega)
            refine lv_lload_n hx hb d_M_type_49 rfl (lv_at hl 1 rfl) ?_
            refine wz_bipush (n := 8) hx hb d_M_type_50 (by decide) ?_
            refine lv_iload hx hb d_M_type_52 (lv_at hl 4 rfl) ?_
            refine wz_imul (z := ((8 * k : Nat) : Int)) hx hb d_M_type_54 (by omega) ?_
            refine lv_lshr (v := iL (C : Int) >>> ((iI ((8 * k : Nat) : Int)).toInt64 &&& 63)) hx hb d_M_type_55 (rfl) ?_
            refine lv_ldc2 (v := iL (255)) hx hb hown (hq _ cj_M_134) d_M_type_56 ?_
            refine lv_land hx hb d_M_type_59 ?_
            refine lv_topl (fun x59 ex59 => ?_)
            obtain rfl : x59 = iL (((byt C k : Nat) : Int)) := ex59.trans (byt_L hC (by omega))
            have hbl := byt_lt C k
            refine lv_lstore (lv' := [(6, .long (iL (((byt C k : Nat) : Int)))), (0, .ref (ad (98))), (1, .long (iL ((C : Int)))), (3, .int (iI (mm))), (4, .int (iI ((gd : Int)))), (5, .int (iI ((k : Int))))]) hx hb d_M_type_60 hl (by decide) rfl (fun ls hl => ?_)
            refine lv_lload hx hb d_M_type_62 (lv_at hl 0 rfl) ?_
            refine lv_ldc2 (v := iL (32)) hx hb hown (hq _ cj_M_136) d_M_type_64 ?_
            refine wz_lcmp_lt (tgt := 84) hx hb d_M_type_67 d_M_type_68 (by decide) (by omega) (by omega) (by omega) (by omega) (fun c67 => ?_) (fun c67 => ?_)
            · have hbad9 : ¬ tyC g C mm := fun h9 => by have := h9.2.2.2 k (by omega); omega
              refine wz_iconst (n := 0) hx hb d_M_type_84 ?_
              refine lv_istore (lv' := [(4, .int (iI (0))), (6, .long (iL (((byt C k : Nat) : Int)))), (0, .ref (ad (98))), (1, .long (iL ((C : Int)))), (3, .int (iI (mm))), (5, .int (iI ((k : Int))))]) hx hb d_M_type_85 hl (by decide) rfl (fun ls hl => ?_)
              refine wz_iinc (z := ((k + 1 : Nat) : Int)) (lv' := [(5, .int (iI (((k + 1 : Nat) : Int)))), (4, .int (iI (0))), (6, .long (iL (((byt C k : Nat) : Int)))), (0, .ref (ad (98))), (1, .long (iL ((C : Int)))), (3, .int (iI (mm)))]) hx hb d_M_type_87 hl (k := 5) rfl (by omega) (by decide) rfl (fun ls hl => ?_)
              refine lv_goto (tgt := 38) hx hb d_M_type_90 (by decide) ?_
              exact ih38 (k + 1) 0 ls (by omega) (by omega) (by omega) (fun _ => hgd (by omega)) (fun h9 => absurd h9 (by decide)) (fun _ => hbad9) (lv_sub hl [3, 4, 5, 1, 0] rfl)
            · refine lv_lload hx hb d_M_type_71 (lv_at hl 0 rfl) ?_
              refine lv_ldc2 (v := iL (126)) hx hb hown (hq _ cj_M_138) d_M_type_73 ?_
              refine wz_lcmp_gt (tgt := 84) hx hb d_M_type_76 d_M_type_77 (by decide) (by omega) (by omega) (by omega) (by omega) (fun c76 => ?_) (fun c76 => ?_)
              · have hbad9 : ¬ tyC g C mm := fun h9 => by have := h9.2.2.2 k (by omega); omega
                refine wz_iconst (n := 0) hx hb d_M_type_84 ?_
                refine lv_istore (lv' := [(4, .int (iI (0))), (6, .long (iL (((byt C k : Nat) : Int)))), (0, .ref (ad (98))), (1, .long (iL ((C : Int)))), (3, .int (iI (mm))), (5, .int (iI ((k : Int))))]) hx hb d_M_type_85 hl (by decide) rfl (fun ls hl => ?_)
                refine wz_iinc (z := ((k + 1 : Nat) : Int)) (lv' := [(5, .int (iI (((k + 1 : Nat) : Int)))), (4, .int (iI (0))), (6, .long (iL (((byt C k : Nat) : Int)))), (0, .ref (ad (98))), (1, .long (iL ((C : Int)))), (3, .int (iI (mm)))]) hx hb d_M_type_87 hl (k := 5) rfl (by omega) (by decide) rfl (fun ls hl => ?_)
                refine lv_goto (tgt := 38) hx hb d_M_type_90 (by decide) ?_
                exact ih38 (k + 1) 0 ls (by omega) (by omega) (by omega) (fun _ => hgd (by omega)) (fun h9 => absurd h9 (by decide)) (fun _ => hbad9) (lv_sub hl [3, 4, 5, 1, 0] rfl)
              · refine wz_iconst (n := 1) hx hb d_M_type_80 ?_
                refine lv_goto (tgt := 85) hx hb d_M_type_81 (by decide) ?_
                refine lv_istore (lv' := [(4, .int (iI (1))), (6, .long (iL (((byt C k : Nat) : Int)))), (0, .ref (ad (98))), (1, .long (iL ((C : Int)))), (3, .int (iI (mm))), (5, .int (iI ((k : Int))))]) hx hb d_M_type_85 hl (by decide) rfl (fun ls hl => ?_)
                refine wz_iinc (z := ((k + 1 : Nat) : Int)) (lv' := [(5, .int (iI (((k + 1 : Nat) : Int)))), (4, .int (iI (1))), (6, .long (iL (((byt C k : Nat) : Int)))), (0, .ref (ad (98))), (1, .long (iL ((C : Int)))), (3, .int (iI (mm)))]) hx hb d_M_type_87 hl (k := 5) rfl (by omega) (by decide) rfl (fun ls hl => ?_)
                refine lv_goto (tgt := 38) hx hb d_M_type_90 (by decide) ?_
                exact ih38 (k + 1) 1 ls (by omega) (by omega) (by omega) (fun _ => hgd (by omega)) (fun h9 j hj => by
                  by_cases h8 : j = k
                  · rw [h8]; omega
                  · exact hch (by omega) j (by omega)) (fun h9 => absurd h9 (by decide)) (lv_sub hl [3, 4, 5, 1, 0] rfl)
    refine lv_iload_n hx hb d_M_type_5 rfl (lv_at hl 2 rfl) ?_
    refine wz_iconst (n := 1) hx hb d_M_type_6 ?_
    refine wz_icmp_lt (tgt := 32) hx hb d_M_type_7 (by decide) (by omega) (by omega) (by omega) (by omega) (fun c7 => ?_) (fun c7 => ?_)
    · refine wz_iconst (n := 0) hx hb d_M_type_32 ?_
      refine lv_istore (lv' := [(4, .int (iI (0))), (0, .ref (ad (98))), (1, .long (iL ((C : Int)))), (3, .int (iI (mm)))]) hx hb d_M_type_33 hl (by decide) rfl (fun ls hl => ?_)
      refine wz_iconst (n := 0) hx hb d_M_type_35 ?_
      refine lv_istore (lv' := [(5, .int (iI (0))), (4, .int (iI (0))), (0, .ref (ad (98))), (1, .long (iL ((C : Int)))), (3, .int (iI (mm)))]) hx hb d_M_type_36 hl (by decide) rfl (fun ls hl => ?_)
      exact K38 _ 0 0 ls (Nat.lt_succ_self _) (by omega) (by omega) (fun h9 => absurd h9 (by decide)) (fun h9 k hk => absurd hk (by omega)) (fun _ h9 => by have := h9.1; have := h9.2.1; have := h9.2.2.1; omega) (lv_sub hl [2, 3, 4, 1, 0] rfl)
    · refine lv_iload_n hx hb d_M_type_10 rfl (lv_at hl 2 rfl) ?_
      refine wz_bipush (n := 8) hx hb d_M_type_11 (by decide) ?_
      refine wz_icmp_gt (tgt := 32) hx hb d_M_type_13 (by decide) (by omega) (by omega) (by omega) (by omega) (fun c13 => ?_) (fun c13 => ?_)
      · refine wz_iconst (n := 0) hx hb d_M_type_32 ?_
        refine lv_istore (lv' := [(4, .int (iI (0))), (0, .ref (ad (98))), (1, .long (iL ((C : Int)))), (3, .int (iI (mm)))]) hx hb d_M_type_33 hl (by decide) rfl (fun ls hl => ?_)
        refine wz_iconst (n := 0) hx hb d_M_type_35 ?_
        refine lv_istore (lv' := [(5, .int (iI (0))), (4, .int (iI (0))), (0, .ref (ad (98))), (1, .long (iL ((C : Int)))), (3, .int (iI (mm)))]) hx hb d_M_type_36 hl (by decide) rfl (fun ls hl => ?_)
        exact K38 _ 0 0 ls (Nat.lt_succ_self _) (by omega) (by omega) (fun h9 => absurd h9 (by decide)) (fun h9 k hk => absurd hk (by omega)) (fun _ h9 => by have := h9.1; have := h9.2.1; have := h9.2.2.1; omega) (lv_sub hl [2, 3, 4, 1, 0] rfl)
      · refine lv_aload_n hx hb d_M_type_16 rfl (lv_at hl 0 rfl) ?_
        refine pw_get (ci := 6) (C := R_M) (T := T_M) (N := 8) hx hb hq i_M hown hw (by omega) m2_98 rfl 5 (by decide) (hq _ fl_M_125) (fun _ h9 => h9) rfl d_M_type_17 ?_
        refine lv_iload_n hx hb d_M_type_20 rfl (lv_at hl 2 rfl) ?_
        refine wz_iadd hx hb d_M_type_21 rfl ?_
        refine wz_sipush (n := 1400) hx hb d_M_type_22 (by decide) ?_
        refine wz_icmp_gt (tgt := 32) hx hb d_M_type_25 (by decide) (by omega) (by omega) (by omega) (by omega) (fun c25 => ?_) (fun c25 => ?_)
        · refine wz_iconst (n := 0) hx hb d_M_type_32 ?_
          refine lv_istore (lv' := [(4, .int (iI (0))), (0, .ref (ad (98))), (1, .long (iL ((C : Int)))), (3, .int (iI (mm)))]) hx hb d_M_type_33 hl (by decide) rfl (fun ls hl => ?_)
          refine wz_iconst (n := 0) hx hb d_M_type_35 ?_
          refine lv_istore (lv' := [(5, .int (iI (0))), (4, .int (iI (0))), (0, .ref (ad (98))), (1, .long (iL ((C : Int)))), (3, .int (iI (mm)))]) hx hb d_M_type_36 hl (by decide) rfl (fun ls hl => ?_)
          exact K38 _ 0 0 ls (Nat.lt_succ_self _) (by omega) (by omega) (fun h9 => absurd h9 (by decide)) (fun h9 k hk => absurd hk (by omega)) (fun _ h9 => by have := h9.1; have := h9.2.1; have := h9.2.2.1; omega) (lv_sub hl [2, 3, 4, 1, 0] rfl)
        · refine wz_iconst (n := 1) hx hb d_M_type_28 ?_
          refine lv_goto (tgt := 33) hx hb d_M_type_29 (by decide) ?_
          refine lv_istore (lv' := [(4, .int (iI (1))), (0, .ref (ad (98))), (1, .long (iL ((C : Int)))), (3, .int (iI (mm)))]) hx hb d_M_type_33 hl (by decide) rfl (fun ls hl => ?_)
          refine wz_iconst (n := 0) hx hb d_M_type_35 ?_
          refine lv_istore (lv' := [(5, .int (iI (0))), (4, .int (iI (1))), (0, .ref (ad (98))), (1, .long (iL ((C : Int)))), (3, .int (iI (mm)))]) hx hb d_M_type_36 hl (by decide) rfl (fun ls hl => ?_)
          exact K38 _ 0 1 ls (Nat.lt_succ_self _) (by omega) (by omega) (fun h9 => ⟨by omega, by omega, by omega⟩) (fun h9 k hk => absurd hk (by omega)) (fun h9 => absurd h9 (by decide)) (lv_sub hl [2, 3, 4, 1, 0] rfl)
  rw [hH, hlo] at hgo
  exact hgo
