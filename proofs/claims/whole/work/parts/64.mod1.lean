/-! the reference: thrown, trim: by program -/
set_option maxHeartbeats 4000000 in
set_option maxRecDepth 100000 in
/-- thrown() -/
theorem c_M_thrown (l : Launch) (D : va_G) (ty : Nat → ClassId) (ad : Nat → Nat) (M : Nat) (F : Nat → va_E) (sz : Nat) (hM : 103 < M) (co ln wr : Int) (hO : F 98 = oM ad co ln wr) :
    CI l y_M_thrown w_M_thrown ({ frames := 0, cells := 0, slots := 0, locals := 0 } : Room) [.ref (ad (98))] D ty ad M F sz (fun r F1 => r = iI co ∧ F1 = F) := by
  refine Met.ofW (cc := b_M_thrown) (maxL := 1) (ret := (some .int)) (by decide) rfl ?_
  intro p e s m args below meth c s₁ B hml hv
  obtain ⟨rfl, hsz, hP, hK, hD0⟩ := hv
  have hx := B.exec
  have hb := B.bytes
  have hr := B.returns
  have hts := atoms_spec (ws := w_M_thrown) B.pre
  have hq : ∀ w ∈ wT, w.before _ s = true := fun w h => hts w (List.mem_cons_of_mem _ h)
  have hown : s.vm.findClass R_M = some m.cls := findClass_of_methodNamed B.named
  have hlocks := B.notSynchronized
  subst hsz
  have hw := pw_start hP hK hD0
  have hl := lv_entry ([.ref (ad (98))]) (n := 1) (Nat.le_of_ble_eq_true rfl)
  rw [lg_entry_eq]
  generalize (lg_sl ([.ref (ad (98))]) ++ List.replicate (1 - (lg_sl ([.ref (ad (98))])).length) Slot.unset).toArray = ls at hl ⊢
  have hl : lv_has ls 1 [(0, .ref (ad (98)))] := hl
  change W p l e ({ frames := 0, cells := 0, slots := 0, locals := 0 } : Room) s m ([.ref (ad (98))]).toArray below meth c s.heap [] 0 0 (MQ below (va_Qi (fun r F1 => r = iI co ∧ F1 = F) (pAt D classes (tysL ty) ad M (pA ad M s.heap.size)) (pA ad M s.heap.size)) ([.ref (ad (98))]).toArray s 0 0 (pA ad M s.heap.size)) (F0 m 0 ls [])
  generalize hQ : MQ below (va_Qi (fun r F1 => r = iI co ∧ F1 = F) (pAt D classes (tysL ty) ad M (pA ad M s.heap.size)) (pA ad M s.heap.size)) ([.ref (ad (98))]).toArray s 0 0 (pA ad M s.heap.size) = Q
  obtain ⟨H, hH⟩ : ∃ H, H = s.heap := ⟨_, rfl⟩
  obtain ⟨locs, hlo⟩ : ∃ z : List Loc, z = [] := ⟨_, rfl⟩
  have hw : pw D classes (tysL ty) ad M F (pA ad M s.heap.size) s H locs := by rw [hH, hlo]; exact hw
  have hgo : W p l e ({ frames := 0, cells := 0, slots := 0, locals := 0 } : Room) s m ([.ref (ad (98))]).toArray below meth c H locs 0 0 Q (F0 m 0 ls []) := by
    refine lv_aload_n hx hb d_M_thrown_0 rfl (lv_at hl 0 rfl) ?_
    refine pw_get (ci := 6) (C := R_M) (T := T_M) (N := 8) hx hb hq i_M hown hw (by omega) hO rfl 0 (by decide) (hq _ fl_M_34) (fun _ h9 => h9) rfl d_M_thrown_1 ?_
    rw [← hQ]
    exact pw_iret hx hb hr hlocks hw (⟨rfl, rfl⟩) d_M_thrown_4
  rw [hH, hlo] at hgo
  exact hgo
set_option maxHeartbeats 4000000 in
set_option maxRecDepth 100000 in
/-- trim(a) -/
theorem c_M_trim (l : Launch) (D : va_G) (ty : Nat → ClassId) (ad : Nat → Nat) (M : Nat) (F : Nat → va_E) (sz : Nat) (hM : 103 < M) (co ln wr : Int) (hO : F 98 = oM ad co ln wr) (P S G : Nat → Int32) (hMA : MA ty F P S G) (a n0 : Nat) (ha : a < 43) (hS : S a = iI n0) (hn : n0 ≤ 300) (hD : Dg P a n0) :
    CV l y_M_trim w_M_trim ({ frames := 0, cells := 0, slots := 0, locals := 0 } : Room) [.ref (ad (98)), .int (iI ((a : Int)))] D ty ad M F sz (fun F1 => ∃ S' B', MA ty F1 P S' B' ∧ Mg P S' a (bvP P a n0) ∧ B' a = (if bvP P a n0 = 0 then iI 0 else tg (G a)) ∧ (∀ c, c ≠ a → S' c = S c ∧ B' c = G c) ∧ frM F F1) := by
  refine Met.ofW (cc := b_M_trim) (maxL := 2) (ret := none) (by decide) rfl ?_
  intro p e s m args below meth c s₁ B hml hv
  obtain ⟨rfl, hsz, hP, hK, hD0⟩ := hv
  have hx := B.exec
  have hb := B.bytes
  have hr := B.returns
  have hts := atoms_spec (ws := w_M_trim) B.pre
  have hq : ∀ w ∈ wT, w.before _ s = true := fun w h => hts w (List.mem_cons_of_mem _ h)
  have hown : s.vm.findClass R_M = some m.cls := findClass_of_methodNamed B.named
  have hlocks := B.notSynchronized
  subst hsz
  have hw := pw_start hP hK hD0
  have hl := lv_entry ([.ref (ad (98)), .int (iI ((a : Int)))]) (n := 2) (Nat.le_of_ble_eq_true rfl)
  rw [lg_entry_eq]
  generalize (lg_sl ([.ref (ad (98)), .int (iI ((a : Int)))]) ++ List.replicate (2 - (lg_sl ([.ref (ad (98)), .int (iI ((a : Int)))])).length) Slot.unset).toArray = ls at hl ⊢
  have hl : lv_has ls 2 [(0, .ref (ad (98))), (1, .int (iI ((a : Int))))] := hl
  change W p l e ({ frames := 0, cells := 0, slots := 0, locals := 0 } : Room) s m ([.ref (ad (98)), .int (iI ((a : Int)))]).toArray below meth c s.heap [] 0 0 (MQ below (va_Qv (fun F1 => ∃ S' B', MA ty F1 P S' B' ∧ Mg P S' a (bvP P a n0) ∧ B' a = (if bvP P a n0 = 0 then iI 0 else tg (G a)) ∧ (∀ c, c ≠ a → S' c = S c ∧ B' c = G c) ∧ frM F F1) (pAt D classes (tysL ty) ad M (pA ad M s.heap.size)) (pA ad M s.heap.size)) ([.ref (ad (98)), .int (iI ((a : Int)))]).toArray s 0 0 (pA ad M s.heap.size)) (F0 m 0 ls [])
  generalize hQ : MQ below (va_Qv (fun F1 => ∃ S' B', MA ty F1 P S' B' ∧ Mg P S' a (bvP P a n0) ∧ B' a = (if bvP P a n0 = 0 then iI 0 else tg (G a)) ∧ (∀ c, c ≠ a → S' c = S c ∧ B' c = G c) ∧ frM F F1) (pAt D classes (tysL ty) ad M (pA ad M s.heap.size)) (pA ad M s.heap.size)) ([.ref (ad (98)), .int (iI ((a : Int)))]).toArray s 0 0 (pA ad M s.heap.size) = Q
  obtain ⟨H, hH⟩ : ∃ H, H = s.heap := ⟨_, rfl⟩
  obtain ⟨locs, hlo⟩ : ∃ z : List Loc, z = [] := ⟨_, rfl⟩
  have hw : pw D classes (tysL ty) ad M F (pA ad M s.heap.size) s H locs := by rw [hH, hlo]; exact hw
  have hgo : W p l e ({ frames := 0, cells := 0, slots := 0, locals := 0 } : Room) s m ([.ref (ad (98)), .int (iI ((a : Int)))]).toArray below meth c H locs 0 0 Q (F0 m 0 ls []) := by
    obtain ⟨h99, h100, h101⟩ := id hMA
    have K0 : ∀ (fuel : Nat) (n : Nat) (S9 : Nat → Int32) (F00 : Nat → va_E) (H : Heap) (locs : List Loc) (ls : Array Slot), n < fuel → (S9 a = iI n) → (n ≤ n0) → (bvP P a n = bvP P a n0) → (∀ c, c ≠ a → S9 c = S c) → (∀ y, y ≠ 100 → F00 y = F y) → F00 (98) = .inr (6, [.int (iI (co)), .ref (ad (99)), .ref (ad (100)), .ref (ad (101)), .ref (ad (102)), .int (iI (ln)), .int (iI (wr)), .ref (ad (103))]) → F00 (99) = .inl (ty 0, 12900, .inl (P)) → F00 (100) = .inl (ty 0, 43, .inl (S9)) → F00 (101) = .inl (ty 4, 43, .inl (G)) → pw D classes (tysL ty) ad M F00 (pA ad M s.heap.size) s H locs → lv_has ls 2 [(0, .ref (ad (98))), (1, .int (iI ((a : Int))))] → W p l e ({ frames := 0, cells := 0, slots := 0, locals := 0 } : Room) s m ([.ref (ad (98)), .int (iI ((a : Int)))]).toArray below meth c H locs 0 0 Q (F0 m 0 ls []) := by
      intro fuel
      induction fuel with
      | zero => intro n S9 F00 H locs ls hfuel hSn hnn hbv hSo hfr hO h99 h100 h101 hw hl; exact absurd hfuel (Nat.not_lt_zero _)
      | succ fuel ih0 =>
        intro n S9 F00 H locs ls hfuel hSn hnn hbv hSo hfr hO h99 h100 h101 hw hl
        refine lv_aload_n hx hb d_M_trim_0 rfl (lv_at hl 0 rfl) ?_
        refine pw_get (ci := 6) (C := R_M) (T := T_M) (N := 8) hx hb hq i_M hown hw (by omega) hO rfl 2 (by decide) (hq _ fl_M_13) (fun _ h9 => h9) rfl d_M_trim_1 ?_
        refine lv_iload_n hx hb d_M_trim_4 rfl (lv_at hl 1 rfl) ?_
        refine pw_iald (k := a) hx hb hw 0 (by omega) h100 rfl (iI_in (by omega) (by omega) (by omega)) ((iI_cl (by omega) (by omega)).trans (by omega)) d_M_trim_5 ?_
        refine lv_topi (fun x5 ex5 => ?_)
        obtain rfl : x5 = iI ((n : Int)) := ex5.trans (hSn)
        refine wz_if_le (tgt := 44) hx hb d_M_trim_6 (by decide) (by omega) (by omega) (fun c6 => ?_) (fun c6 => ?_)
        · have hnz : n = 0 ∨ dl P (300 * a + (n - 1)) ≠ 0 := by omega
          have hvz := bvP_z hnz
          rw [hbv] at hvz
          refine lv_aload_n hx hb d_M_trim_44 rfl (lv_at hl 0 rfl) ?_
          refine pw_get (ci := 6) (C := R_M) (T := T_M) (N := 8) hx hb hq i_M hown hw (by omega) hO rfl 3 (by decide) (hq _ fl_M_16) (fun _ h9 => h9) rfl d_M_trim_45 ?_
          refine lv_iload_n hx hb d_M_trim_48 rfl (lv_at hl 1 rfl) ?_
          refine lv_aload_n hx hb d_M_trim_49 rfl (lv_at hl 0 rfl) ?_
          refine pw_get (ci := 6) (C := R_M) (T := T_M) (N := 8) hx hb hq i_M hown hw (by omega) hO rfl 3 (by decide) (hq _ fl_M_16) (fun _ h9 => h9) rfl d_M_trim_50 ?_
          refine lv_iload_n hx hb d_M_trim_53 rfl (lv_at hl 1 rfl) ?_
          refine pw_zald (k := a) hx hb hw 4 (by omega) h101 rfl (iI_in (by omega) (by omega) (by omega)) ((iI_cl (by omega) (by omega)).trans (by omega)) d_M_trim_54 ?_
          refine lv_topi (fun b54 eb54 => ?_)
          refine lv_if_eq (tgt := 71) hx hb d_M_trim_55 (by decide) (fun c55 => ?_) (fun c55 => ?_)
          · have hB9 : G a = iI 0 := eb54.symm.trans c55
            refine wz_iconst (n := 0) hx hb d_M_trim_71 ?_
            refine pw_zast (k := a) hx hb hw 4 (by omega) h101 rfl (iI_in (by omega) (by omega) (by omega)) ((iI_cl (by omega) (by omega)).trans (by omega)) (y := iI (0)) (by decide) d_M_trim_72 (fun F72 H locs eF72 hw => ?_)
            obtain ⟨B9, eB9⟩ : ∃ z9, z9 = upd G (a) (iI (0)) := ⟨_, rfl⟩
            rw [← eB9] at eF72
            have m72_101 : F72 (101) = .inl (ty 4, 43, .inl (B9)) := by rw [eF72]; exact va_up_self ..
            have hO_at_72 : F72 (98) = .inr (6, [.int (iI (co)), .ref (ad (99)), .ref (ad (100)), .ref (ad (101)), .ref (ad (102)), .int (iI (ln)), .int (iI (wr)), .ref (ad (103))]) := (show F72 (98) = F00 (98) from by rw [eF72]; exact va_up_ne _ _ (by omega)).trans hO
            have h99_at_72 : F72 (99) = .inl (ty 0, 12900, .inl (P)) := (show F72 (99) = F00 (99) from by rw [eF72]; exact va_up_ne _ _ (by omega)).trans h99
            have h100_at_72 : F72 (100) = .inl (ty 0, 43, .inl (S9)) := (show F72 (100) = F00 (100) from by rw [eF72]; exact va_up_ne _ _ (by omega)).trans h100
            rw [← hQ]
            exact pw_vret hx hb hr hlocks hw (⟨S9, B9, ⟨h99_at_72, h100_at_72, m72_101⟩, ⟨n, hSn, by omega, fun i hi => hD i (by omega), hnz, hbv⟩, by
              rw [eB9, pk_us]
              split
              · rfl
              · rw [tg, if_pos hB9], fun c9 h9 => ⟨hSo c9 h9, by rw [eB9, pk_un h9]⟩, fun y9 h1 h2 h3 => (show F72 (y9) = F00 (y9) from by rw [eF72]; exact va_up_ne _ _ (by omega)).trans (hfr y9 h2)⟩) d_M_trim_73
          · have hB9 : G a ≠ iI 0 := fun h9 => c55 (eb54.trans h9)
            refine lv_aload_n hx hb d_M_trim_58 rfl (lv_at hl 0 rfl) ?_
            refine pw_get (ci := 6) (C := R_M) (T := T_M) (N := 8) hx hb hq i_M hown hw (by omega) hO rfl 2 (by decide) (hq _ fl_M_13) (fun _ h9 => h9) rfl d_M_trim_59 ?_
            refine lv_iload_n hx hb d_M_trim_62 rfl (lv_at hl 1 rfl) ?_
            refine pw_iald (k := a) hx hb hw 0 (by omega) h100 rfl (iI_in (by omega) (by omega) (by omega)) ((iI_cl (by omega) (by omega)).trans (by omega)) d_M_trim_63 ?_
            refine lv_topi (fun x63 ex63 => ?_)
            obtain rfl : x63 = iI ((n : Int)) := ex63.trans (hSn)
            refine wz_if_le (tgt := 71) hx hb d_M_trim_64 (by decide) (by omega) (by omega) (fun c64 => ?_) (fun c64 => ?_)
            · refine wz_iconst (n := 0) hx hb d_M_trim_71 ?_
              refine pw_zast (k := a) hx hb hw 4 (by omega) h101 rfl (iI_in (by omega) (by omega) (by omega)) ((iI_cl (by omega) (by omega)).trans (by omega)) (y := iI (0)) (by decide) d_M_trim_72 (fun F72 H locs eF72 hw => ?_)
              obtain ⟨B9, eB9⟩ : ∃ z9, z9 = upd G (a) (iI (0)) := ⟨_, rfl⟩
              rw [← eB9] at eF72
              have m72_101 : F72 (101) = .inl (ty 4, 43, .inl (B9)) := by rw [eF72]; exact va_up_self ..
              have hO_at_72 : F72 (98) = .inr (6, [.int (iI (co)), .ref (ad (99)), .ref (ad (100)), .ref (ad (101)), .ref (ad (102)), .int (iI (ln)), .int (iI (wr)), .ref (ad (103))]) := (show F72 (98) = F00 (98) from by rw [eF72]; exact va_up_ne _ _ (by omega)).trans hO
              have h99_at_72 : F72 (99) = .inl (ty 0, 12900, .inl (P)) := (show F72 (99) = F00 (99) from by rw [eF72]; exact va_up_ne _ _ (by omega)).trans h99
              have h100_at_72 : F72 (100) = .inl (ty 0, 43, .inl (S9)) := (show F72 (100) = F00 (100) from by rw [eF72]; exact va_up_ne _ _ (by omega)).trans h100
              rw [← hQ]
              exact pw_vret hx hb hr hlocks hw (⟨S9, B9, ⟨h99_at_72, h100_at_72, m72_101⟩, ⟨n, hSn, by omega, fun i hi => hD i (by omega), hnz, hbv⟩, by
                rw [eB9, pk_us]
                rw [if_pos (hvz.mpr (by omega))], fun c9 h9 => ⟨hSo c9 h9, by rw [eB9, pk_un h9]⟩, fun y9 h1 h2 h3 => (show F72 (y9) = F00 (y9) from by rw [eF72]; exact va_up_ne _ _ (by omega)).trans (hfr y9 h2)⟩) d_M_trim_73
            · refine wz_iconst (n := 1) hx hb d_M_trim_67 ?_
              refine lv_goto (tgt := 72) hx hb d_M_trim_68 (by decide) ?_
              refine pw_zast (k := a) hx hb hw 4 (by omega) h101 rfl (iI_in (by omega) (by omega) (by omega)) ((iI_cl (by omega) (by omega)).trans (by omega)) (y := iI (1)) (by decide) d_M_trim_72 (fun F72 H locs eF72 hw => ?_)
              obtain ⟨B9, eB9⟩ : ∃ z9, z9 = upd G (a) (iI (1)) := ⟨_, rfl⟩
              rw [← eB9] at eF72
              have m72_101 : F72 (101) = .inl (ty 4, 43, .inl (B9)) := by rw [eF72]; exact va_up_self ..
              have hO_at_72 : F72 (98) = .inr (6, [.int (iI (co)), .ref (ad (99)), .ref (ad (100)), .ref (ad (101)), .ref (ad (102)), .int (iI (ln)), .int (iI (wr)), .ref (ad (103))]) := (show F72 (98) = F00 (98) from by rw [eF72]; exact va_up_ne _ _ (by omega)).trans hO
              have h99_at_72 : F72 (99) = .inl (ty 0, 12900, .inl (P)) := (show F72 (99) = F00 (99) from by rw [eF72]; exact va_up_ne _ _ (by omega)).trans h99
              have h100_at_72 : F72 (100) = .inl (ty 0, 43, .inl (S9)) := (show F72 (100) = F00 (100) from by rw [eF72]; exact va_up_ne _ _ (by omega)).trans h100
              rw [← hQ]
              exact pw_vret hx hb hr hlocks hw (⟨S9, B9, ⟨h99_at_72, h100_at_72, m72_101⟩, ⟨n, hSn, by omega, fun i hi => hD i (by omega), hnz, hbv⟩, by
                rw [eB9, pk_us]
                rw [if_neg (fun h9 => by have := hvz.mp h9; omega)]; rw [tg, if_neg hB9], fun c9 h9 => ⟨hSo c9 h9, by rw [eB9, pk_un h9]⟩, fun y9 h1 h2 h3 => (show F72 (y9) = F00 (y9) from by rw [eF72]; exact va_up_ne _ _ (by omega)).trans (hfr y9 h2)⟩) d_M_trim_73
        · have hdn := hD (n - 1) (by omega)
          refine lv_aload_n hx hb d_M_trim_9 rfl (lv_at hl 0 rfl) ?_
          refine pw_get (ci := 6) (C := R_M) (T := T_M) (N := 8) hx hb hq i_M hown hw (by omega) hO rfl 1 (by decide) (hq _ fl_M_7) (fun _ h9 => h9) rfl d_M_trim_10 ?_
          refine wz_sipush (n := 300) hx hb d_M_trim_13 (by decide) ?_
          refine lv_iload_n hx hb d_M_trim_16 rfl (lv_at hl 1 rfl) ?_
          refine wz_imul hx hb d_M_trim_17 rfl ?_
          refine lv_aload_n hx hb d_M_trim_18 rfl (lv_at hl 0 rfl) ?_
          refine pw_get (ci := 6) (C := R_M) (T := T_M) (N := 8) hx hb hq i_M hown hw (by omega) hO rfl 2 (by decide) (hq _ fl_M_13) (fun _ h9 => h9) rfl d_M_trim_19 ?_
          refine lv_iload_n hx hb d_M_trim_22 rfl (lv_at hl 1 rfl) ?_
          refine pw_iald (k := a) hx hb hw 0 (by omega) h100 rfl (iI_in (by omega) (by omega) (by omega)) ((iI_cl (by omega) (by omega)).trans (by omega)) d_M_trim_23 ?_
          refine lv_topi (fun x23 ex23 => ?_)
          obtain rfl : x23 = iI ((n : Int)) := ex23.trans (hSn)
          refine wz_iadd hx hb d_M_trim_24 rfl ?_
          refine wz_iconst (n := 1) hx hb d_M_trim_25 ?_
          refine wz_isub hx hb d_M_trim_26 rfl ?_
          refine pw_iald (k := 300 * a + (n - 1)) hx hb hw 0 (by omega) h99 rfl (iI_in (by omega) (by omega) (by omega)) ((iI_cl (by omega) (by omega)).trans (by omega)) d_M_trim_27 ?_
          refine lv_topi (fun x27 ex27 => ?_)
          obtain rfl : x27 = iI ((dl P (300 * a + (n - 1)) : Int)) := ex27.trans (hD.get (by omega))
          refine wz_if_ne (tgt := 44) hx hb d_M_trim_28 (by decide) (by omega) (by omega) (fun c28 => ?_) (fun c28 => ?_)
          · have hnz : n = 0 ∨ dl P (300 * a + (n - 1)) ≠ 0 := by omega
            have hvz := bvP_z hnz
            rw [hbv] at hvz
            refine lv_aload_n hx hb d_M_trim_44 rfl (lv_at hl 0 rfl) ?_
            refine pw_get (ci := 6) (C := R_M) (T := T_M) (N := 8) hx hb hq i_M hown hw (by omega) hO rfl 3 (by decide) (hq _ fl_M_16) (fun _ h9 => h9) rfl d_M_trim_45 ?_
            refine lv_iload_n hx hb d_M_trim_48 rfl (lv_at hl 1 rfl) ?_
            refine lv_aload_n hx hb d_M_trim_49 rfl (lv_at hl 0 rfl) ?_
            refine pw_get (ci := 6) (C := R_M) (T := T_M) (N := 8) hx hb hq i_M hown hw (by omega) hO rfl 3 (by decide) (hq _ fl_M_16) (fun _ h9 => h9) rfl d_M_trim_50 ?_
            refine lv_iload_n hx hb d_M_trim_53 rfl (lv_at hl 1 rfl) ?_
            refine pw_zald (k := a) hx hb hw 4 (by omega) h101 rfl (iI_in (by omega) (by omega) (by omega)) ((iI_cl (by omega) (by omega)).trans (by omega)) d_M_trim_54 ?_
            refine lv_topi (fun b54 eb54 => ?_)
            refine lv_if_eq (tgt := 71) hx hb d_M_trim_55 (by decide) (fun c55 => ?_) (fun c55 => ?_)
            · have hB9 : G a = iI 0 := eb54.symm.trans c55
              refine wz_iconst (n := 0) hx hb d_M_trim_71 ?_
              refine pw_zast (k := a) hx hb hw 4 (by omega) h101 rfl (iI_in (by omega) (by omega) (by omega)) ((iI_cl (by omega) (by omega)).trans (by omega)) (y := iI (0)) (by decide) d_M_trim_72 (fun F72 H locs eF72 hw => ?_)
              obtain ⟨B9, eB9⟩ : ∃ z9, z9 = upd G (a) (iI (0)) := ⟨_, rfl⟩
              rw [← eB9] at eF72
              have m72_101 : F72 (101) = .inl (ty 4, 43, .inl (B9)) := by rw [eF72]; exact va_up_self ..
              have hO_at_72 : F72 (98) = .inr (6, [.int (iI (co)), .ref (ad (99)), .ref (ad (100)), .ref (ad (101)), .ref (ad (102)), .int (iI (ln)), .int (iI (wr)), .ref (ad (103))]) := (show F72 (98) = F00 (98) from by rw [eF72]; exact va_up_ne _ _ (by omega)).trans hO
              have h99_at_72 : F72 (99) = .inl (ty 0, 12900, .inl (P)) := (show F72 (99) = F00 (99) from by rw [eF72]; exact va_up_ne _ _ (by omega)).trans h99
              have h100_at_72 : F72 (100) = .inl (ty 0, 43, .inl (S9)) := (show F72 (100) = F00 (100) from by rw [eF72]; exact va_up_ne _ _ (by omega)).trans h100
              rw [← hQ]
              exact pw_vret hx hb hr hlocks hw (⟨S9, B9, ⟨h99_at_72, h100_at_72, m72_101⟩, ⟨n, hSn, by omega, fun i hi => hD i (by omega), hnz, hbv⟩, by
                rw [eB9, pk_us]
                split
                · rfl
                · rw [tg, if_pos hB9], fun c9 h9 => ⟨hSo c9 h9, by rw [eB9, pk_un h9]⟩, fun y9 h1 h2 h3 => (show F72 (y9) = F00 (y9) from by rw [eF72]; exact va_up_ne _ _ (by omega)).trans (hfr y9 h2)⟩) d_M_trim_73
            · have hB9 : G a ≠ iI 0 := fun h9 => c55 (eb54.trans h9)
              refine lv_aload_n hx hb d_M_trim_58 rfl (lv_at hl 0 rfl) ?_
              refine pw_get (ci := 6) (C := R_M) (T := T_M) (N := 8) hx hb hq i_M hown hw (by omega) hO rfl 2 (by decide) (hq _ fl_M_13) (fun _ h9 => h9) rfl d_M_trim_59 ?_
              refine lv_iload_n hx hb d_M_trim_62 rfl (lv_at hl 1 rfl) ?_
              refine pw_iald (k := a) hx hb hw 0 (by omega) h100 rfl (iI_in (by omega) (by omega) (by omega)) ((iI_cl (by omega) (by omega)).trans (by omega)) d_M_trim_63 ?_
              refine lv_topi (fun x63 ex63 => ?_)
              obtain rfl : x63 = iI ((n : Int)) := ex63.trans (hSn)
              refine wz_if_le (tgt := 71) hx hb d_M_trim_64 (by decide) (by omega) (by omega) (fun c64 => ?_) (fun c64 => ?_)
              · refine wz_iconst (n := 0) hx hb d_M_trim_71 ?_
                refine pw_zast (k := a) hx hb hw 4 (by omega) h101 rfl (iI_in (by omega) (by omega) (by omega)) ((iI_cl (by omega) (by omega)).trans (by omega)) (y := iI (0)) (by decide) d_M_trim_72 (fun F72 H locs eF72 hw => ?_)
                obtain ⟨B9, eB9⟩ : ∃ z9, z9 = upd G (a) (iI (0)) := ⟨_, rfl⟩
                rw [← eB9] at eF72
                have m72_101 : F72 (101) = .inl (ty 4, 43, .inl (B9)) := by rw [eF72]; exact va_up_self ..
                have hO_at_72 : F72 (98) = .inr (6, [.int (iI (co)), .ref (ad (99)), .ref (ad (100)), .ref (ad (101)), .ref (ad (102)), .int (iI (ln)), .int (iI (wr)), .ref (ad (103))]) := (show F72 (98) = F00 (98) from by rw [eF72]; exact va_up_ne _ _ (by omega)).trans hO
                have h99_at_72 : F72 (99) = .inl (ty 0, 12900, .inl (P)) := (show F72 (99) = F00 (99) from by rw [eF72]; exact va_up_ne _ _ (by omega)).trans h99
                have h100_at_72 : F72 (100) = .inl (ty 0, 43, .inl (S9)) := (show F72 (100) = F00 (100) from by rw [eF72]; exact va_up_ne _ _ (by omega)).trans h100
                rw [← hQ]
                exact pw_vret hx hb hr hlocks hw (⟨S9, B9, ⟨h99_at_72, h100_at_72, m72_101⟩, ⟨n, hSn, by omega, fun i hi => hD i (by omega), hnz, hbv⟩, by
                  rw [eB9, pk_us]
                  rw [if_pos (hvz.mpr (by omega))], fun c9 h9 => ⟨hSo c9 h9, by rw [eB9, pk_un h9]⟩, fun y9 h1 h2 h3 => (show F72 (y9) = F00 (y9) from by rw [eF72]; exact va_up_ne _ _ (by omega)).trans (hfr y9 h2)⟩) d_M_trim_73
              · refine wz_iconst (n := 1) hx hb d_M_trim_67 ?_
                refine lv_goto (tgt := 72) hx hb d_M_trim_68 (by decide) ?_
                refine pw_zast (k := a) hx hb hw 4 (by omega) h101 rfl (iI_in (by omega) (by omega) (by omega)) ((iI_cl (by omega) (by omega)).trans (by omega)) (y := iI (1)) (by decide) d_M_trim_72 (fun F72 H locs eF72 hw => ?_)
                obtain ⟨B9, eB9⟩ : ∃ z9, z9 = upd G (a) (iI (1)) := ⟨_, rfl⟩
                rw [← eB9] at eF72
                have m72_101 : F72 (101) = .inl (ty 4, 43, .inl (B9)) := by rw [eF72]; exact va_up_self ..
                have hO_at_72 : F72 (98) = .inr (6, [.int (iI (co)), .ref (ad (99)), .ref (ad (100)), .ref (ad (101)), .ref (ad (102)), .int (iI (ln)), .int (iI (wr)), .ref (ad (103))]) := (show F72 (98) = F00 (98) from by rw [eF72]; exact va_up_ne _ _ (by omega)).trans hO
                have h99_at_72 : F72 (99) = .inl (ty 0, 12900, .inl (P)) := (show F72 (99) = F00 (99) from by rw [eF72]; exact va_up_ne _ _ (by omega)).trans h99
                have h100_at_72 : F72 (100) = .inl (ty 0, 43, .inl (S9)) := (show F72 (100) = F00 (100) from by rw [eF72]; exact va_up_ne _ _ (by omega)).trans h100
                rw [← hQ]
                exact pw_vret hx hb hr hlocks hw (⟨S9, B9, ⟨h99_at_72, h100_at_72, m72_101⟩, ⟨n, hSn, by omega, fun i hi => hD i (by omega), hnz, hbv⟩, by
                  rw [eB9, pk_us]
                  rw [if_neg (fun h9 => by have := hvz.mp h9; omega)]; rw [tg, if_neg hB9], fun c9 h9 => ⟨hSo c9 h9, by rw [eB9, pk_un h9]⟩, fun y9 h1 h2 h3 => (show F72 (y9) = F00 (y9) from by rw [eF72]; exact va_up_ne _ _ (by omega)).trans (hfr y9 h2)⟩) d_M_trim_73
          · refine lv_aload_n hx hb d_M_trim_31 rfl (lv_at hl 0 rfl) ?_
            refine pw_get (ci := 6) (C := R_M) (T := T_M) (N := 8) hx hb hq i_M hown hw (by omega) hO rfl 2 (by decide) (hq _ fl_M_13) (fun _ h9 => h9) rfl d_M_trim_32 ?_
            refine lv_iload_n hx hb d_M_trim_35 rfl (lv_at hl 1 rfl) ?_
            refine lv_dup2_11 hx hb d_M_trim_36 rfl rfl ?_
            refine pw_iald (k := a) hx hb hw 0 (by omega) h100 rfl (iI_in (by omega) (by omega) (by omega)) ((iI_cl (by omega) (by omega)).trans (by omega)) d_M_trim_37 ?_
            refine lv_topi (fun x37 ex37 => ?_)
            obtain rfl : x37 = iI ((n : Int)) := ex37.trans (hSn)
            refine wz_iconst (n := 1) hx hb d_M_trim_38 ?_
            refine wz_isub (z := ((n - 1 : Nat) : Int)) hx hb d_M_trim_39 (by omega) ?_
            refine pw_iast (k := a) hx hb hw 0 (by omega) h100 rfl (iI_in (by omega) (by omega) (by omega)) ((iI_cl (by omega) (by omega)).trans (by omega)) d_M_trim_40 (fun F40 H locs eF40 hw => ?_)
            have m40_100 : F40 (100) = .inl (ty 0, 43, .inl (upd S9 (a) (iI (((n - 1 : Nat) : Int))))) := by rw [eF40]; exact va_up_self ..
            have hO_at_40 : F40 (98) = .inr (6, [.int (iI (co)), .ref (ad (99)), .ref (ad (100)), .ref (ad (101)), .ref (ad (102)), .int (iI (ln)), .int (iI (wr)), .ref (ad (103))]) := (show F40 (98) = F00 (98) from by rw [eF40]; exact va_up_ne _ _ (by omega)).trans hO
            have h99_at_40 : F40 (99) = .inl (ty 0, 12900, .inl (P)) := (show F40 (99) = F00 (99) from by rw [eF40]; exact va_up_ne _ _ (by omega)).trans h99
            have h101_at_40 : F40 (101) = .inl (ty 4, 43, .inl (G)) := (show F40 (101) = F00 (101) from by rw [eF40]; exact va_up_ne _ _ (by omega)).trans h101
            refine lv_goto (tgt := 0) hx hb d_M_trim_41 (by decide) ?_
            exact ih0 (n - 1) (upd S9 a (iI (((n - 1 : Nat)) : Int))) _ _ _ ls (by omega) (pk_us ..) (by omega) (by rw [← hbv, show n = (n - 1) + 1 by omega, bvP_s, Nat.add_sub_cancel, show dl P (300 * a + (n - 1)) = 0 by omega]; simp) (fun c9 h9 => by rw [pk_un h9]; exact hSo c9 h9) (fun y9 h9 => (show F40 (y9) = F00 (y9) from by rw [eF40]; exact va_up_ne _ _ (by omega)).trans (hfr y9 h9)) hO_at_40 h99_at_40 m40_100 h101_at_40 hw hl
    exact K0 _ n0 S _ _ _ ls (Nat.lt_succ_self _) (hS) (by omega) (rfl) (fun _ _ => rfl) (fun _ _ => rfl) hO h99 h100 h101 hw hl
  rw [hH, hlo] at hgo
  exact hgo
