/-! the reference: isOne, compareSizes, addSizes, takeSizes, join: by program -/
set_option maxHeartbeats 4000000 in
set_option maxRecDepth 100000 in
/-- isOne(a) -/
theorem c_M_isOne (l : Launch) (D : va_G) (ty : Nat → ClassId) (ad : Nat → Nat) (M : Nat) (F : Nat → va_E) (sz : Nat) (hM : 103 < M) (co ln wr : Int) (hO : F 98 = oM ad co ln wr) (a : Nat) (z0 : Int) (ha : a < 43) (hNa : Nm ty F a z0) :
    CI l y_M_isOne w_M_isOne ({ frames := 0, cells := 0, slots := 0, locals := 0 } : Room) [.ref (ad (98)), .int (iI ((a : Int)))] D ty ad M F sz (fun r F1 => r = iI (i1 z0) ∧ F1 = F) := by
  refine Met.ofW (cc := b_M_isOne) (maxL := 2) (ret := (some .boolean)) (by decide) rfl ?_
  intro p e s m args below meth c s₁ B hml hv
  obtain ⟨rfl, hsz, hP, hK, hD0⟩ := hv
  have hx := B.exec
  have hb := B.bytes
  have hr := B.returns
  have hts := atoms_spec (ws := w_M_isOne) B.pre
  have hq : ∀ w ∈ wT, w.before _ s = true := fun w h => hts w (List.mem_cons_of_mem _ h)
  have hown : s.vm.findClass R_M = some m.cls := findClass_of_methodNamed B.named
  have hlocks := B.notSynchronized
  subst hsz
  have hw := pw_start hP hK hD0
  have hl := lv_entry ([.ref (ad (98)), .int (iI ((a : Int)))]) (n := 2) (Nat.le_of_ble_eq_true rfl)
  rw [lg_entry_eq]
  generalize (lg_sl ([.ref (ad (98)), .int (iI ((a : Int)))]) ++ List.replicate (2 - (lg_sl ([.ref (ad (98)), .int (iI ((a : Int)))])).length) Slot.unset).toArray = ls at hl ⊢
  have hl : lv_has ls 2 [(0, .ref (ad (98))), (1, .int (iI ((a : Int))))] := hl
  change W p l e ({ frames := 0, cells := 0, slots := 0, locals := 0 } : Room) s m ([.ref (ad (98)), .int (iI ((a : Int)))]).toArray below meth c s.heap [] 0 0 (MQ below (va_Qi (fun r F1 => r = iI (i1 z0) ∧ F1 = F) (pAt D classes (tysL ty) ad M (pA ad M s.heap.size)) (pA ad M s.heap.size)) ([.ref (ad (98)), .int (iI ((a : Int)))]).toArray s 0 0 (pA ad M s.heap.size)) (F0 m 0 ls [])
  generalize hQ : MQ below (va_Qi (fun r F1 => r = iI (i1 z0) ∧ F1 = F) (pAt D classes (tysL ty) ad M (pA ad M s.heap.size)) (pA ad M s.heap.size)) ([.ref (ad (98)), .int (iI ((a : Int)))]).toArray s 0 0 (pA ad M s.heap.size) = Q
  obtain ⟨H, hH⟩ : ∃ H, H = s.heap := ⟨_, rfl⟩
  obtain ⟨locs, hlo⟩ : ∃ z : List Loc, z = [] := ⟨_, rfl⟩
  have hw : pw D classes (tysL ty) ad M F (pA ad M s.heap.size) s H locs := by rw [hH, hlo]; exact hw
  have hgo : W p l e ({ frames := 0, cells := 0, slots := 0, locals := 0 } : Room) s m ([.ref (ad (98)), .int (iI ((a : Int)))]).toArray below meth c H locs 0 0 Q (F0 m 0 ls []) := by
    obtain ⟨P, S, G, hMA, ⟨n, hSa, h3a, hDa, hta, hva⟩, hGa⟩ := hNa
    obtain ⟨h99, h100, h101⟩ := id hMA
    have hone := bvP_one hta
    rw [hva] at hone
    have hsb := sB_c z0
    refine lv_aload_n hx hb d_M_isOne_0 rfl (lv_at hl 0 rfl) ?_
    refine pw_get (ci := 6) (C := R_M) (T := T_M) (N := 8) hx hb hq i_M hown hw (by omega) hO rfl 2 (by decide) (hq _ fl_M_13) (fun _ h9 => h9) rfl d_M_isOne_1 ?_
    refine lv_iload_n hx hb d_M_isOne_4 rfl (lv_at hl 1 rfl) ?_
    refine pw_iald (k := a) hx hb hw 0 (by omega) h100 rfl (iI_in (by omega) (by omega) (by omega)) ((iI_cl (by omega) (by omega)).trans (by omega)) d_M_isOne_5 ?_
    refine lv_topi (fun x5 ex5 => ?_)
    obtain rfl : x5 = iI ((n : Int)) := ex5.trans (hSa)
    refine wz_iconst (n := 1) hx hb d_M_isOne_6 ?_
    refine wz_icmp_ne (tgt := 37) hx hb d_M_isOne_7 (by decide) (by omega) (by omega) (by omega) (by omega) (fun c7 => ?_) (fun c7 => ?_)
    · have hno : z0 ≠ 1 := by omega
      refine wz_iconst (n := 0) hx hb d_M_isOne_37 ?_
      rw [← hQ]
      exact pw_zret hx hb hr (by decide) hlocks hw (⟨i1_n hno, rfl⟩) d_M_isOne_38
    · refine lv_aload_n hx hb d_M_isOne_10 rfl (lv_at hl 0 rfl) ?_
      refine pw_get (ci := 6) (C := R_M) (T := T_M) (N := 8) hx hb hq i_M hown hw (by omega) hO rfl 1 (by decide) (hq _ fl_M_7) (fun _ h9 => h9) rfl d_M_isOne_11 ?_
      refine wz_sipush (n := 300) hx hb d_M_isOne_14 (by decide) ?_
      refine lv_iload_n hx hb d_M_isOne_17 rfl (lv_at hl 1 rfl) ?_
      refine wz_imul hx hb d_M_isOne_18 rfl ?_
      have hd0 := hDa 0 (by omega)
      rw [Nat.add_zero] at hd0
      refine pw_iald (k := 300 * a) hx hb hw 0 (by omega) h99 rfl (iI_in (by omega) (by omega) (by omega)) ((iI_cl (by omega) (by omega)).trans (by omega)) d_M_isOne_19 ?_
      refine lv_topi (fun x19 ex19 => ?_)
      obtain rfl : x19 = iI ((dl P (300 * a) : Int)) := ex19.trans (hDa.get (i := 0) (by omega))
      refine wz_iconst (n := 1) hx hb d_M_isOne_20 ?_
      refine wz_icmp_ne (tgt := 37) hx hb d_M_isOne_21 (by decide) (by omega) (by omega) (by omega) (by omega) (fun c21 => ?_) (fun c21 => ?_)
      · have hno : z0 ≠ 1 := by omega
        refine wz_iconst (n := 0) hx hb d_M_isOne_37 ?_
        rw [← hQ]
        exact pw_zret hx hb hr (by decide) hlocks hw (⟨i1_n hno, rfl⟩) d_M_isOne_38
      · refine lv_aload_n hx hb d_M_isOne_24 rfl (lv_at hl 0 rfl) ?_
        refine pw_get (ci := 6) (C := R_M) (T := T_M) (N := 8) hx hb hq i_M hown hw (by omega) hO rfl 3 (by decide) (hq _ fl_M_16) (fun _ h9 => h9) rfl d_M_isOne_25 ?_
        refine lv_iload_n hx hb d_M_isOne_28 rfl (lv_at hl 1 rfl) ?_
        refine pw_zald (k := a) hx hb hw 4 (by omega) h101 rfl (iI_in (by omega) (by omega) (by omega)) ((iI_cl (by omega) (by omega)).trans (by omega)) d_M_isOne_29 ?_
        refine lv_topi (fun x29 ex29 => ?_)
        obtain rfl : x29 = iI ((sB z0 : Int)) := ex29.trans (hGa)
        refine wz_if_ne (tgt := 37) hx hb d_M_isOne_30 (by decide) (by omega) (by omega) (fun c30 => ?_) (fun c30 => ?_)
        · have hno : z0 ≠ 1 := by omega
          refine wz_iconst (n := 0) hx hb d_M_isOne_37 ?_
          rw [← hQ]
          exact pw_zret hx hb hr (by decide) hlocks hw (⟨i1_n hno, rfl⟩) d_M_isOne_38
        · have hyes : z0 = 1 := by omega
          refine wz_iconst (n := 1) hx hb d_M_isOne_33 ?_
          refine lv_goto (tgt := 38) hx hb d_M_isOne_34 (by decide) ?_
          rw [← hQ]
          exact pw_zret hx hb hr (by decide) hlocks hw (⟨i1_y hyes, rfl⟩) d_M_isOne_38
  rw [hH, hlo] at hgo
  exact hgo
set_option maxHeartbeats 4000000 in
set_option maxRecDepth 100000 in
/-- compareSizes(a, b) -/
theorem c_M_compareSizes (l : Launch) (D : va_G) (ty : Nat → ClassId) (ad : Nat → Nat) (M : Nat) (F : Nat → va_E) (sz : Nat) (hM : 103 < M) (co ln wr : Int) (hO : F 98 = oM ad co ln wr) (P S G : Nat → Int32) (hMA : MA ty F P S G) (a b1 va vb : Nat) (ha : a < 43) (hb1 : b1 < 43) (hA : Mg P S a va) (hB : Mg P S b1 vb) :
    CI l y_M_compareSizes w_M_compareSizes ({ frames := 0, cells := 0, slots := 0, locals := 0 } : Room) [.ref (ad (98)), .int (iI ((a : Int))), .int (iI ((b1 : Int)))] D ty ad M F sz (fun r F1 => r = iI (cmpI va vb) ∧ F1 = F) := by
  refine Met.ofW (cc := b_M_compareSizes) (maxL := 4) (ret := (some .int)) (by decide) rfl ?_
  intro p e s m args below meth c s₁ B hml hv
  obtain ⟨rfl, hsz, hP, hK, hD0⟩ := hv
  have hx := B.exec
  have hb := B.bytes
  have hr := B.returns
  have hts := atoms_spec (ws := w_M_compareSizes) B.pre
  have hq : ∀ w ∈ wT, w.before _ s = true := fun w h => hts w (List.mem_cons_of_mem _ h)
  have hown : s.vm.findClass R_M = some m.cls := findClass_of_methodNamed B.named
  have hlocks := B.notSynchronized
  subst hsz
  have hw := pw_start hP hK hD0
  have hl := lv_entry ([.ref (ad (98)), .int (iI ((a : Int))), .int (iI ((b1 : Int)))]) (n := 4) (Nat.le_of_ble_eq_true rfl)
  rw [lg_entry_eq]
  generalize (lg_sl ([.ref (ad (98)), .int (iI ((a : Int))), .int (iI ((b1 : Int)))]) ++ List.replicate (4 - (lg_sl ([.ref (ad (98)), .int (iI ((a : Int))), .int (iI ((b1 : Int)))])).length) Slot.unset).toArray = ls at hl ⊢
  have hl : lv_has ls 4 [(0, .ref (ad (98))), (1, .int (iI ((a : Int)))), (2, .int (iI ((b1 : Int))))] := hl
  change W p l e ({ frames := 0, cells := 0, slots := 0, locals := 0 } : Room) s m ([.ref (ad (98)), .int (iI ((a : Int))), .int (iI ((b1 : Int)))]).toArray below meth c s.heap [] 0 0 (MQ below (va_Qi (fun r F1 => r = iI (cmpI va vb) ∧ F1 = F) (pAt D classes (tysL ty) ad M (pA ad M s.heap.size)) (pA ad M s.heap.size)) ([.ref (ad (98)), .int (iI ((a : Int))), .int (iI ((b1 : Int)))]).toArray s 0 0 (pA ad M s.heap.size)) (F0 m 0 ls [])
  generalize hQ : MQ below (va_Qi (fun r F1 => r = iI (cmpI va vb) ∧ F1 = F) (pAt D classes (tysL ty) ad M (pA ad M s.heap.size)) (pA ad M s.heap.size)) ([.ref (ad (98)), .int (iI ((a : Int))), .int (iI ((b1 : Int)))]).toArray s 0 0 (pA ad M s.heap.size) = Q
  obtain ⟨H, hH⟩ : ∃ H, H = s.heap := ⟨_, rfl⟩
  obtain ⟨locs, hlo⟩ : ∃ z : List Loc, z = [] := ⟨_, rfl⟩
  have hw : pw D classes (tysL ty) ad M F (pA ad M s.heap.size) s H locs := by rw [hH, hlo]; exact hw
  have hgo : W p l e ({ frames := 0, cells := 0, slots := 0, locals := 0 } : Room) s m ([.ref (ad (98)), .int (iI ((a : Int))), .int (iI ((b1 : Int)))]).toArray below meth c H locs 0 0 Q (F0 m 0 ls []) := by
    obtain ⟨h99, h100, h101⟩ := id hMA
    obtain ⟨na, hSa, h3a, hDa, hta, hva⟩ := hA
    obtain ⟨nb, hSb, h3b, hDb, htb, hvb⟩ := hB
    refine lv_aload_n hx hb d_M_compareSizes_0 rfl (lv_at hl 0 rfl) ?_
    refine pw_get (ci := 6) (C := R_M) (T := T_M) (N := 8) hx hb hq i_M hown hw (by omega) hO rfl 2 (by decide) (hq _ fl_M_13) (fun _ h9 => h9) rfl d_M_compareSizes_1 ?_
    refine lv_iload_n hx hb d_M_compareSizes_4 rfl (lv_at hl 1 rfl) ?_
    refine pw_iald (k := a) hx hb hw 0 (by omega) h100 rfl (iI_in (by omega) (by omega) (by omega)) ((iI_cl (by omega) (by omega)).trans (by omega)) d_M_compareSizes_5 ?_
    refine lv_topi (fun x5 ex5 => ?_)
    obtain rfl : x5 = iI ((na : Int)) := ex5.trans (hSa)
    refine lv_aload_n hx hb d_M_compareSizes_6 rfl (lv_at hl 0 rfl) ?_
    refine pw_get (ci := 6) (C := R_M) (T := T_M) (N := 8) hx hb hq i_M hown hw (by omega) hO rfl 2 (by decide) (hq _ fl_M_13) (fun _ h9 => h9) rfl d_M_compareSizes_7 ?_
    refine lv_iload_n hx hb d_M_compareSizes_10 rfl (lv_at hl 2 rfl) ?_
    refine pw_iald (k := b1) hx hb hw 0 (by omega) h100 rfl (iI_in (by omega) (by omega) (by omega)) ((iI_cl (by omega) (by omega)).trans (by omega)) d_M_compareSizes_11 ?_
    refine lv_topi (fun x11 ex11 => ?_)
    obtain rfl : x11 = iI ((nb : Int)) := ex11.trans (hSb)
    refine wz_icmp_eq (tgt := 36) hx hb d_M_compareSizes_12 (by decide) (by omega) (by omega) (by omega) (by omega) (fun c12 => ?_) (fun c12 => ?_)
    · have c12 : na = nb := by omega
      subst c12
      have c12 : na = na := rfl
      refine lv_aload_n hx hb d_M_compareSizes_36 rfl (lv_at hl 0 rfl) ?_
      refine pw_get (ci := 6) (C := R_M) (T := T_M) (N := 8) hx hb hq i_M hown hw (by omega) hO rfl 2 (by decide) (hq _ fl_M_13) (fun _ h9 => h9) rfl d_M_compareSizes_37 ?_
      refine lv_iload_n hx hb d_M_compareSizes_40 rfl (lv_at hl 1 rfl) ?_
      refine pw_iald (k := a) hx hb hw 0 (by omega) h100 rfl (iI_in (by omega) (by omega) (by omega)) ((iI_cl (by omega) (by omega)).trans (by omega)) d_M_compareSizes_41 ?_
      refine lv_topi (fun x41 ex41 => ?_)
      obtain rfl : x41 = iI ((na : Int)) := ex41.trans (hSa)
      refine wz_iconst (n := 1) hx hb d_M_compareSizes_42 ?_
      refine wz_isub hx hb d_M_compareSizes_43 rfl ?_
      refine lv_istore_n (lv' := [(3, .int (iI ((na : Int) - 1))), (0, .ref (ad (98))), (1, .int (iI ((a : Int)))), (2, .int (iI ((b1 : Int))))]) hx hb d_M_compareSizes_44 rfl hl (by decide) rfl (fun ls hl => ?_)
      have K45 : ∀ (fuel : Nat) (k : Nat) (ls : Array Slot), k < fuel → (k ≤ na) → (∀ j, k ≤ j → j < na → dl P (300 * a + j) = dl P (300 * b1 + j)) → lv_has ls 4 [(0, .ref (ad (98))), (1, .int (iI ((a : Int)))), (2, .int (iI ((b1 : Int)))), (3, .int (iI ((k : Int) - 1)))] → W p l e ({ frames := 0, cells := 0, slots := 0, locals := 0 } : Room) s m ([.ref (ad (98)), .int (iI ((a : Int))), .int (iI ((b1 : Int)))]).toArray below meth c H locs 0 0 Q (F0 m 45 ls []) := by
        intro fuel
        induction fuel with
        | zero => intro k ls hfuel hk heq hl; exact absurd hfuel (Nat.not_lt_zero _)
        | succ fuel ih45 =>
          intro k ls hfuel hk heq hl
          refine lv_iload_n hx hb d_M_compareSizes_45 rfl (lv_at hl 3 rfl) ?_
          refine wz_if_lt (tgt := 82) hx hb d_M_compareSizes_46 (by decide) (by omega) (by omega) (fun c46 => ?_) (fun c46 => ?_)
          · refine lv_iload_n hx hb d_M_compareSizes_82 rfl (lv_at hl 3 rfl) ?_
            refine wz_if_ge (tgt := 90) hx hb d_M_compareSizes_83 (by decide) (by omega) (by omega) (fun c83 => ?_) (fun c83 => ?_)
            · exact absurd c83 (by omega)
            · refine wz_iconst (n := 0) hx hb d_M_compareSizes_86 ?_
              refine lv_goto (tgt := 122) hx hb d_M_compareSizes_87 (by decide) ?_
              rw [← hQ]
              exact pw_iret hx hb hr hlocks hw (⟨cmpI_e (by rw [← hva, ← hvb, ← c12]; exact bv_congr (fun i hi => heq i (by omega) hi)), rfl⟩) d_M_compareSizes_122
          · have hdA := hDa (k - 1) (by omega)
            have hdB := hDb (k - 1) (by omega)
            refine lv_aload_n hx hb d_M_compareSizes_49 rfl (lv_at hl 0 rfl) ?_
            refine pw_get (ci := 6) (C := R_M) (T := T_M) (N := 8) hx hb hq i_M hown hw (by omega) hO rfl 1 (by decide) (hq _ fl_M_7) (fun _ h9 => h9) rfl d_M_compareSizes_50 ?_
            refine wz_sipush (n := 300) hx hb d_M_compareSizes_53 (by decide) ?_
            refine lv_iload_n hx hb d_M_compareSizes_56 rfl (lv_at hl 1 rfl) ?_
            refine wz_imul hx hb d_M_compareSizes_57 rfl ?_
            refine lv_iload_n hx hb d_M_compareSizes_58 rfl (lv_at hl 3 rfl) ?_
            refine wz_iadd hx hb d_M_compareSizes_59 rfl ?_
            refine pw_iald (k := 300 * a + (k - 1)) hx hb hw 0 (by omega) h99 rfl (iI_in (by omega) (by omega) (by omega)) ((iI_cl (by omega) (by omega)).trans (by omega)) d_M_compareSizes_60 ?_
            refine lv_topi (fun x60 ex60 => ?_)
            obtain rfl : x60 = iI ((dl P (300 * a + (k - 1)) : Int)) := ex60.trans (hDa.get (by omega))
            refine lv_aload_n hx hb d_M_compareSizes_61 rfl (lv_at hl 0 rfl) ?_
            refine pw_get (ci := 6) (C := R_M) (T := T_M) (N := 8) hx hb hq i_M hown hw (by omega) hO rfl 1 (by decide) (hq _ fl_M_7) (fun _ h9 => h9) rfl d_M_compareSizes_62 ?_
            refine wz_sipush (n := 300) hx hb d_M_compareSizes_65 (by decide) ?_
            refine lv_iload_n hx hb d_M_compareSizes_68 rfl (lv_at hl 2 rfl) ?_
            refine wz_imul hx hb d_M_compareSizes_69 rfl ?_
            refine lv_iload_n hx hb d_M_compareSizes_70 rfl (lv_at hl 3 rfl) ?_
            refine wz_iadd hx hb d_M_compareSizes_71 rfl ?_
            refine pw_iald (k := 300 * b1 + (k - 1)) hx hb hw 0 (by omega) h99 rfl (iI_in (by omega) (by omega) (by omega)) ((iI_cl (by omega) (by omega)).trans (by omega)) d_M_compareSizes_72 ?_
            refine lv_topi (fun x72 ex72 => ?_)
            obtain rfl : x72 = iI ((dl P (300 * b1 + (k - 1)) : Int)) := ex72.trans (hDb.get (by omega))
            refine wz_icmp_ne (tgt := 82) hx hb d_M_compareSizes_73 (by decide) (by omega) (by omega) (by omega) (by omega) (fun c73 => ?_) (fun c73 => ?_)
            · refine lv_iload_n hx hb d_M_compareSizes_82 rfl (lv_at hl 3 rfl) ?_
              refine wz_if_ge (tgt := 90) hx hb d_M_compareSizes_83 (by decide) (by omega) (by omega) (fun c83 => ?_) (fun c83 => ?_)
              · refine lv_aload_n hx hb d_M_compareSizes_90 rfl (lv_at hl 0 rfl) ?_
                refine pw_get (ci := 6) (C := R_M) (T := T_M) (N := 8) hx hb hq i_M hown hw (by omega) hO rfl 1 (by decide) (hq _ fl_M_7) (fun _ h9 => h9) rfl d_M_compareSizes_91 ?_
                refine wz_sipush (n := 300) hx hb d_M_compareSizes_94 (by decide) ?_
                refine lv_iload_n hx hb d_M_compareSizes_97 rfl (lv_at hl 1 rfl) ?_
                refine wz_imul hx hb d_M_compareSizes_98 rfl ?_
                refine lv_iload_n hx hb d_M_compareSizes_99 rfl (lv_at hl 3 rfl) ?_
                refine wz_iadd hx hb d_M_compareSizes_100 rfl ?_
                refine pw_iald (k := 300 * a + (k - 1)) hx hb hw 0 (by omega) h99 rfl (iI_in (by omega) (by omega) (by omega)) ((iI_cl (by omega) (by omega)).trans (by omega)) d_M_compareSizes_101 ?_
                refine lv_topi (fun x101 ex101 => ?_)
                obtain rfl : x101 = iI ((dl P (300 * a + (k - 1)) : Int)) := ex101.trans (hDa.get (by omega))
                refine lv_aload_n hx hb d_M_compareSizes_102 rfl (lv_at hl 0 rfl) ?_
                refine pw_get (ci := 6) (C := R_M) (T := T_M) (N := 8) hx hb hq i_M hown hw (by omega) hO rfl 1 (by decide) (hq _ fl_M_7) (fun _ h9 => h9) rfl d_M_compareSizes_103 ?_
                refine wz_sipush (n := 300) hx hb d_M_compareSizes_106 (by decide) ?_
                refine lv_iload_n hx hb d_M_compareSizes_109 rfl (lv_at hl 2 rfl) ?_
                refine wz_imul hx hb d_M_compareSizes_110 rfl ?_
                refine lv_iload_n hx hb d_M_compareSizes_111 rfl (lv_at hl 3 rfl) ?_
                refine wz_iadd hx hb d_M_compareSizes_112 rfl ?_
                refine pw_iald (k := 300 * b1 + (k - 1)) hx hb hw 0 (by omega) h99 rfl (iI_in (by omega) (by omega) (by omega)) ((iI_cl (by omega) (by omega)).trans (by omega)) d_M_compareSizes_113 ?_
                refine lv_topi (fun x113 ex113 => ?_)
                obtain rfl : x113 = iI ((dl P (300 * b1 + (k - 1)) : Int)) := ex113.trans (hDb.get (by omega))
                refine wz_icmp_ge (tgt := 121) hx hb d_M_compareSizes_114 (by decide) (by omega) (by omega) (by omega) (by omega) (fun c114 => ?_) (fun c114 => ?_)
                · have hgt : dl P (300 * b1 + (k - 1)) < dl P (300 * a + (k - 1)) := by omega
                  refine wz_iconst (n := 1) hx hb d_M_compareSizes_121 ?_
                  rw [← hQ]
                  exact pw_iret hx hb hr hlocks hw (⟨cmpI_g (by rw [← hva, ← hvb, ← c12]; exact mg_L hDb (i := k - 1) (by omega) (fun j h1 h2 => (heq j (by omega) h2).symm) (by omega)), rfl⟩) d_M_compareSizes_122
                · refine wz_iconst (n := -1) hx hb d_M_compareSizes_117 ?_
                  refine lv_goto (tgt := 122) hx hb d_M_compareSizes_118 (by decide) ?_
                  rw [← hQ]
                  exact pw_iret hx hb hr hlocks hw (⟨cmpI_l (by rw [← hva, ← hvb, ← c12]; exact mg_L hDa (i := k - 1) (by omega) (fun j h1 h2 => heq j (by omega) h2) (by omega)), rfl⟩) d_M_compareSizes_122
              · exact absurd c83 (by omega)
            · refine wz_iinc (z := ((k - 1 : Nat) : Int) - 1) (lv' := [(3, .int (iI (((k - 1 : Nat) : Int) - 1))), (0, .ref (ad (98))), (1, .int (iI ((a : Int)))), (2, .int (iI ((b1 : Int))))]) hx hb d_M_compareSizes_76 hl (k := 3) rfl (by omega) (by decide) rfl (fun ls hl => ?_)
              refine lv_goto (tgt := 45) hx hb d_M_compareSizes_79 (by decide) ?_
              exact ih45 (k - 1) ls (by omega) (by omega) (fun j h1 h2 => by
                by_cases h9 : j = k - 1
                · rw [h9]; omega
                · exact heq j (by omega) h2) (lv_sub hl [1, 2, 3, 0] rfl)
      exact K45 _ na ls (Nat.lt_succ_self _) (Nat.le_refl _) (fun j h1 h2 => absurd h1 (by omega)) (lv_sub hl [1, 2, 3, 0] rfl)
    · refine lv_aload_n hx hb d_M_compareSizes_15 rfl (lv_at hl 0 rfl) ?_
      refine pw_get (ci := 6) (C := R_M) (T := T_M) (N := 8) hx hb hq i_M hown hw (by omega) hO rfl 2 (by decide) (hq _ fl_M_13) (fun _ h9 => h9) rfl d_M_compareSizes_16 ?_
      refine lv_iload_n hx hb d_M_compareSizes_19 rfl (lv_at hl 1 rfl) ?_
      refine pw_iald (k := a) hx hb hw 0 (by omega) h100 rfl (iI_in (by omega) (by omega) (by omega)) ((iI_cl (by omega) (by omega)).trans (by omega)) d_M_compareSizes_20 ?_
      refine lv_topi (fun x20 ex20 => ?_)
      obtain rfl : x20 = iI ((na : Int)) := ex20.trans (hSa)
      refine lv_aload_n hx hb d_M_compareSizes_21 rfl (lv_at hl 0 rfl) ?_
      refine pw_get (ci := 6) (C := R_M) (T := T_M) (N := 8) hx hb hq i_M hown hw (by omega) hO rfl 2 (by decide) (hq _ fl_M_13) (fun _ h9 => h9) rfl d_M_compareSizes_22 ?_
      refine lv_iload_n hx hb d_M_compareSizes_25 rfl (lv_at hl 2 rfl) ?_
      refine pw_iald (k := b1) hx hb hw 0 (by omega) h100 rfl (iI_in (by omega) (by omega) (by omega)) ((iI_cl (by omega) (by omega)).trans (by omega)) d_M_compareSizes_26 ?_
      refine lv_topi (fun x26 ex26 => ?_)
      obtain rfl : x26 = iI ((nb : Int)) := ex26.trans (hSb)
      refine wz_icmp_ge (tgt := 34) hx hb d_M_compareSizes_27 (by decide) (by omega) (by omega) (by omega) (by omega) (fun c27 => ?_) (fun c27 => ?_)
      · refine wz_iconst (n := 1) hx hb d_M_compareSizes_34 ?_
        rw [← hQ]
        exact pw_iret hx hb hr hlocks hw (⟨cmpI_g (by rw [← hva, ← hvb]; exact mg_S hDb hta (by omega)), rfl⟩) d_M_compareSizes_35
      · refine wz_iconst (n := -1) hx hb d_M_compareSizes_30 ?_
        refine lv_goto (tgt := 35) hx hb d_M_compareSizes_31 (by decide) ?_
        rw [← hQ]
        exact pw_iret hx hb hr hlocks hw (⟨cmpI_l (by rw [← hva, ← hvb]; exact mg_S hDa htb (by omega)), rfl⟩) d_M_compareSizes_35
  rw [hH, hlo] at hgo
  exact hgo
set_option maxHeartbeats 4000000 in
set_option maxRecDepth 100000 in
/-- addSizes(to, a, b) -/
theorem c_M_addSizes (l : Launch) (D : va_G) (ty : Nat → ClassId) (ad : Nat → Nat) (M : Nat) (F : Nat → va_E) (sz : Nat) (hM : 103 < M) (co ln wr : Int) (hO : F 98 = oM ad co ln wr) (P S G : Nat → Int32) (hMA : MA ty F P S G) (to a b1 na nb : Nat) (hto : to < 43) (ha : a < 43) (hb1 : b1 < 43) (hSa : S a = iI na) (hSb : S b1 = iI nb) (hna : na < 299) (hnb : nb < 299) (hDa : Dg P a na) (hDb : Dg P b1 nb) :
    CV l y_M_addSizes w_M_addSizes ({ frames := 0, cells := 0, slots := 0, locals := 0 } : Room) [.ref (ad (98)), .int (iI ((to : Int))), .int (iI ((a : Int))), .int (iI ((b1 : Int)))] D ty ad M F sz (fun F1 => ∃ P' S', MA ty F1 P' S' G ∧ S' to = iI ((max na nb + 1 : Nat) : Int) ∧ Dg P' to (max na nb + 1) ∧ bvP P' to (max na nb + 1) = bvP P a na + bvP P b1 nb ∧ (∀ c, c ≠ to → S' c = S c) ∧ (∀ j, j < 300 * to ∨ 300 * to + 300 ≤ j → P' j = P j) ∧ frM F F1) := by
  refine Met.ofW (cc := b_M_addSizes) (maxL := 8) (ret := none) (by decide) rfl ?_
  intro p e s m args below meth c s₁ B hml hv
  obtain ⟨rfl, hsz, hP, hK, hD0⟩ := hv
  have hx := B.exec
  have hb := B.bytes
  have hr := B.returns
  have hts := atoms_spec (ws := w_M_addSizes) B.pre
  have hq : ∀ w ∈ wT, w.before _ s = true := fun w h => hts w (List.mem_cons_of_mem _ h)
  have hown : s.vm.findClass R_M = some m.cls := findClass_of_methodNamed B.named
  have hlocks := B.notSynchronized
  subst hsz
  have hw := pw_start hP hK hD0
  have hl := lv_entry ([.ref (ad (98)), .int (iI ((to : Int))), .int (iI ((a : Int))), .int (iI ((b1 : Int)))]) (n := 8) (Nat.le_of_ble_eq_true rfl)
  rw [lg_entry_eq]
  generalize (lg_sl ([.ref (ad (98)), .int (iI ((to : Int))), .int (iI ((a : Int))), .int (iI ((b1 : Int)))]) ++ List.replicate (8 - (lg_sl ([.ref (ad (98)), .int (iI ((to : Int))), .int (iI ((a : Int))), .int (iI ((b1 : Int)))])).length) Slot.unset).toArray = ls at hl ⊢
  have hl : lv_has ls 8 [(0, .ref (ad (98))), (1, .int (iI ((to : Int)))), (2, .int (iI ((a : Int)))), (3, .int (iI ((b1 : Int))))] := hl
  change W p l e ({ frames := 0, cells := 0, slots := 0, locals := 0 } : Room) s m ([.ref (ad (98)), .int (iI ((to : Int))), .int (iI ((a : Int))), .int (iI ((b1 : Int)))]).toArray below meth c s.heap [] 0 0 (MQ below (va_Qv (fun F1 => ∃ P' S', MA ty F1 P' S' G ∧ S' to = iI ((max na nb + 1 : Nat) : Int) ∧ Dg P' to (max na nb + 1) ∧ bvP P' to (max na nb + 1) = bvP P a na + bvP P b1 nb ∧ (∀ c, c ≠ to → S' c = S c) ∧ (∀ j, j < 300 * to ∨ 300 * to + 300 ≤ j → P' j = P j) ∧ frM F F1) (pAt D classes (tysL ty) ad M (pA ad M s.heap.size)) (pA ad M s.heap.size)) ([.ref (ad (98)), .int (iI ((to : Int))), .int (iI ((a : Int))), .int (iI ((b1 : Int)))]).toArray s 0 0 (pA ad M s.heap.size)) (F0 m 0 ls [])
  generalize hQ : MQ below (va_Qv (fun F1 => ∃ P' S', MA ty F1 P' S' G ∧ S' to = iI ((max na nb + 1 : Nat) : Int) ∧ Dg P' to (max na nb + 1) ∧ bvP P' to (max na nb + 1) = bvP P a na + bvP P b1 nb ∧ (∀ c, c ≠ to → S' c = S c) ∧ (∀ j, j < 300 * to ∨ 300 * to + 300 ≤ j → P' j = P j) ∧ frM F F1) (pAt D classes (tysL ty) ad M (pA ad M s.heap.size)) (pA ad M s.heap.size)) ([.ref (ad (98)), .int (iI ((to : Int))), .int (iI ((a : Int))), .int (iI ((b1 : Int)))]).toArray s 0 0 (pA ad M s.heap.size) = Q
  obtain ⟨H, hH⟩ : ∃ H, H = s.heap := ⟨_, rfl⟩
  obtain ⟨locs, hlo⟩ : ∃ z : List Loc, z = [] := ⟨_, rfl⟩
  have hw : pw D classes (tysL ty) ad M F (pA ad M s.heap.size) s H locs := by rw [hH, hlo]; exact hw
  have hgo : W p l e ({ frames := 0, cells := 0, slots := 0, locals := 0 } : Room) s m ([.ref (ad (98)), .int (iI ((to : Int))), .int (iI ((a : Int))), .int (iI ((b1 : Int)))]).toArray below meth c H locs 0 0 Q (F0 m 0 ls []) := by
    obtain ⟨h99, h100, h101⟩ := id hMA
    obtain ⟨n, hn⟩ : ∃ n, n = max na nb := ⟨_, rfl⟩
    have hn1 : na ≤ n := by omega
    have hn2 : nb ≤ n := by omega
    have hn3 : n = na ∨ n = nb := by omega
    rw [← hn] at hQ
    have K38 : ∀ (fuel : Nat) (k cy : Nat) (P9 : Nat → Int32) (F38 : Nat → va_E) (H : Heap) (locs : List Loc) (ls : Array Slot), n - k < fuel → (k ≤ n) → (cy ≤ 1) → (bvP P9 to k + cy * 65536 ^ k = bv 65536 (pd P a na) k + bv 65536 (pd P b1 nb) k) → (Dg P9 to k) → (∀ j, j < 300 * to ∨ 300 * to + k ≤ j → P9 j = P j) → (∀ y, y ≠ 99 → F38 y = F y) → F38 (98) = .inr (6, [.int (iI (co)), .ref (ad (99)), .ref (ad (100)), .ref (ad (101)), .ref (ad (102)), .int (iI (ln)), .int (iI (wr)), .ref (ad (103))]) → F38 (99) = .inl (ty 0, 12900, .inl (P9)) → F38 (100) = .inl (ty 0, 43, .inl (S)) → F38 (101) = .inl (ty 4, 43, .inl (G)) → pw D classes (tysL ty) ad M F38 (pA ad M s.heap.size) s H locs → lv_has ls 8 [(0, .ref (ad (98))), (1, .int (iI ((to : Int)))), (2, .int (iI ((a : Int)))), (3, .int (iI ((b1 : Int)))), (4, .int (iI ((n : Int)))), (5, .int (iI ((cy : Int)))), (6, .int (iI ((k : Int))))] → W p l e ({ frames := 0, cells := 0, slots := 0, locals := 0 } : Room) s m ([.ref (ad (98)), .int (iI ((to : Int))), .int (iI ((a : Int))), .int (iI ((b1 : Int)))]).toArray below meth c H locs 0 0 Q (F0 m 38 ls []) := by
      intro fuel
      induction fuel with
      | zero => intro k cy P9 F38 H locs ls hfuel hk hcy hval hDg hPo hfr hO h99 h100 h101 hw hl; exact absurd hfuel (Nat.not_lt_zero _)
      | succ fuel ih38 =>
        intro k cy P9 F38 H locs ls hfuel hk hcy hval hDg hPo hfr hO h99 h100 h101 hw hl
        refine lv_iload hx hb d_M_addSizes_38 (lv_at hl 6 rfl) ?_
        refine lv_iload hx hb d_M_addSizes_40 (lv_at hl 4 rfl) ?_
        refine wz_icmp_ge (tgt := 138) hx hb d_M_addSizes_42 (by decide) (by omega) (by omega) (by omega) (by omega) (fun c42 => ?_) (fun c42 => ?_)
        · have hkn : k = n := by omega
          subst hkn
          refine lv_aload_n hx hb d_M_addSizes_138 rfl (lv_at hl 0 rfl) ?_
          refine pw_get (ci := 6) (C := R_M) (T := T_M) (N := 8) hx hb hq i_M hown hw (by omega) hO rfl 1 (by decide) (hq _ fl_M_7) (fun _ h9 => h9) rfl d_M_addSizes_139 ?_
          refine wz_sipush (n := 300) hx hb d_M_addSizes_142 (by decide) ?_
          refine lv_iload_n hx hb d_M_addSizes_145 rfl (lv_at hl 1 rfl) ?_
          refine wz_imul hx hb d_M_addSizes_146 rfl ?_
          refine lv_iload hx hb d_M_addSizes_147 (lv_at hl 4 rfl) ?_
          refine wz_iadd hx hb d_M_addSizes_149 rfl ?_
          refine lv_iload hx hb d_M_addSizes_150 (lv_at hl 5 rfl) ?_
          refine pw_iast (k := 300 * to + k) hx hb hw 0 (by omega) h99 rfl (iI_in (by omega) (by omega) (by omega)) ((iI_cl (by omega) (by omega)).trans (by omega)) d_M_addSizes_152 (fun F152 H locs eF152 hw => ?_)
          obtain ⟨P8, eP8⟩ : ∃ z9, z9 = upd P9 (300 * to + k) (iI ((cy : Int))) := ⟨_, rfl⟩
          rw [← eP8] at eF152
          have m152_99 : F152 (99) = .inl (ty 0, 12900, .inl (P8)) := by rw [eF152]; exact va_up_self ..
          have hO_at_152 : F152 (98) = .inr (6, [.int (iI (co)), .ref (ad (99)), .ref (ad (100)), .ref (ad (101)), .ref (ad (102)), .int (iI (ln)), .int (iI (wr)), .ref (ad (103))]) := (show F152 (98) = F38 (98) from by rw [eF152]; exact va_up_ne _ _ (by omega)).trans hO
          have h100_at_152 : F152 (100) = .inl (ty 0, 43, .inl (S)) := (show F152 (100) = F38 (100) from by rw [eF152]; exact va_up_ne _ _ (by omega)).trans h100
          have h101_at_152 : F152 (101) = .inl (ty 4, 43, .inl (G)) := (show F152 (101) = F38 (101) from by rw [eF152]; exact va_up_ne _ _ (by omega)).trans h101
          refine lv_aload_n hx hb d_M_addSizes_153 rfl (lv_at hl 0 rfl) ?_
          refine pw_get (ci := 6) (C := R_M) (T := T_M) (N := 8) hx hb hq i_M hown hw (by omega) hO_at_152 rfl 2 (by decide) (hq _ fl_M_13) (fun _ h9 => h9) rfl d_M_addSizes_154 ?_
          refine lv_iload_n hx hb d_M_addSizes_157 rfl (lv_at hl 1 rfl) ?_
          refine lv_iload hx hb d_M_addSizes_158 (lv_at hl 4 rfl) ?_
          refine wz_iconst (n := 1) hx hb d_M_addSizes_160 ?_
          refine wz_iadd (z := ((k + 1 : Nat) : Int)) hx hb d_M_addSizes_161 (by omega) ?_
          refine pw_iast (k := to) hx hb hw 0 (by omega) h100_at_152 rfl (iI_in (by omega) (by omega) (by omega)) ((iI_cl (by omega) (by omega)).trans (by omega)) d_M_addSizes_162 (fun F162 H locs eF162 hw => ?_)
          obtain ⟨S9, eS9⟩ : ∃ z9, z9 = upd S (to) (iI (((k + 1 : Nat) : Int))) := ⟨_, rfl⟩
          rw [← eS9] at eF162
          have m162_100 : F162 (100) = .inl (ty 0, 43, .inl (S9)) := by rw [eF162]; exact va_up_self ..
          have hO_at_162 : F162 (98) = .inr (6, [.int (iI (co)), .ref (ad (99)), .ref (ad (100)), .ref (ad (101)), .ref (ad (102)), .int (iI (ln)), .int (iI (wr)), .ref (ad (103))]) := (show F162 (98) = F152 (98) from by rw [eF162]; exact va_up_ne _ _ (by omega)).trans hO_at_152
          have h101_at_162 : F162 (101) = .inl (ty 4, 43, .inl (G)) := (show F162 (101) = F152 (101) from by rw [eF162]; exact va_up_ne _ _ (by omega)).trans h101_at_152
          have m152_99_at_162 : F162 (99) = .inl (ty 0, 12900, .inl (P8)) := (show F162 (99) = F152 (99) from by rw [eF162]; exact va_up_ne _ _ (by omega)).trans m152_99
          have hPo8 : ∀ j, j < 300 * to ∨ 300 * to + 300 ≤ j → P8 j = P j := fun j hj => by rw [eP8, pk_un (by omega)]; exact hPo j (by omega)
          rw [← hQ]
          exact pw_vret hx hb hr hlocks hw (⟨P8, S9, ⟨m152_99_at_162, m162_100, h101_at_162⟩, by rw [eS9, pk_us], by rw [eP8]; exact Dg_up hDg (by omega), by rw [eP8, bvP_s, bvP_up (Nat.le_refl _), dig_up (by omega), hval, pd_bv hn1, pd_bv hn2], fun c9 h9 => by rw [eS9, pk_un h9], fun j hj => hPo8 j hj, fun y9 h1 h2 h3 => ((show F162 (y9) = F152 (y9) from by rw [eF162]; exact va_up_ne _ _ (by omega)).trans (show F152 (y9) = F38 (y9) from by rw [eF152]; exact va_up_ne _ _ (by omega))).trans (hfr y9 h1)⟩) d_M_addSizes_163
        · have hlA := pd_lt hDa k
          have hlB := pd_lt hDb k
          obtain ⟨w0, hw0⟩ : ∃ w0, w0 = cy + pd P a na k + pd P b1 nb k := ⟨_, rfl⟩
          refine lv_iload hx hb d_M_addSizes_45 (lv_at hl 5 rfl) ?_
          refine lv_iload hx hb d_M_addSizes_47 (lv_at hl 6 rfl) ?_
          refine lv_aload_n hx hb d_M_addSizes_49 rfl (lv_at hl 0 rfl) ?_
          refine pw_get (ci := 6) (C := R_M) (T := T_M) (N := 8) hx hb hq i_M hown hw (by omega) hO rfl 2 (by decide) (hq _ fl_M_13) (fun _ h9 => h9) rfl d_M_addSizes_50 ?_
          refine lv_iload_n hx hb d_M_addSizes_53 rfl (lv_at hl 2 rfl) ?_
          refine pw_iald (k := a) hx hb hw 0 (by omega) h100 rfl (iI_in (by omega) (by omega) (by omega)) ((iI_cl (by omega) (by omega)).trans (by omega)) d_M_addSizes_54 ?_
          refine lv_topi (fun x54 ex54 => ?_)
          obtain rfl : x54 = iI ((na : Int)) := ex54.trans (hSa)
          refine wz_icmp_ge (tgt := 74) hx hb d_M_addSizes_55 (by decide) (by omega) (by omega) (by omega) (by omega) (fun c55 => ?_) (fun c55 => ?_)
          · have hpA := pd_out (P := P) (a := a) (n := na) (i := k) (by omega)
            refine wz_iconst (n := 0) hx hb d_M_addSizes_74 ?_
            refine wz_iadd (z := (cy : Int) + (pd P a na k : Int)) hx hb d_M_addSizes_75 (by omega) ?_
            refine lv_iload hx hb d_M_addSizes_76 (lv_at hl 6 rfl) ?_
            refine lv_aload_n hx hb d_M_addSizes_78 rfl (lv_at hl 0 rfl) ?_
            refine pw_get (ci := 6) (C := R_M) (T := T_M) (N := 8) hx hb hq i_M hown hw (by omega) hO rfl 2 (by decide) (hq _ fl_M_13) (fun _ h9 => h9) rfl d_M_addSizes_79 ?_
            refine lv_iload_n hx hb d_M_addSizes_82 rfl (lv_at hl 3 rfl) ?_
            refine pw_iald (k := b1) hx hb hw 0 (by omega) h100 rfl (iI_in (by omega) (by omega) (by omega)) ((iI_cl (by omega) (by omega)).trans (by omega)) d_M_addSizes_83 ?_
            refine lv_topi (fun x83 ex83 => ?_)
            obtain rfl : x83 = iI ((nb : Int)) := ex83.trans (hSb)
            refine wz_icmp_ge (tgt := 103) hx hb d_M_addSizes_84 (by decide) (by omega) (by omega) (by omega) (by omega) (fun c84 => ?_) (fun c84 => ?_)
            · have hpB := pd_out (P := P) (a := b1) (n := nb) (i := k) (by omega)
              refine wz_iconst (n := 0) hx hb d_M_addSizes_103 ?_
              refine wz_iadd (z := (w0 : Int)) hx hb d_M_addSizes_104 (by omega) ?_
              refine lv_istore (lv' := [(7, .int (iI ((w0 : Int)))), (0, .ref (ad (98))), (1, .int (iI ((to : Int)))), (2, .int (iI ((a : Int)))), (3, .int (iI ((b1 : Int)))), (4, .int (iI ((n : Int)))), (5, .int (iI ((cy : Int)))), (6, .int (iI ((k : Int))))]) hx hb d_M_addSizes_105 hl (by decide) rfl (fun ls hl => ?_)
              refine lv_aload_n hx hb d_M_addSizes_107 rfl (lv_at hl 1 rfl) ?_
              refine pw_get (ci := 6) (C := R_M) (T := T_M) (N := 8) hx hb hq i_M hown hw (by omega) hO rfl 1 (by decide) (hq _ fl_M_7) (fun _ h9 => h9) rfl d_M_addSizes_108 ?_
              refine wz_sipush (n := 300) hx hb d_M_addSizes_111 (by decide) ?_
              refine lv_iload_n hx hb d_M_addSizes_114 rfl (lv_at hl 2 rfl) ?_
              refine wz_imul hx hb d_M_addSizes_115 rfl ?_
              refine lv_iload hx hb d_M_addSizes_116 (lv_at hl 7 rfl) ?_
              refine wz_iadd hx hb d_M_addSizes_118 rfl ?_
              refine lv_iload hx hb d_M_addSizes_119 (lv_at hl 0 rfl) ?_
              refine lv_ldc (v := iI (65536)) hx hb hown (hq _ co_M_43) d_M_addSizes_121 ?_
              refine wz_irem (a := w0) (b := 65536) (z := w0 % 65536) hx hb d_M_addSizes_123 (by omega) (by omega) (by omega) (rfl) ?_
              refine pw_iast (k := 300 * to + k) hx hb hw 0 (by omega) h99 rfl (iI_in (by omega) (by omega) (by omega)) ((iI_cl (by omega) (by omega)).trans (by omega)) d_M_addSizes_124 (fun F124 H locs eF124 hw => ?_)
              have m124_99 : F124 (99) = .inl (ty 0, 12900, .inl (upd P9 (300 * to + k) (iI (((w0 % 65536 : Nat) : Int))))) := by rw [eF124]; exact va_up_self ..
              have hO_at_124 : F124 (98) = .inr (6, [.int (iI (co)), .ref (ad (99)), .ref (ad (100)), .ref (ad (101)), .ref (ad (102)), .int (iI (ln)), .int (iI (wr)), .ref (ad (103))]) := (show F124 (98) = F38 (98) from by rw [eF124]; exact va_up_ne _ _ (by omega)).trans hO
              have h100_at_124 : F124 (100) = .inl (ty 0, 43, .inl (S)) := (show F124 (100) = F38 (100) from by rw [eF124]; exact va_up_ne _ _ (by omega)).trans h100
              have h101_at_124 : F124 (101) = .inl (ty 4, 43, .inl (G)) := (show F124 (101) = F38 (101) from by rw [eF124]; exact va_up_ne _ _ (by omega)).trans h101
              refine lv_iload hx hb d_M_addSizes_125 (lv_at hl 0 rfl) ?_
              refine lv_ldc (v := iI (65536)) hx hb hown (hq _ co_M_43) d_M_addSizes_127 ?_
              refine wz_idiv (a := w0) (b := 65536) (z := w0 / 65536) hx hb d_M_addSizes_129 (by omega) (by omega) (by omega) (rfl) ?_
              refine lv_istore (lv' := [(5, .int (iI (((w0 / 65536 : Nat) : Int)))), (7, .int (iI ((w0 : Int)))), (0, .ref (ad (98))), (1, .int (iI ((to : Int)))), (2, .int (iI ((a : Int)))), (3, .int (iI ((b1 : Int)))), (4, .int (iI ((n : Int)))), (6, .int (iI ((k : Int))))]) hx hb d_M_addSizes_130 hl (by decide) rfl (fun ls hl => ?_)
              refine wz_iinc (z := ((k + 1 : Nat) : Int)) (lv' := [(6, .int (iI (((k + 1 : Nat) : Int)))), (5, .int (iI (((w0 / 65536 : Nat) : Int)))), (7, .int (iI ((w0 : Int)))), (0, .ref (ad (98))), (1, .int (iI ((to : Int)))), (2, .int (iI ((a : Int)))), (3, .int (iI ((b1 : Int)))), (4, .int (iI ((n : Int))))]) hx hb d_M_addSizes_132 hl (k := 7) rfl (by omega) (by decide) rfl (fun ls hl => ?_)
              refine lv_goto (tgt := 38) hx hb d_M_addSizes_135 (by decide) ?_
              exact ih38 (k + 1) (w0 / 65536) (upd P9 (300 * to + k) (iI ((w0 % 65536 : Nat) : Int))) _ _ _ ls (by omega) (by omega) (by omega) (by
                rw [bvP_s, bvP_up (Nat.le_refl _), dig_up (by omega), bv_s, bv_s, Nat.pow_succ]; exact add_step hval hw0) (Dg_up hDg (by omega)) (fun j hj => by rw [pk_un (by omega)]; exact hPo j (by omega)) (fun y9 h9 => (show F124 (y9) = F38 (y9) from by rw [eF124]; exact va_up_ne _ _ (by omega)).trans (hfr y9 h9)) hO_at_124 m124_99 h100_at_124 h101_at_124 hw (lv_sub hl [3, 4, 5, 6, 7, 1, 0] rfl)
            · have hpB := pd_in (P := P) (a := b1) (n := nb) (i := k) (by omega)
              refine lv_aload_n hx hb d_M_addSizes_87 rfl (lv_at hl 0 rfl) ?_
              refine pw_get (ci := 6) (C := R_M) (T := T_M) (N := 8) hx hb hq i_M hown hw (by omega) hO rfl 1 (by decide) (hq _ fl_M_7) (fun _ h9 => h9) rfl d_M_addSizes_88 ?_
              refine wz_sipush (n := 300) hx hb d_M_addSizes_91 (by decide) ?_
              refine lv_iload_n hx hb d_M_addSizes_94 rfl (lv_at hl 3 rfl) ?_
              refine wz_imul hx hb d_M_addSizes_95 rfl ?_
              refine lv_iload hx hb d_M_addSizes_96 (lv_at hl 6 rfl) ?_
              refine wz_iadd hx hb d_M_addSizes_98 rfl ?_
              refine pw_iald (k := 300 * b1 + k) hx hb hw 0 (by omega) h99 rfl (iI_in (by omega) (by omega) (by omega)) ((iI_cl (by omega) (by omega)).trans (by omega)) d_M_addSizes_99 ?_
              refine lv_topi (fun x99 ex99 => ?_)
              obtain rfl : x99 = iI ((dl P (300 * b1 + k) : Int)) := ex99.trans ((hPo _ (by omega)).trans (hDb.get (by omega)))
              refine lv_goto (tgt := 104) hx hb d_M_addSizes_100 (by decide) ?_
              refine wz_iadd (z := (w0 : Int)) hx hb d_M_addSizes_104 (by omega) ?_
              refine lv_istore (lv' := [(7, .int (iI ((w0 : Int)))), (0, .ref (ad (98))), (1, .int (iI ((to : Int)))), (2, .int (iI ((a : Int)))), (3, .int (iI ((b1 : Int)))), (4, .int (iI ((n : Int)))), (5, .int (iI ((cy : Int)))), (6, .int (iI ((k : Int))))]) hx hb d_M_addSizes_105 hl (by decide) rfl (fun ls hl => ?_)
              refine lv_aload_n hx hb d_M_addSizes_107 rfl (lv_at hl 1 rfl) ?_
              refine pw_get (ci := 6) (C := R_M) (T := T_M) (N := 8) hx hb hq i_M hown hw (by omega) hO rfl 1 (by decide) (hq _ fl_M_7) (fun _ h9 => h9) rfl d_M_addSizes_108 ?_
              refine wz_sipush (n := 300) hx hb d_M_addSizes_111 (by decide) ?_
              refine lv_iload_n hx hb d_M_addSizes_114 rfl (lv_at hl 2 rfl) ?_
              refine wz_imul hx hb d_M_addSizes_115 rfl ?_
              refine lv_iload hx hb d_M_addSizes_116 (lv_at hl 7 rfl) ?_
              refine wz_iadd hx hb d_M_addSizes_118 rfl ?_
              refine lv_iload hx hb d_M_addSizes_119 (lv_at hl 0 rfl) ?_
              refine lv_ldc (v := iI (65536)) hx hb hown (hq _ co_M_43) d_M_addSizes_121 ?_
              refine wz_irem (a := w0) (b := 65536) (z := w0 % 65536) hx hb d_M_addSizes_123 (by omega) (by omega) (by omega) (rfl) ?_
              refine pw_iast (k := 300 * to + k) hx hb hw 0 (by omega) h99 rfl (iI_in (by omega) (by omega) (by omega)) ((iI_cl (by omega) (by omega)).trans (by omega)) d_M_addSizes_124 (fun F124 H locs eF124 hw => ?_)
              have m124_99 : F124 (99) = .inl (ty 0, 12900, .inl (upd P9 (300 * to + k) (iI (((w0 % 65536 : Nat) : Int))))) := by rw [eF124]; exact va_up_self ..
              have hO_at_124 : F124 (98) = .inr (6, [.int (iI (co)), .ref (ad (99)), .ref (ad (100)), .ref (ad (101)), .ref (ad (102)), .int (iI (ln)), .int (iI (wr)), .ref (ad (103))]) := (show F124 (98) = F38 (98) from by rw [eF124]; exact va_up_ne _ _ (by omega)).trans hO
              have h100_at_124 : F124 (100) = .inl (ty 0, 43, .inl (S)) := (show F124 (100) = F38 (100) from by rw [eF124]; exact va_up_ne _ _ (by omega)).trans h100
              have h101_at_124 : F124 (101) = .inl (ty 4, 43, .inl (G)) := (show F124 (101) = F38 (101) from by rw [eF124]; exact va_up_ne _ _ (by omega)).trans h101
              refine lv_iload hx hb d_M_addSizes_125 (lv_at hl 0 rfl) ?_
              refine lv_ldc (v := iI (65536)) hx hb hown (hq _ co_M_43) d_M_addSizes_127 ?_
              refine wz_idiv (a := w0) (b := 65536) (z := w0 / 65536) hx hb d_M_addSizes_129 (by omega) (by omega) (by omega) (rfl) ?_
              refine lv_istore (lv' := [(5, .int (iI (((w0 / 65536 : Nat) : Int)))), (7, .int (iI ((w0 : Int)))), (0, .ref (ad (98))), (1, .int (iI ((to : Int)))), (2, .int (iI ((a : Int)))), (3, .int (iI ((b1 : Int)))), (4, .int (iI ((n : Int)))), (6, .int (iI ((k : Int))))]) hx hb d_M_addSizes_130 hl (by decide) rfl (fun ls hl => ?_)
              refine wz_iinc (z := ((k + 1 : Nat) : Int)) (lv' := [(6, .int (iI (((k + 1 : Nat) : Int)))), (5, .int (iI (((w0 / 65536 : Nat) : Int)))), (7, .int (iI ((w0 : Int)))), (0, .ref (ad (98))), (1, .int (iI ((to : Int)))), (2, .int (iI ((a : Int)))), (3, .int (iI ((b1 : Int)))), (4, .int (iI ((n : Int))))]) hx hb d_M_addSizes_132 hl (k := 7) rfl (by omega) (by decide) rfl (fun ls hl => ?_)
              refine lv_goto (tgt := 38) hx hb d_M_addSizes_135 (by decide) ?_
              exact ih38 (k + 1) (w0 / 65536) (upd P9 (300 * to + k) (iI ((w0 % 65536 : Nat) : Int))) _ _ _ ls (by omega) (by omega) (by omega) (by
                rw [bvP_s, bvP_up (Nat.le_refl _), dig_up (by omega), bv_s, bv_s, Nat.pow_succ]; exact add_step hval hw0) (Dg_up hDg (by omega)) (fun j hj => by rw [pk_un (by omega)]; exact hPo j (by omega)) (fun y9 h9 => (show F124 (y9) = F38 (y9) from by rw [eF124]; exact va_up_ne _ _ (by omega)).trans (hfr y9 h9)) hO_at_124 m124_99 h100_at_124 h101_at_124 hw (lv_sub hl [3, 4, 5, 6, 7, 1, 0] rfl)
          · have hpA := pd_in (P := P) (a := a) (n := na) (i := k) (by omega)
            refine lv_aload_n hx hb d_M_addSizes_58 rfl (lv_at hl 0 rfl) ?_
            refine pw_get (ci := 6) (C := R_M) (T := T_M) (N := 8) hx hb hq i_M hown hw (by omega) hO rfl 1 (by decide) (hq _ fl_M_7) (fun _ h9 => h9) rfl d_M_addSizes_59 ?_
            refine wz_sipush (n := 300) hx hb d_M_addSizes_62 (by decide) ?_
            refine lv_iload_n hx hb d_M_addSizes_65 rfl (lv_at hl 2 rfl) ?_
            refine wz_imul hx hb d_M_addSizes_66 rfl ?_
            refine lv_iload hx hb d_M_addSizes_67 (lv_at hl 6 rfl) ?_
            refine wz_iadd hx hb d_M_addSizes_69 rfl ?_
            refine pw_iald (k := 300 * a + k) hx hb hw 0 (by omega) h99 rfl (iI_in (by omega) (by omega) (by omega)) ((iI_cl (by omega) (by omega)).trans (by omega)) d_M_addSizes_70 ?_
            refine lv_topi (fun x70 ex70 => ?_)
            obtain rfl : x70 = iI ((dl P (300 * a + k) : Int)) := ex70.trans ((hPo _ (by omega)).trans (hDa.get (by omega)))
            refine lv_goto (tgt := 75) hx hb d_M_addSizes_71 (by decide) ?_
            refine wz_iadd (z := (cy : Int) + (pd P a na k : Int)) hx hb d_M_addSizes_75 (by omega) ?_
            refine lv_iload hx hb d_M_addSizes_76 (lv_at hl 6 rfl) ?_
            refine lv_aload_n hx hb d_M_addSizes_78 rfl (lv_at hl 0 rfl) ?_
            refine pw_get (ci := 6) (C := R_M) (T := T_M) (N := 8) hx hb hq i_M hown hw (by omega) hO rfl 2 (by decide) (hq _ fl_M_13) (fun _ h9 => h9) rfl d_M_addSizes_79 ?_
            refine lv_iload_n hx hb d_M_addSizes_82 rfl (lv_at hl 3 rfl) ?_
            refine pw_iald (k := b1) hx hb hw 0 (by omega) h100 rfl (iI_in (by omega) (by omega) (by omega)) ((iI_cl (by omega) (by omega)).trans (by omega)) d_M_addSizes_83 ?_
            refine lv_topi (fun x83 ex83 => ?_)
            obtain rfl : x83 = iI ((nb : Int)) := ex83.trans (hSb)
            refine wz_icmp_ge (tgt := 103) hx hb d_M_addSizes_84 (by decide) (by omega) (by omega) (by omega) (by omega) (fun c84 => ?_) (fun c84 => ?_)
            · have hpB := pd_out (P := P) (a := b1) (n := nb) (i := k) (by omega)
              refine wz_iconst (n := 0) hx hb d_M_addSizes_103 ?_
              refine wz_iadd (z := (w0 : Int)) hx hb d_M_addSizes_104 (by omega) ?_
              refine lv_istore (lv' := [(7, .int (iI ((w0 : Int)))), (0, .ref (ad (98))), (1, .int (iI ((to : Int)))), (2, .int (iI ((a : Int)))), (3, .int (iI ((b1 : Int)))), (4, .int (iI ((n : Int)))), (5, .int (iI ((cy : Int)))), (6, .int (iI ((k : Int))))]) hx hb d_M_addSizes_105 hl (by decide) rfl (fun ls hl => ?_)
              refine lv_aload_n hx hb d_M_addSizes_107 rfl (lv_at hl 1 rfl) ?_
              refine pw_get (ci := 6) (C := R_M) (T := T_M) (N := 8) hx hb hq i_M hown hw (by omega) hO rfl 1 (by decide) (hq _ fl_M_7) (fun _ h9 => h9) rfl d_M_addSizes_108 ?_
              refine wz_sipush (n := 300) hx hb d_M_addSizes_111 (by decide) ?_
              refine lv_iload_n hx hb d_M_addSizes_114 rfl (lv_at hl 2 rfl) ?_
              refine wz_imul hx hb d_M_addSizes_115 rfl ?_
              refine lv_iload hx hb d_M_addSizes_116 (lv_at hl 7 rfl) ?_
              refine wz_iadd hx hb d_M_addSizes_118 rfl ?_
              refine lv_iload hx hb d_M_addSizes_119 (lv_at hl 0 rfl) ?_
              refine lv_ldc (v := iI (65536)) hx hb hown (hq _ co_M_43) d_M_addSizes_121 ?_
              refine wz_irem (a := w0) (b := 65536) (z := w0 % 65536) hx hb d_M_addSizes_123 (by omega) (by omega) (by omega) (rfl) ?_
              refine pw_iast (k := 300 * to + k) hx hb hw 0 (by omega) h99 rfl (iI_in (by omega) (by omega) (by omega)) ((iI_cl (by omega) (by omega)).trans (by omega)) d_M_addSizes_124 (fun F124 H locs eF124 hw => ?_)
              have m124_99 : F124 (99) = .inl (ty 0, 12900, .inl (upd P9 (300 * to + k) (iI (((w0 % 65536 : Nat) : Int))))) := by rw [eF124]; exact va_up_self ..
              have hO_at_124 : F124 (98) = .inr (6, [.int (iI (co)), .ref (ad (99)), .ref (ad (100)), .ref (ad (101)), .ref (ad (102)), .int (iI (ln)), .int (iI (wr)), .ref (ad (103))]) := (show F124 (98) = F38 (98) from by rw [eF124]; exact va_up_ne _ _ (by omega)).trans hO
              have h100_at_124 : F124 (100) = .inl (ty 0, 43, .inl (S)) := (show F124 (100) = F38 (100) from by rw [eF124]; exact va_up_ne _ _ (by omega)).trans h100
              have h101_at_124 : F124 (101) = .inl (ty 4, 43, .inl (G)) := (show F124 (101) = F38 (101) from by rw [eF124]; exact va_up_ne _ _ (by omega)).trans h101
              refine lv_iload hx hb d_M_addSizes_125 (lv_at hl 0 rfl) ?_
              refine lv_ldc (v := iI (65536)) hx hb hown (hq _ co_M_43) d_M_addSizes_127 ?_
              refine wz_idiv (a := w0) (b := 65536) (z := w0 / 65536) hx hb d_M_addSizes_129 (by omega) (by omega) (by omega) (rfl) ?_
              refine lv_istore (lv' := [(5, .int (iI (((w0 / 65536 : Nat) : Int)))), (7, .int (iI ((w0 : Int)))), (0, .ref (ad (98))), (1, .int (iI ((to : Int)))), (2, .int (iI ((a : Int)))), (3, .int (iI ((b1 : Int)))), (4, .int (iI ((n : Int)))), (6, .int (iI ((k : Int))))]) hx hb d_M_addSizes_130 hl (by decide) rfl (fun ls hl => ?_)
              refine wz_iinc (z := ((k + 1 : Nat) : Int)) (lv' := [(6, .int (iI (((k + 1 : Nat) : Int)))), (5, .int (iI (((w0 / 65536 : Nat) : Int)))), (7, .int (iI ((w0 : Int)))), (0, .ref (ad (98))), (1, .int (iI ((to : Int)))), (2, .int (iI ((a : Int)))), (3, .int (iI ((b1 : Int)))), (4, .int (iI ((n : Int))))]) hx hb d_M_addSizes_132 hl (k := 7) rfl (by omega) (by decide) rfl (fun ls hl => ?_)
              refine lv_goto (tgt := 38) hx hb d_M_addSizes_135 (by decide) ?_
              exact ih38 (k + 1) (w0 / 65536) (upd P9 (300 * to + k) (iI ((w0 % 65536 : Nat) : Int))) _ _ _ ls (by omega) (by omega) (by omega) (by
                rw [bvP_s, bvP_up (Nat.le_refl _), dig_up (by omega), bv_s, bv_s, Nat.pow_succ]; exact add_step hval hw0) (Dg_up hDg (by omega)) (fun j hj => by rw [pk_un (by omega)]; exact hPo j (by omega)) (fun y9 h9 => (show F124 (y9) = F38 (y9) from by rw [eF124]; exact va_up_ne _ _ (by omega)).trans (hfr y9 h9)) hO_at_124 m124_99 h100_at_124 h101_at_124 hw (lv_sub hl [3, 4, 5, 6, 7, 1, 0] rfl)
            · have hpB := pd_in (P := P) (a := b1) (n := nb) (i := k) (by omega)
              refine lv_aload_n hx hb d_M_addSizes_87 rfl (lv_at hl 0 rfl) ?_
              refine pw_get (ci := 6) (C := R_M) (T := T_M) (N := 8) hx hb hq i_M hown hw (by omega) hO rfl 1 (by decide) (hq _ fl_M_7) (fun _ h9 => h9) rfl d_M_addSizes_88 ?_
              refine wz_sipush (n := 300) hx hb d_M_addSizes_91 (by decide) ?_
              refine lv_iload_n hx hb d_M_addSizes_94 rfl (lv_at hl 3 rfl) ?_
              refine wz_imul hx hb d_M_addSizes_95 rfl ?_
              refine lv_iload hx hb d_M_addSizes_96 (lv_at hl 6 rfl) ?_
              refine wz_iadd hx hb d_M_addSizes_98 rfl ?_
              refine pw_iald (k := 300 * b1 + k) hx hb hw 0 (by omega) h99 rfl (iI_in (by omega) (by omega) (by omega)) ((iI_cl (by omega) (by omega)).trans (by omega)) d_M_addSizes_99 ?_
              refine lv_topi (fun x99 ex99 => ?_)
              obtain rfl : x99 = iI ((dl P (300 * b1 + k) : Int)) := ex99.trans ((hPo _ (by omega)).trans (hDb.get (by omega)))
              refine lv_goto (tgt := 104) hx hb d_M_addSizes_100 (by decide) ?_
              refine wz_iadd (z := (w0 : Int)) hx hb d_M_addSizes_104 (by omega) ?_
              refine lv_istore (lv' := [(7, .int (iI ((w0 : Int)))), (0, .ref (ad (98))), (1, .int (iI ((to : Int)))), (2, .int (iI ((a : Int)))), (3, .int (iI ((b1 : Int)))), (4, .int (iI ((n : Int)))), (5, .int (iI ((cy : Int)))), (6, .int (iI ((k : Int))))]) hx hb d_M_addSizes_105 hl (by decide) rfl (fun ls hl => ?_)
              refine lv_aload_n hx hb d_M_addSizes_107 rfl (lv_at hl 1 rfl) ?_
              refine pw_get (ci := 6) (C := R_M) (T := T_M) (N := 8) hx hb hq i_M hown hw (by omega) hO rfl 1 (by decide) (hq _ fl_M_7) (fun _ h9 => h9) rfl d_M_addSizes_108 ?_
              refine wz_sipush (n := 300) hx hb d_M_addSizes_111 (by decide) ?_
              refine lv_iload_n hx hb d_M_addSizes_114 rfl (lv_at hl 2 rfl) ?_
              refine wz_imul hx hb d_M_addSizes_115 rfl ?_
              refine lv_iload hx hb d_M_addSizes_116 (lv_at hl 7 rfl) ?_
              refine wz_iadd hx hb d_M_addSizes_118 rfl ?_
              refine lv_iload hx hb d_M_addSizes_119 (lv_at hl 0 rfl) ?_
              refine lv_ldc (v := iI (65536)) hx hb hown (hq _ co_M_43) d_M_addSizes_121 ?_
              refine wz_irem (a := w0) (b := 65536) (z := w0 % 65536) hx hb d_M_addSizes_123 (by omega) (by omega) (by omega) (rfl) ?_
              refine pw_iast (k := 300 * to + k) hx hb hw 0 (by omega) h99 rfl (iI_in (by omega) (by omega) (by omega)) ((iI_cl (by omega) (by omega)).trans (by omega)) d_M_addSizes_124 (fun F124 H locs eF124 hw => ?_)
              have m124_99 : F124 (99) = .inl (ty 0, 12900, .inl (upd P9 (300 * to + k) (iI (((w0 % 65536 : Nat) : Int))))) := by rw [eF124]; exact va_up_self ..
              have hO_at_124 : F124 (98) = .inr (6, [.int (iI (co)), .ref (ad (99)), .ref (ad (100)), .ref (ad (101)), .ref (ad (102)), .int (iI (ln)), .int (iI (wr)), .ref (ad (103))]) := (show F124 (98) = F38 (98) from by rw [eF124]; exact va_up_ne _ _ (by omega)).trans hO
              have h100_at_124 : F124 (100) = .inl (ty 0, 43, .inl (S)) := (show F124 (100) = F38 (100) from by rw [eF124]; exact va_up_ne _ _ (by omega)).trans h100
              have h101_at_124 : F124 (101) = .inl (ty 4, 43, .inl (G)) := (show F124 (101) = F38 (101) from by rw [eF124]; exact va_up_ne _ _ (by omega)).trans h101
              refine lv_iload hx hb d_M_addSizes_125 (lv_at hl 0 rfl) ?_
              refine lv_ldc (v := iI (65536)) hx hb hown (hq _ co_M_43) d_M_addSizes_127 ?_
              refine wz_idiv (a := w0) (b := 65536) (z := w0 / 65536) hx hb d_M_addSizes_129 (by omega) (by omega) (by omega) (rfl) ?_
              refine lv_istore (lv' := [(5, .int (iI (((w0 / 65536 : Nat) : Int)))), (7, .int (iI ((w0 : Int)))), (0, .ref (ad (98))), (1, .int (iI ((to : Int)))), (2, .int (iI ((a : Int)))), (3, .int (iI ((b1 : Int)))), (4, .int (iI ((n : Int)))), (6, .int (iI ((k : Int))))]) hx hb d_M_addSizes_130 hl (by decide) rfl (fun ls hl => ?_)
              refine wz_iinc (z := ((k + 1 : Nat) : Int)) (lv' := [(6, .int (iI (((k + 1 : Nat) : Int)))), (5, .int (iI (((w0 / 65536 : Nat) : Int)))), (7, .int (iI ((w0 : Int)))), (0, .ref (ad (98))), (1, .int (iI ((to : Int)))), (2, .int (iI ((a : Int)))), (3, .int (iI ((b1 : Int)))), (4, .int (iI ((n : Int))))]) hx hb d_M_addSizes_132 hl (k := 7) rfl (by omega) (by decide) rfl (fun ls hl => ?_)
              refine lv_goto (tgt := 38) hx hb d_M_addSizes_135 (by decide) ?_
              exact ih38 (k + 1) (w0 / 65536) (upd P9 (300 * to + k) (iI ((w0 % 65536 : Nat) : Int))) _ _ _ ls (by omega) (by omega) (by omega) (by
                rw [bvP_s, bvP_up (Nat.le_refl _), dig_up (by omega), bv_s, bv_s, Nat.pow_succ]; exact add_step hval hw0) (Dg_up hDg (by omega)) (fun j hj => by rw [pk_un (by omega)]; exact hPo j (by omega)) (fun y9 h9 => (show F124 (y9) = F38 (y9) from by rw [eF124]; exact va_up_ne _ _ (by omega)).trans (hfr y9 h9)) hO_at_124 m124_99 h100_at_124 h101_at_124 hw (lv_sub hl [3, 4, 5, 6, 7, 1, 0] rfl)
    refine lv_aload_n hx hb d_M_addSizes_0 rfl (lv_at hl 0 rfl) ?_
    refine pw_get (ci := 6) (C := R_M) (T := T_M) (N := 8) hx hb hq i_M hown hw (by omega) hO rfl 2 (by decide) (hq _ fl_M_13) (fun _ h9 => h9) rfl d_M_addSizes_1 ?_
    refine lv_iload_n hx hb d_M_addSizes_4 rfl (lv_at hl 2 rfl) ?_
    refine pw_iald (k := a) hx hb hw 0 (by omega) h100 rfl (iI_in (by omega) (by omega) (by omega)) ((iI_cl (by omega) (by omega)).trans (by omega)) d_M_addSizes_5 ?_
    refine lv_topi (fun x5 ex5 => ?_)
    obtain rfl : x5 = iI ((na : Int)) := ex5.trans (hSa)
    refine lv_aload_n hx hb d_M_addSizes_6 rfl (lv_at hl 0 rfl) ?_
    refine pw_get (ci := 6) (C := R_M) (T := T_M) (N := 8) hx hb hq i_M hown hw (by omega) hO rfl 2 (by decide) (hq _ fl_M_13) (fun _ h9 => h9) rfl d_M_addSizes_7 ?_
    refine lv_iload_n hx hb d_M_addSizes_10 rfl (lv_at hl 3 rfl) ?_
    refine pw_iald (k := b1) hx hb hw 0 (by omega) h100 rfl (iI_in (by omega) (by omega) (by omega)) ((iI_cl (by omega) (by omega)).trans (by omega)) d_M_addSizes_11 ?_
    refine lv_topi (fun x11 ex11 => ?_)
    obtain rfl : x11 = iI ((nb : Int)) := ex11.trans (hSb)
    refine wz_icmp_le (tgt := 24) hx hb d_M_addSizes_12 (by decide) (by omega) (by omega) (by omega) (by omega) (fun c12 => ?_) (fun c12 => ?_)
    · refine lv_aload_n hx hb d_M_addSizes_24 rfl (lv_at hl 0 rfl) ?_
      refine pw_get (ci := 6) (C := R_M) (T := T_M) (N := 8) hx hb hq i_M hown hw (by omega) hO rfl 2 (by decide) (hq _ fl_M_13) (fun _ h9 => h9) rfl d_M_addSizes_25 ?_
      refine lv_iload_n hx hb d_M_addSizes_28 rfl (lv_at hl 3 rfl) ?_
      refine pw_iald (k := b1) hx hb hw 0 (by omega) h100 rfl (iI_in (by omega) (by omega) (by omega)) ((iI_cl (by omega) (by omega)).trans (by omega)) d_M_addSizes_29 ?_
      refine lv_topi (fun x29 ex29 => ?_)
      obtain rfl : x29 = iI ((n : Int)) := ex29.trans (hSb.trans (by rw [show n = nb by omega]))
      refine lv_istore (lv' := [(4, .int (iI ((n : Int)))), (0, .ref (ad (98))), (1, .int (iI ((to : Int)))), (2, .int (iI ((a : Int)))), (3, .int (iI ((b1 : Int))))]) hx hb d_M_addSizes_30 hl (by decide) rfl (fun ls hl => ?_)
      refine wz_iconst (n := 0) hx hb d_M_addSizes_32 ?_
      refine lv_istore (lv' := [(5, .int (iI (0))), (4, .int (iI ((n : Int)))), (0, .ref (ad (98))), (1, .int (iI ((to : Int)))), (2, .int (iI ((a : Int)))), (3, .int (iI ((b1 : Int))))]) hx hb d_M_addSizes_33 hl (by decide) rfl (fun ls hl => ?_)
      refine wz_iconst (n := 0) hx hb d_M_addSizes_35 ?_
      refine lv_istore (lv' := [(6, .int (iI (0))), (5, .int (iI (0))), (4, .int (iI ((n : Int)))), (0, .ref (ad (98))), (1, .int (iI ((to : Int)))), (2, .int (iI ((a : Int)))), (3, .int (iI ((b1 : Int))))]) hx hb d_M_addSizes_36 hl (by decide) rfl (fun ls hl => ?_)
      exact K38 _ 0 0 P _ _ _ ls (Nat.lt_succ_self _) (by omega) (by omega) (rfl) (fun i hi => absurd hi (by omega)) (fun j hj => rfl) (fun y9 h9 => rfl) hO h99 h100 h101 hw (lv_sub hl [3, 4, 5, 6, 2, 1, 0] rfl)
    · refine lv_aload_n hx hb d_M_addSizes_15 rfl (lv_at hl 0 rfl) ?_
      refine pw_get (ci := 6) (C := R_M) (T := T_M) (N := 8) hx hb hq i_M hown hw (by omega) hO rfl 2 (by decide) (hq _ fl_M_13) (fun _ h9 => h9) rfl d_M_addSizes_16 ?_
      refine lv_iload_n hx hb d_M_addSizes_19 rfl (lv_at hl 2 rfl) ?_
      refine pw_iald (k := a) hx hb hw 0 (by omega) h100 rfl (iI_in (by omega) (by omega) (by omega)) ((iI_cl (by omega) (by omega)).trans (by omega)) d_M_addSizes_20 ?_
      refine lv_topi (fun x20 ex20 => ?_)
      obtain rfl : x20 = iI ((n : Int)) := ex20.trans (hSa.trans (by rw [show n = na by omega]))
      refine lv_goto (tgt := 30) hx hb d_M_addSizes_21 (by decide) ?_
      refine lv_istore (lv' := [(4, .int (iI ((n : Int)))), (0, .ref (ad (98))), (1, .int (iI ((to : Int)))), (2, .int (iI ((a : Int)))), (3, .int (iI ((b1 : Int))))]) hx hb d_M_addSizes_30 hl (by decide) rfl (fun ls hl => ?_)
      refine wz_iconst (n := 0) hx hb d_M_addSizes_32 ?_
      refine lv_istore (lv' := [(5, .int (iI (0))), (4, .int (iI ((n : Int)))), (0, .ref (ad (98))), (1, .int (iI ((to : Int)))), (2, .int (iI ((a : Int)))), (3, .int (iI ((b1 : Int))))]) hx hb d_M_addSizes_33 hl (by decide) rfl (fun ls hl => ?_)
      refine wz_iconst (n := 0) hx hb d_M_addSizes_35 ?_
      refine lv_istore (lv' := [(6, .int (iI (0))), (5, .int (iI (0))), (4, .int (iI ((n : Int)))), (0, .ref (ad (98))), (1, .int (iI ((to : Int)))), (2, .int (iI ((a : Int)))), (3, .int (iI ((b1 : Int))))]) hx hb d_M_addSizes_36 hl (by decide) rfl (fun ls hl => ?_)
      exact K38 _ 0 0 P _ _ _ ls (Nat.lt_succ_self _) (by omega) (by omega) (rfl) (fun i hi => absurd hi (by omega)) (fun j hj => rfl) (fun y9 h9 => rfl) hO h99 h100 h101 hw (lv_sub hl [3, 4, 5, 6, 2, 1, 0] rfl)
  rw [hH, hlo] at hgo
  exact hgo
set_option maxHeartbeats 4000000 in
set_option maxRecDepth 100000 in
/-- takeSizes(to, a, b) -/
theorem c_M_takeSizes (l : Launch) (D : va_G) (ty : Nat → ClassId) (ad : Nat → Nat) (M : Nat) (F : Nat → va_E) (sz : Nat) (hM : 103 < M) (co ln wr : Int) (hO : F 98 = oM ad co ln wr) (P S G : Nat → Int32) (hMA : MA ty F P S G) (to a b1 na nb : Nat) (hto : to < 43) (ha : a < 43) (hb1 : b1 < 43) (hSa : S a = iI na) (hSb : S b1 = iI nb) (hna : na < 299) (hnb : nb < 299) (hDa : Dg P a na) (hDb : Dg P b1 nb) (hnn : nb ≤ na) (hle : bvP P b1 nb ≤ bvP P a na) :
    CV l y_M_takeSizes w_M_takeSizes ({ frames := 0, cells := 0, slots := 0, locals := 0 } : Room) [.ref (ad (98)), .int (iI ((to : Int))), .int (iI ((a : Int))), .int (iI ((b1 : Int)))] D ty ad M F sz (fun F1 => ∃ P' S', MA ty F1 P' S' G ∧ S' to = iI ((na : Nat) : Int) ∧ Dg P' to (na) ∧ bvP P' to (na) = bvP P a na - bvP P b1 nb ∧ (∀ c, c ≠ to → S' c = S c) ∧ (∀ j, j < 300 * to ∨ 300 * to + 300 ≤ j → P' j = P j) ∧ frM F F1) := by
  refine Met.ofW (cc := b_M_takeSizes) (maxL := 8) (ret := none) (by decide) rfl ?_
  intro p e s m args below meth c s₁ B hml hv
  obtain ⟨rfl, hsz, hP, hK, hD0⟩ := hv
  have hx := B.exec
  have hb := B.bytes
  have hr := B.returns
  have hts := atoms_spec (ws := w_M_takeSizes) B.pre
  have hq : ∀ w ∈ wT, w.before _ s = true := fun w h => hts w (List.mem_cons_of_mem _ h)
  have hown : s.vm.findClass R_M = some m.cls := findClass_of_methodNamed B.named
  have hlocks := B.notSynchronized
  subst hsz
  have hw := pw_start hP hK hD0
  have hl := lv_entry ([.ref (ad (98)), .int (iI ((to : Int))), .int (iI ((a : Int))), .int (iI ((b1 : Int)))]) (n := 8) (Nat.le_of_ble_eq_true rfl)
  rw [lg_entry_eq]
  generalize (lg_sl ([.ref (ad (98)), .int (iI ((to : Int))), .int (iI ((a : Int))), .int (iI ((b1 : Int)))]) ++ List.replicate (8 - (lg_sl ([.ref (ad (98)), .int (iI ((to : Int))), .int (iI ((a : Int))), .int (iI ((b1 : Int)))])).length) Slot.unset).toArray = ls at hl ⊢
  have hl : lv_has ls 8 [(0, .ref (ad (98))), (1, .int (iI ((to : Int)))), (2, .int (iI ((a : Int)))), (3, .int (iI ((b1 : Int))))] := hl
  change W p l e ({ frames := 0, cells := 0, slots := 0, locals := 0 } : Room) s m ([.ref (ad (98)), .int (iI ((to : Int))), .int (iI ((a : Int))), .int (iI ((b1 : Int)))]).toArray below meth c s.heap [] 0 0 (MQ below (va_Qv (fun F1 => ∃ P' S', MA ty F1 P' S' G ∧ S' to = iI ((na : Nat) : Int) ∧ Dg P' to (na) ∧ bvP P' to (na) = bvP P a na - bvP P b1 nb ∧ (∀ c, c ≠ to → S' c = S c) ∧ (∀ j, j < 300 * to ∨ 300 * to + 300 ≤ j → P' j = P j) ∧ frM F F1) (pAt D classes (tysL ty) ad M (pA ad M s.heap.size)) (pA ad M s.heap.size)) ([.ref (ad (98)), .int (iI ((to : Int))), .int (iI ((a : Int))), .int (iI ((b1 : Int)))]).toArray s 0 0 (pA ad M s.heap.size)) (F0 m 0 ls [])
  generalize hQ : MQ below (va_Qv (fun F1 => ∃ P' S', MA ty F1 P' S' G ∧ S' to = iI ((na : Nat) : Int) ∧ Dg P' to (na) ∧ bvP P' to (na) = bvP P a na - bvP P b1 nb ∧ (∀ c, c ≠ to → S' c = S c) ∧ (∀ j, j < 300 * to ∨ 300 * to + 300 ≤ j → P' j = P j) ∧ frM F F1) (pAt D classes (tysL ty) ad M (pA ad M s.heap.size)) (pA ad M s.heap.size)) ([.ref (ad (98)), .int (iI ((to : Int))), .int (iI ((a : Int))), .int (iI ((b1 : Int)))]).toArray s 0 0 (pA ad M s.heap.size) = Q
  obtain ⟨H, hH⟩ : ∃ H, H = s.heap := ⟨_, rfl⟩
  obtain ⟨locs, hlo⟩ : ∃ z : List Loc, z = [] := ⟨_, rfl⟩
  have hw : pw D classes (tysL ty) ad M F (pA ad M s.heap.size) s H locs := by rw [hH, hlo]; exact hw
  have hgo : W p l e ({ frames := 0, cells := 0, slots := 0, locals := 0 } : Room) s m ([.ref (ad (98)), .int (iI ((to : Int))), .int (iI ((a : Int))), .int (iI ((b1 : Int)))]).toArray below meth c H locs 0 0 Q (F0 m 0 ls []) := by
    obtain ⟨h99, h100, h101⟩ := id hMA
    refine lv_aload_n hx hb d_M_takeSizes_0 rfl (lv_at hl 0 rfl) ?_
    refine pw_get (ci := 6) (C := R_M) (T := T_M) (N := 8) hx hb hq i_M hown hw (by omega) hO rfl 2 (by decide) (hq _ fl_M_13) (fun _ h9 => h9) rfl d_M_takeSizes_1 ?_
    refine lv_iload_n hx hb d_M_takeSizes_4 rfl (lv_at hl 2 rfl) ?_
    refine pw_iald (k := a) hx hb hw 0 (by omega) h100 rfl (iI_in (by omega) (by omega) (by omega)) ((iI_cl (by omega) (by omega)).trans (by omega)) d_M_takeSizes_5 ?_
    refine lv_topi (fun x5 ex5 => ?_)
    obtain rfl : x5 = iI ((na : Int)) := ex5.trans (hSa)
    refine lv_istore (lv' := [(4, .int (iI ((na : Int)))), (0, .ref (ad (98))), (1, .int (iI ((to : Int)))), (2, .int (iI ((a : Int)))), (3, .int (iI ((b1 : Int))))]) hx hb d_M_takeSizes_6 hl (by decide) rfl (fun ls hl => ?_)
    refine wz_iconst (n := 0) hx hb d_M_takeSizes_8 ?_
    refine lv_istore (lv' := [(5, .int (iI (0))), (4, .int (iI ((na : Int)))), (0, .ref (ad (98))), (1, .int (iI ((to : Int)))), (2, .int (iI ((a : Int)))), (3, .int (iI ((b1 : Int))))]) hx hb d_M_takeSizes_9 hl (by decide) rfl (fun ls hl => ?_)
    refine wz_iconst (n := 0) hx hb d_M_takeSizes_11 ?_
    refine lv_istore (lv' := [(6, .int (iI (0))), (5, .int (iI (0))), (4, .int (iI ((na : Int)))), (0, .ref (ad (98))), (1, .int (iI ((to : Int)))), (2, .int (iI ((a : Int)))), (3, .int (iI ((b1 : Int))))]) hx hb d_M_takeSizes_12 hl (by decide) rfl (fun ls hl => ?_)
    have K14 : ∀ (fuel : Nat) (k bw : Nat) (P9 : Nat → Int32) (F14 : Nat → va_E) (H : Heap) (locs : List Loc) (ls : Array Slot), na - k < fuel → (k ≤ na) → (bw ≤ 1) → (bvP P9 to k + bv 65536 (pd P b1 nb) k = bv 65536 (pd P a na) k + bw * 65536 ^ k) → (Dg P9 to k) → (∀ j, j < 300 * to ∨ 300 * to + k ≤ j → P9 j = P j) → (∀ y, y ≠ 99 → F14 y = F y) → F14 (98) = .inr (6, [.int (iI (co)), .ref (ad (99)), .ref (ad (100)), .ref (ad (101)), .ref (ad (102)), .int (iI (ln)), .int (iI (wr)), .ref (ad (103))]) → F14 (99) = .inl (ty 0, 12900, .inl (P9)) → F14 (100) = .inl (ty 0, 43, .inl (S)) → F14 (101) = .inl (ty 4, 43, .inl (G)) → pw D classes (tysL ty) ad M F14 (pA ad M s.heap.size) s H locs → lv_has ls 8 [(0, .ref (ad (98))), (1, .int (iI ((to : Int)))), (2, .int (iI ((a : Int)))), (3, .int (iI ((b1 : Int)))), (4, .int (iI ((na : Int)))), (5, .int (iI ((bw : Int)))), (6, .int (iI ((k : Int))))] → W p l e ({ frames := 0, cells := 0, slots := 0, locals := 0 } : Room) s m ([.ref (ad (98)), .int (iI ((to : Int))), .int (iI ((a : Int))), .int (iI ((b1 : Int)))]).toArray below meth c H locs 0 0 Q (F0 m 14 ls []) := by
      intro fuel
      induction fuel with
      | zero => intro k bw P9 F14 H locs ls hfuel hk hbw hval hDg hPo hfr hO h99 h100 h101 hw hl; exact absurd hfuel (Nat.not_lt_zero _)
      | succ fuel ih14 =>
        intro k bw P9 F14 H locs ls hfuel hk hbw hval hDg hPo hfr hO h99 h100 h101 hw hl
        refine lv_iload hx hb d_M_takeSizes_14 (lv_at hl 6 rfl) ?_
        refine lv_iload hx hb d_M_takeSizes_16 (lv_at hl 4 rfl) ?_
        refine wz_icmp_ge (tgt := 114) hx hb d_M_takeSizes_18 (by decide) (by omega) (by omega) (by omega) (by omega) (fun c18 => ?_) (fun c18 => ?_)
        · have hkn : na = k := by omega
          subst hkn
          refine lv_aload_n hx hb d_M_takeSizes_114 rfl (lv_at hl 0 rfl) ?_
          refine pw_get (ci := 6) (C := R_M) (T := T_M) (N := 8) hx hb hq i_M hown hw (by omega) hO rfl 2 (by decide) (hq _ fl_M_13) (fun _ h9 => h9) rfl d_M_takeSizes_115 ?_
          refine lv_iload_n hx hb d_M_takeSizes_118 rfl (lv_at hl 1 rfl) ?_
          refine lv_iload hx hb d_M_takeSizes_119 (lv_at hl 4 rfl) ?_
          refine pw_iast (k := to) hx hb hw 0 (by omega) h100 rfl (iI_in (by omega) (by omega) (by omega)) ((iI_cl (by omega) (by omega)).trans (by omega)) d_M_takeSizes_121 (fun F121 H locs eF121 hw => ?_)
          obtain ⟨S9, eS9⟩ : ∃ z9, z9 = upd S (to) (iI ((na : Int))) := ⟨_, rfl⟩
          rw [← eS9] at eF121
          have m121_100 : F121 (100) = .inl (ty 0, 43, .inl (S9)) := by rw [eF121]; exact va_up_self ..
          have hO_at_121 : F121 (98) = .inr (6, [.int (iI (co)), .ref (ad (99)), .ref (ad (100)), .ref (ad (101)), .ref (ad (102)), .int (iI (ln)), .int (iI (wr)), .ref (ad (103))]) := (show F121 (98) = F14 (98) from by rw [eF121]; exact va_up_ne _ _ (by omega)).trans hO
          have h99_at_121 : F121 (99) = .inl (ty 0, 12900, .inl (P9)) := (show F121 (99) = F14 (99) from by rw [eF121]; exact va_up_ne _ _ (by omega)).trans h99
          have h101_at_121 : F121 (101) = .inl (ty 4, 43, .inl (G)) := (show F121 (101) = F14 (101) from by rw [eF121]; exact va_up_ne _ _ (by omega)).trans h101
          have hb0 : bw = 0 := by
            rw [pd_bv (Nat.le_refl _), pd_bv hnn] at hval
            have h8 := bvP_lt hDg
            rcases Nat.eq_zero_or_pos bw with h9 | h9
            · exact h9
            · rw [show bw = 1 by omega, Nat.one_mul] at hval; omega
          rw [← hQ]
          exact pw_vret hx hb hr hlocks hw (⟨P9, S9, ⟨h99_at_121, m121_100, h101_at_121⟩, by rw [eS9, pk_us], hDg, by
            rw [pd_bv (Nat.le_refl _), pd_bv hnn, hb0, Nat.zero_mul, Nat.add_zero] at hval; omega, fun c9 h9 => by rw [eS9, pk_un h9], fun j hj => hPo j (by omega), fun y9 h1 h2 h3 => (show F121 (y9) = F14 (y9) from by rw [eF121]; exact va_up_ne _ _ (by omega)).trans (hfr y9 h1)⟩) d_M_takeSizes_122
        · have hlA := pd_lt hDa k
          have hlB := pd_lt hDb k
          have hpA := pd_in (P := P) (a := a) (n := na) (i := k) (by omega)
          refine lv_aload_n hx hb d_M_takeSizes_21 rfl (lv_at hl 0 rfl) ?_
          refine pw_get (ci := 6) (C := R_M) (T := T_M) (N := 8) hx hb hq i_M hown hw (by omega) hO rfl 1 (by decide) (hq _ fl_M_7) (fun _ h9 => h9) rfl d_M_takeSizes_22 ?_
          refine wz_sipush (n := 300) hx hb d_M_takeSizes_25 (by decide) ?_
          refine lv_iload_n hx hb d_M_takeSizes_28 rfl (lv_at hl 2 rfl) ?_
          refine wz_imul hx hb d_M_takeSizes_29 rfl ?_
          refine lv_iload hx hb d_M_takeSizes_30 (lv_at hl 6 rfl) ?_
          refine wz_iadd hx hb d_M_takeSizes_32 rfl ?_
          refine pw_iald (k := 300 * a + k) hx hb hw 0 (by omega) h99 rfl (iI_in (by omega) (by omega) (by omega)) ((iI_cl (by omega) (by omega)).trans (by omega)) d_M_takeSizes_33 ?_
          refine lv_topi (fun x33 ex33 => ?_)
          obtain rfl : x33 = iI ((dl P (300 * a + k) : Int)) := ex33.trans ((hPo _ (by omega)).trans (hDa.get (by omega)))
          refine lv_iload hx hb d_M_takeSizes_34 (lv_at hl 5 rfl) ?_
          refine wz_isub hx hb d_M_takeSizes_36 rfl ?_
          refine lv_iload hx hb d_M_takeSizes_37 (lv_at hl 6 rfl) ?_
          refine lv_aload_n hx hb d_M_takeSizes_39 rfl (lv_at hl 0 rfl) ?_
          refine pw_get (ci := 6) (C := R_M) (T := T_M) (N := 8) hx hb hq i_M hown hw (by omega) hO rfl 2 (by decide) (hq _ fl_M_13) (fun _ h9 => h9) rfl d_M_takeSizes_40 ?_
          refine lv_iload_n hx hb d_M_takeSizes_43 rfl (lv_at hl 3 rfl) ?_
          refine pw_iald (k := b1) hx hb hw 0 (by omega) h100 rfl (iI_in (by omega) (by omega) (by omega)) ((iI_cl (by omega) (by omega)).trans (by omega)) d_M_takeSizes_44 ?_
          refine lv_topi (fun x44 ex44 => ?_)
          obtain rfl : x44 = iI ((nb : Int)) := ex44.trans (hSb)
          refine wz_icmp_ge (tgt := 64) hx hb d_M_takeSizes_45 (by decide) (by omega) (by omega) (by omega) (by omega) (fun c45 => ?_) (fun c45 => ?_)
          · have hpB := pd_out (P := P) (a := b1) (n := nb) (i := k) (by omega)
            refine wz_iconst (n := 0) hx hb d_M_takeSizes_64 ?_
            refine wz_isub (z := (pd P a na k : Int) - (bw : Int) - (pd P b1 nb k : Int)) hx hb d_M_takeSizes_65 (by omega) ?_
            refine lv_istore (lv' := [(7, .int (iI ((pd P a na k : Int) - (bw : Int) - (pd P b1 nb k : Int)))), (0, .ref (ad (98))), (1, .int (iI ((to : Int)))), (2, .int (iI ((a : Int)))), (3, .int (iI ((b1 : Int)))), (4, .int (iI ((na : Int)))), (5, .int (iI ((bw : Int)))), (6, .int (iI ((k : Int))))]) hx hb d_M_takeSizes_66 hl (by decide) rfl (fun ls hl => ?_)
            refine lv_iload hx hb d_M_takeSizes_68 (lv_at hl 0 rfl) ?_
            refine wz_if_ge (tgt := 77) hx hb d_M_takeSizes_70 (by decide) (by omega) (by omega) (fun c70 => ?_) (fun c70 => ?_)
            · obtain ⟨d0, hd0⟩ : ∃ d0 : Nat, pd P a na k + 0 * 65536 = d0 + bw + pd P b1 nb k := ⟨pd P a na k + 0 * 65536 - bw - pd P b1 nb k, by omega⟩
              refine wz_iconst (n := 0) hx hb d_M_takeSizes_77 ?_
              refine lv_istore (lv' := [(5, .int (iI (0))), (7, .int (iI ((pd P a na k : Int) - (bw : Int) - (pd P b1 nb k : Int)))), (0, .ref (ad (98))), (1, .int (iI ((to : Int)))), (2, .int (iI ((a : Int)))), (3, .int (iI ((b1 : Int)))), (4, .int (iI ((na : Int)))), (6, .int (iI ((k : Int))))]) hx hb d_M_takeSizes_78 hl (by decide) rfl (fun ls hl => ?_)
              refine lv_aload_n hx hb d_M_takeSizes_80 rfl (lv_at hl 2 rfl) ?_
              refine pw_get (ci := 6) (C := R_M) (T := T_M) (N := 8) hx hb hq i_M hown hw (by omega) hO rfl 1 (by decide) (hq _ fl_M_7) (fun _ h9 => h9) rfl d_M_takeSizes_81 ?_
              refine wz_sipush (n := 300) hx hb d_M_takeSizes_84 (by decide) ?_
              refine lv_iload_n hx hb d_M_takeSizes_87 rfl (lv_at hl 3 rfl) ?_
              refine wz_imul hx hb d_M_takeSizes_88 rfl ?_
              refine lv_iload hx hb d_M_takeSizes_89 (lv_at hl 7 rfl) ?_
              refine wz_iadd hx hb d_M_takeSizes_91 rfl ?_
              refine lv_iload hx hb d_M_takeSizes_92 (lv_at hl 1 rfl) ?_
              refine wz_if_ge (tgt := 105) hx hb d_M_takeSizes_94 (by decide) (by omega) (by omega) (fun c94 => ?_) (fun c94 => ?_)
              · refine lv_iload hx hb d_M_takeSizes_105 (lv_at hl 1 rfl) ?_
                rw [show (pd P a na k : Int) - (bw : Int) - (pd P b1 nb k : Int) = (d0 : Int) by omega] at hl ⊢
                refine pw_iast (k := 300 * to + k) hx hb hw 0 (by omega) h99 rfl (iI_in (by omega) (by omega) (by omega)) ((iI_cl (by omega) (by omega)).trans (by omega)) d_M_takeSizes_107 (fun F107 H locs eF107 hw => ?_)
                have m107_99 : F107 (99) = .inl (ty 0, 12900, .inl (upd P9 (300 * to + k) (iI ((d0 : Int))))) := by rw [eF107]; exact va_up_self ..
                have hO_at_107 : F107 (98) = .inr (6, [.int (iI (co)), .ref (ad (99)), .ref (ad (100)), .ref (ad (101)), .ref (ad (102)), .int (iI (ln)), .int (iI (wr)), .ref (ad (103))]) := (show F107 (98) = F14 (98) from by rw [eF107]; exact va_up_ne _ _ (by omega)).trans hO
                have h100_at_107 : F107 (100) = .inl (ty 0, 43, .inl (S)) := (show F107 (100) = F14 (100) from by rw [eF107]; exact va_up_ne _ _ (by omega)).trans h100
                have h101_at_107 : F107 (101) = .inl (ty 4, 43, .inl (G)) := (show F107 (101) = F14 (101) from by rw [eF107]; exact va_up_ne _ _ (by omega)).trans h101
                refine wz_iinc (z := ((k + 1 : Nat) : Int)) (lv' := [(6, .int (iI (((k + 1 : Nat) : Int)))), (5, .int (iI (0))), (7, .int (iI ((d0 : Int)))), (0, .ref (ad (98))), (1, .int (iI ((to : Int)))), (2, .int (iI ((a : Int)))), (3, .int (iI ((b1 : Int)))), (4, .int (iI ((na : Int))))]) hx hb d_M_takeSizes_108 hl (k := 7) rfl (by omega) (by decide) rfl (fun ls hl => ?_)
                refine lv_goto (tgt := 14) hx hb d_M_takeSizes_111 (by decide) ?_
                exact ih14 (k + 1) 0 (upd P9 (300 * to + k) (iI ((d0 : Nat) : Int))) _ _ _ ls (by omega) (by omega) (by omega) (by
                  rw [bvP_s, bvP_up (Nat.le_refl _), dig_up (by omega), bv_s, bv_s, Nat.pow_succ]; exact sub_step hval hd0) (Dg_up hDg (by omega)) (fun j hj => by rw [pk_un (by omega)]; exact hPo j (by omega)) (fun y9 h9 => (show F107 (y9) = F14 (y9) from by rw [eF107]; exact va_up_ne _ _ (by omega)).trans (hfr y9 h9)) hO_at_107 m107_99 h100_at_107 h101_at_107 hw (lv_sub hl [3, 4, 5, 6, 7, 1, 0] rfl)
              · exact absurd c94 (by omega)
            · obtain ⟨d0, hd0⟩ : ∃ d0 : Nat, pd P a na k + 1 * 65536 = d0 + bw + pd P b1 nb k := ⟨pd P a na k + 1 * 65536 - bw - pd P b1 nb k, by omega⟩
              refine wz_iconst (n := 1) hx hb d_M_takeSizes_73 ?_
              refine lv_goto (tgt := 78) hx hb d_M_takeSizes_74 (by decide) ?_
              refine lv_istore (lv' := [(5, .int (iI (1))), (7, .int (iI ((pd P a na k : Int) - (bw : Int) - (pd P b1 nb k : Int)))), (0, .ref (ad (98))), (1, .int (iI ((to : Int)))), (2, .int (iI ((a : Int)))), (3, .int (iI ((b1 : Int)))), (4, .int (iI ((na : Int)))), (6, .int (iI ((k : Int))))]) hx hb d_M_takeSizes_78 hl (by decide) rfl (fun ls hl => ?_)
              refine lv_aload_n hx hb d_M_takeSizes_80 rfl (lv_at hl 2 rfl) ?_
              refine pw_get (ci := 6) (C := R_M) (T := T_M) (N := 8) hx hb hq i_M hown hw (by omega) hO rfl 1 (by decide) (hq _ fl_M_7) (fun _ h9 => h9) rfl d_M_takeSizes_81 ?_
              refine wz_sipush (n := 300) hx hb d_M_takeSizes_84 (by decide) ?_
              refine lv_iload_n hx hb d_M_takeSizes_87 rfl (lv_at hl 3 rfl) ?_
              refine wz_imul hx hb d_M_takeSizes_88 rfl ?_
              refine lv_iload hx hb d_M_takeSizes_89 (lv_at hl 7 rfl) ?_
              refine wz_iadd hx hb d_M_takeSizes_91 rfl ?_
              refine lv_iload hx hb d_M_takeSizes_92 (lv_at hl 1 rfl) ?_
              refine wz_if_ge (tgt := 105) hx hb d_M_takeSizes_94 (by decide) (by omega) (by omega) (fun c94 => ?_) (fun c94 => ?_)
              · exact absurd c94 (by omega)
              · refine lv_iload hx hb d_M_takeSizes_97 (lv_at hl 1 rfl) ?_
                refine lv_ldc (v := iI (65536)) hx hb hown (hq _ co_M_43) d_M_takeSizes_99 ?_
                refine wz_iadd (z := (d0 : Int)) hx hb d_M_takeSizes_101 (by omega) ?_
                refine lv_goto (tgt := 107) hx hb d_M_takeSizes_102 (by decide) ?_
                refine pw_iast (k := 300 * to + k) hx hb hw 0 (by omega) h99 rfl (iI_in (by omega) (by omega) (by omega)) ((iI_cl (by omega) (by omega)).trans (by omega)) d_M_takeSizes_107 (fun F107 H locs eF107 hw => ?_)
                have m107_99 : F107 (99) = .inl (ty 0, 12900, .inl (upd P9 (300 * to + k) (iI ((d0 : Int))))) := by rw [eF107]; exact va_up_self ..
                have hO_at_107 : F107 (98) = .inr (6, [.int (iI (co)), .ref (ad (99)), .ref (ad (100)), .ref (ad (101)), .ref (ad (102)), .int (iI (ln)), .int (iI (wr)), .ref (ad (103))]) := (show F107 (98) = F14 (98) from by rw [eF107]; exact va_up_ne _ _ (by omega)).trans hO
                have h100_at_107 : F107 (100) = .inl (ty 0, 43, .inl (S)) := (show F107 (100) = F14 (100) from by rw [eF107]; exact va_up_ne _ _ (by omega)).trans h100
                have h101_at_107 : F107 (101) = .inl (ty 4, 43, .inl (G)) := (show F107 (101) = F14 (101) from by rw [eF107]; exact va_up_ne _ _ (by omega)).trans h101
                refine wz_iinc (z := ((k + 1 : Nat) : Int)) (lv' := [(6, .int (iI (((k + 1 : Nat) : Int)))), (5, .int (iI (1))), (7, .int (iI ((pd P a na k : Int) - (bw : Int) - (pd P b1 nb k : Int)))), (0, .ref (ad (98))), (1, .int (iI ((to : Int)))), (2, .int (iI ((a : Int)))), (3, .int (iI ((b1 : Int)))), (4, .int (iI ((na : Int))))]) hx hb d_M_takeSizes_108 hl (k := 7) rfl (by omega) (by decide) rfl (fun ls hl => ?_)
                refine lv_goto (tgt := 14) hx hb d_M_takeSizes_111 (by decide) ?_
                exact ih14 (k + 1) 1 (upd P9 (300 * to + k) (iI ((d0 : Nat) : Int))) _ _ _ ls (by omega) (by omega) (by omega) (by
                  rw [bvP_s, bvP_up (Nat.le_refl _), dig_up (by omega), bv_s, bv_s, Nat.pow_succ]; exact sub_step hval hd0) (Dg_up hDg (by omega)) (fun j hj => by rw [pk_un (by omega)]; exact hPo j (by omega)) (fun y9 h9 => (show F107 (y9) = F14 (y9) from by rw [eF107]; exact va_up_ne _ _ (by omega)).trans (hfr y9 h9)) hO_at_107 m107_99 h100_at_107 h101_at_107 hw (lv_sub hl [3, 4, 5, 6, 7, 1, 0] rfl)
          · have hpB := pd_in (P := P) (a := b1) (n := nb) (i := k) (by omega)
            refine lv_aload_n hx hb d_M_takeSizes_48 rfl (lv_at hl 0 rfl) ?_
            refine pw_get (ci := 6) (C := R_M) (T := T_M) (N := 8) hx hb hq i_M hown hw (by omega) hO rfl 1 (by decide) (hq _ fl_M_7) (fun _ h9 => h9) rfl d_M_takeSizes_49 ?_
            refine wz_sipush (n := 300) hx hb d_M_takeSizes_52 (by decide) ?_
            refine lv_iload_n hx hb d_M_takeSizes_55 rfl (lv_at hl 3 rfl) ?_
            refine wz_imul hx hb d_M_takeSizes_56 rfl ?_
            refine lv_iload hx hb d_M_takeSizes_57 (lv_at hl 6 rfl) ?_
            refine wz_iadd hx hb d_M_takeSizes_59 rfl ?_
            refine pw_iald (k := 300 * b1 + k) hx hb hw 0 (by omega) h99 rfl (iI_in (by omega) (by omega) (by omega)) ((iI_cl (by omega) (by omega)).trans (by omega)) d_M_takeSizes_60 ?_
            refine lv_topi (fun x60 ex60 => ?_)
            obtain rfl : x60 = iI ((dl P (300 * b1 + k) : Int)) := ex60.trans ((hPo _ (by omega)).trans (hDb.get (by omega)))
            refine lv_goto (tgt := 65) hx hb d_M_takeSizes_61 (by decide) ?_
            refine wz_isub (z := (pd P a na k : Int) - (bw : Int) - (pd P b1 nb k : Int)) hx hb d_M_takeSizes_65 (by omega) ?_
            refine lv_istore (lv' := [(7, .int (iI ((pd P a na k : Int) - (bw : Int) - (pd P b1 nb k : Int)))), (0, .ref (ad (98))), (1, .int (iI ((to : Int)))), (2, .int (iI ((a : Int)))), (3, .int (iI ((b1 : Int)))), (4, .int (iI ((na : Int)))), (5, .int (iI ((bw : Int)))), (6, .int (iI ((k : Int))))]) hx hb d_M_takeSizes_66 hl (by decide) rfl (fun ls hl => ?_)
            refine lv_iload hx hb d_M_takeSizes_68 (lv_at hl 0 rfl) ?_
            refine wz_if_ge (tgt := 77) hx hb d_M_takeSizes_70 (by decide) (by omega) (by omega) (fun c70 => ?_) (fun c70 => ?_)
            · obtain ⟨d0, hd0⟩ : ∃ d0 : Nat, pd P a na k + 0 * 65536 = d0 + bw + pd P b1 nb k := ⟨pd P a na k + 0 * 65536 - bw - pd P b1 nb k, by omega⟩
              refine wz_iconst (n := 0) hx hb d_M_takeSizes_77 ?_
              refine lv_istore (lv' := [(5, .int (iI (0))), (7, .int (iI ((pd P a na k : Int) - (bw : Int) - (pd P b1 nb k : Int)))), (0, .ref (ad (98))), (1, .int (iI ((to : Int)))), (2, .int (iI ((a : Int)))), (3, .int (iI ((b1 : Int)))), (4, .int (iI ((na : Int)))), (6, .int (iI ((k : Int))))]) hx hb d_M_takeSizes_78 hl (by decide) rfl (fun ls hl => ?_)
              refine lv_aload_n hx hb d_M_takeSizes_80 rfl (lv_at hl 2 rfl) ?_
              refine pw_get (ci := 6) (C := R_M) (T := T_M) (N := 8) hx hb hq i_M hown hw (by omega) hO rfl 1 (by decide) (hq _ fl_M_7) (fun _ h9 => h9) rfl d_M_takeSizes_81 ?_
              refine wz_sipush (n := 300) hx hb d_M_takeSizes_84 (by decide) ?_
              refine lv_iload_n hx hb d_M_takeSizes_87 rfl (lv_at hl 3 rfl) ?_
              refine wz_imul hx hb d_M_takeSizes_88 rfl ?_
              refine lv_iload hx hb d_M_takeSizes_89 (lv_at hl 7 rfl) ?_
              refine wz_iadd hx hb d_M_takeSizes_91 rfl ?_
              refine lv_iload hx hb d_M_takeSizes_92 (lv_at hl 1 rfl) ?_
              refine wz_if_ge (tgt := 105) hx hb d_M_takeSizes_94 (by decide) (by omega) (by omega) (fun c94 => ?_) (fun c94 => ?_)
              · refine lv_iload hx hb d_M_takeSizes_105 (lv_at hl 1 rfl) ?_
                rw [show (pd P a na k : Int) - (bw : Int) - (pd P b1 nb k : Int) = (d0 : Int) by omega] at hl ⊢
                refine pw_iast (k := 300 * to + k) hx hb hw 0 (by omega) h99 rfl (iI_in (by omega) (by omega) (by omega)) ((iI_cl (by omega) (by omega)).trans (by omega)) d_M_takeSizes_107 (fun F107 H locs eF107 hw => ?_)
                have m107_99 : F107 (99) = .inl (ty 0, 12900, .inl (upd P9 (300 * to + k) (iI ((d0 : Int))))) := by rw [eF107]; exact va_up_self ..
                have hO_at_107 : F107 (98) = .inr (6, [.int (iI (co)), .ref (ad (99)), .ref (ad (100)), .ref (ad (101)), .ref (ad (102)), .int (iI (ln)), .int (iI (wr)), .ref (ad (103))]) := (show F107 (98) = F14 (98) from by rw [eF107]; exact va_up_ne _ _ (by omega)).trans hO
                have h100_at_107 : F107 (100) = .inl (ty 0, 43, .inl (S)) := (show F107 (100) = F14 (100) from by rw [eF107]; exact va_up_ne _ _ (by omega)).trans h100
                have h101_at_107 : F107 (101) = .inl (ty 4, 43, .inl (G)) := (show F107 (101) = F14 (101) from by rw [eF107]; exact va_up_ne _ _ (by omega)).trans h101
                refine wz_iinc (z := ((k + 1 : Nat) : Int)) (lv' := [(6, .int (iI (((k + 1 : Nat) : Int)))), (5, .int (iI (0))), (7, .int (iI ((d0 : Int)))), (0, .ref (ad (98))), (1, .int (iI ((to : Int)))), (2, .int (iI ((a : Int)))), (3, .int (iI ((b1 : Int)))), (4, .int (iI ((na : Int))))]) hx hb d_M_takeSizes_108 hl (k := 7) rfl (by omega) (by decide) rfl (fun ls hl => ?_)
                refine lv_goto (tgt := 14) hx hb d_M_takeSizes_111 (by decide) ?_
                exact ih14 (k + 1) 0 (upd P9 (300 * to + k) (iI ((d0 : Nat) : Int))) _ _ _ ls (by omega) (by omega) (by omega) (by
                  rw [bvP_s, bvP_up (Nat.le_refl _), dig_up (by omega), bv_s, bv_s, Nat.pow_succ]; exact sub_step hval hd0) (Dg_up hDg (by omega)) (fun j hj => by rw [pk_un (by omega)]; exact hPo j (by omega)) (fun y9 h9 => (show F107 (y9) = F14 (y9) from by rw [eF107]; exact va_up_ne _ _ (by omega)).trans (hfr y9 h9)) hO_at_107 m107_99 h100_at_107 h101_at_107 hw (lv_sub hl [3, 4, 5, 6, 7, 1, 0] rfl)
              · exact absurd c94 (by omega)
            · obtain ⟨d0, hd0⟩ : ∃ d0 : Nat, pd P a na k + 1 * 65536 = d0 + bw + pd P b1 nb k := ⟨pd P a na k + 1 * 65536 - bw - pd P b1 nb k, by omega⟩
              refine wz_iconst (n := 1) hx hb d_M_takeSizes_73 ?_
              refine lv_goto (tgt := 78) hx hb d_M_takeSizes_74 (by decide) ?_
              refine lv_istore (lv' := [(5, .int (iI (1))), (7, .int (iI ((pd P a na k : Int) - (bw : Int) - (pd P b1 nb k : Int)))), (0, .ref (ad (98))), (1, .int (iI ((to : Int)))), (2, .int (iI ((a : Int)))), (3, .int (iI ((b1 : Int)))), (4, .int (iI ((na : Int)))), (6, .int (iI ((k : Int))))]) hx hb d_M_takeSizes_78 hl (by decide) rfl (fun ls hl => ?_)
              refine lv_aload_n hx hb d_M_takeSizes_80 rfl (lv_at hl 2 rfl) ?_
              refine pw_get (ci := 6) (C := R_M) (T := T_M) (N := 8) hx hb hq i_M hown hw (by omega) hO rfl 1 (by decide) (hq _ fl_M_7) (fun _ h9 => h9) rfl d_M_takeSizes_81 ?_
              refine wz_sipush (n := 300) hx hb d_M_takeSizes_84 (by decide) ?_
              refine lv_iload_n hx hb d_M_takeSizes_87 rfl (lv_at hl 3 rfl) ?_
              refine wz_imul hx hb d_M_takeSizes_88 rfl ?_
              refine lv_iload hx hb d_M_takeSizes_89 (lv_at hl 7 rfl) ?_
              refine wz_iadd hx hb d_M_takeSizes_91 rfl ?_
              refine lv_iload hx hb d_M_takeSizes_92 (lv_at hl 1 rfl) ?_
              refine wz_if_ge (tgt := 105) hx hb d_M_takeSizes_94 (by decide) (by omega) (by omega) (fun c94 => ?_) (fun c94 => ?_)
              · exact absurd c94 (by omega)
              · refine lv_iload hx hb d_M_takeSizes_97 (lv_at hl 1 rfl) ?_
                refine lv_ldc (v := iI (65536)) hx hb hown (hq _ co_M_43) d_M_takeSizes_99 ?_
                refine wz_iadd (z := (d0 : Int)) hx hb d_M_takeSizes_101 (by omega) ?_
                refine lv_goto (tgt := 107) hx hb d_M_takeSizes_102 (by decide) ?_
                refine pw_iast (k := 300 * to + k) hx hb hw 0 (by omega) h99 rfl (iI_in (by omega) (by omega) (by omega)) ((iI_cl (by omega) (by omega)).trans (by omega)) d_M_takeSizes_107 (fun F107 H locs eF107 hw => ?_)
                have m107_99 : F107 (99) = .inl (ty 0, 12900, .inl (upd P9 (300 * to + k) (iI ((d0 : Int))))) := by rw [eF107]; exact va_up_self ..
                have hO_at_107 : F107 (98) = .inr (6, [.int (iI (co)), .ref (ad (99)), .ref (ad (100)), .ref (ad (101)), .ref (ad (102)), .int (iI (ln)), .int (iI (wr)), .ref (ad (103))]) := (show F107 (98) = F14 (98) from by rw [eF107]; exact va_up_ne _ _ (by omega)).trans hO
                have h100_at_107 : F107 (100) = .inl (ty 0, 43, .inl (S)) := (show F107 (100) = F14 (100) from by rw [eF107]; exact va_up_ne _ _ (by omega)).trans h100
                have h101_at_107 : F107 (101) = .inl (ty 4, 43, .inl (G)) := (show F107 (101) = F14 (101) from by rw [eF107]; exact va_up_ne _ _ (by omega)).trans h101
                refine wz_iinc (z := ((k + 1 : Nat) : Int)) (lv' := [(6, .int (iI (((k + 1 : Nat) : Int)))), (5, .int (iI (1))), (7, .int (iI ((pd P a na k : Int) - (bw : Int) - (pd P b1 nb k : Int)))), (0, .ref (ad (98))), (1, .int (iI ((to : Int)))), (2, .int (iI ((a : Int)))), (3, .int (iI ((b1 : Int)))), (4, .int (iI ((na : Int))))]) hx hb d_M_takeSizes_108 hl (k := 7) rfl (by omega) (by decide) rfl (fun ls hl => ?_)
                refine lv_goto (tgt := 14) hx hb d_M_takeSizes_111 (by decide) ?_
                exact ih14 (k + 1) 1 (upd P9 (300 * to + k) (iI ((d0 : Nat) : Int))) _ _ _ ls (by omega) (by omega) (by omega) (by
                  rw [bvP_s, bvP_up (Nat.le_refl _), dig_up (by omega), bv_s, bv_s, Nat.pow_succ]; exact sub_step hval hd0) (Dg_up hDg (by omega)) (fun j hj => by rw [pk_un (by omega)]; exact hPo j (by omega)) (fun y9 h9 => (show F107 (y9) = F14 (y9) from by rw [eF107]; exact va_up_ne _ _ (by omega)).trans (hfr y9 h9)) hO_at_107 m107_99 h100_at_107 h101_at_107 hw (lv_sub hl [3, 4, 5, 6, 7, 1, 0] rfl)
    exact K14 _ 0 0 P _ _ _ ls (Nat.lt_succ_self _) (by omega) (by omega) (rfl) (fun i hi => absurd hi (by omega)) (fun j hj => rfl) (fun y9 h9 => rfl) hO h99 h100 h101 hw (lv_sub hl [3, 4, 5, 6, 2, 1, 0] rfl)
  rw [hH, hlo] at hgo
  exact hgo
set_option maxHeartbeats 4000000 in
set_option maxRecDepth 100000 in
/-- join(to, a, b, less) -/
theorem c_M_join (l : Launch) (D : va_G) (ty : Nat → ClassId) (ad : Nat → Nat) (M : Nat) (F : Nat → va_E) (sz : Nat) (hM : 103 < M) (co ln wr : Int) (hO : F 98 = oM ad co ln wr) (to a b1 lz : Nat) (za zb : Int) (hto : to < 43) (ha : a < 43) (hb1 : b1 < 43) (hlz : lz ≤ 1) (hNa : Nm ty F a za) (hNb : Nm ty F b1 zb) (hma : md za.natAbs) (hmb : md zb.natAbs) :
    CV l y_M_join w_M_join ({ frames := 1, cells := 0, slots := 0, locals := 27 } : Room) [.ref (ad (98)), .int (iI ((to : Int))), .int (iI ((a : Int))), .int (iI ((b1 : Int))), .int (iI ((lz : Int)))] D ty ad M F sz (fun F1 => Nm ty F1 to (jz lz za zb) ∧ kp ty F F1 (fun c => c = to) ∧ frM F F1) := by
  refine Met.ofW (cc := b_M_join) (maxL := 7) (ret := none) (by decide) rfl ?_
  intro p e s m args below meth c s₁ B hml hv
  obtain ⟨rfl, hsz, hP, hK, hD0⟩ := hv
  have hx := B.exec
  have hb := B.bytes
  have hr := B.returns
  have hts := atoms_spec (ws := w_M_join) B.pre
  have hq : ∀ w ∈ wT, w.before _ s = true := fun w h => hts w (List.mem_cons_of_mem _ h)
  have hown : s.vm.findClass R_M = some m.cls := findClass_of_methodNamed B.named
  have hlocks := B.notSynchronized
  subst hsz
  have hw := pw_start hP hK hD0
  have hl := lv_entry ([.ref (ad (98)), .int (iI ((to : Int))), .int (iI ((a : Int))), .int (iI ((b1 : Int))), .int (iI ((lz : Int)))]) (n := 7) (Nat.le_of_ble_eq_true rfl)
  rw [lg_entry_eq]
  generalize (lg_sl ([.ref (ad (98)), .int (iI ((to : Int))), .int (iI ((a : Int))), .int (iI ((b1 : Int))), .int (iI ((lz : Int)))]) ++ List.replicate (7 - (lg_sl ([.ref (ad (98)), .int (iI ((to : Int))), .int (iI ((a : Int))), .int (iI ((b1 : Int))), .int (iI ((lz : Int)))])).length) Slot.unset).toArray = ls at hl ⊢
  have hl : lv_has ls 7 [(0, .ref (ad (98))), (1, .int (iI ((to : Int)))), (2, .int (iI ((a : Int)))), (3, .int (iI ((b1 : Int)))), (4, .int (iI ((lz : Int))))] := hl
  change W p l e ({ frames := 1, cells := 0, slots := 0, locals := 27 } : Room) s m ([.ref (ad (98)), .int (iI ((to : Int))), .int (iI ((a : Int))), .int (iI ((b1 : Int))), .int (iI ((lz : Int)))]).toArray below meth c s.heap [] 0 0 (MQ below (va_Qv (fun F1 => Nm ty F1 to (jz lz za zb) ∧ kp ty F F1 (fun c => c = to) ∧ frM F F1) (pAt D classes (tysL ty) ad M (pA ad M s.heap.size)) (pA ad M s.heap.size)) ([.ref (ad (98)), .int (iI ((to : Int))), .int (iI ((a : Int))), .int (iI ((b1 : Int))), .int (iI ((lz : Int)))]).toArray s 0 0 (pA ad M s.heap.size)) (F0 m 0 ls [])
  generalize hQ : MQ below (va_Qv (fun F1 => Nm ty F1 to (jz lz za zb) ∧ kp ty F F1 (fun c => c = to) ∧ frM F F1) (pAt D classes (tysL ty) ad M (pA ad M s.heap.size)) (pA ad M s.heap.size)) ([.ref (ad (98)), .int (iI ((to : Int))), .int (iI ((a : Int))), .int (iI ((b1 : Int))), .int (iI ((lz : Int)))]).toArray s 0 0 (pA ad M s.heap.size) = Q
  obtain ⟨H, hH⟩ : ∃ H, H = s.heap := ⟨_, rfl⟩
  obtain ⟨locs, hlo⟩ : ∃ z : List Loc, z = [] := ⟨_, rfl⟩
  have hw : pw D classes (tysL ty) ad M F (pA ad M s.heap.size) s H locs := by rw [hH, hlo]; exact hw
  have hgo : W p l e ({ frames := 1, cells := 0, slots := 0, locals := 27 } : Room) s m ([.ref (ad (98)), .int (iI ((to : Int))), .int (iI ((a : Int))), .int (iI ((b1 : Int))), .int (iI ((lz : Int)))]).toArray below meth c H locs 0 0 Q (F0 m 0 ls []) := by
    obtain ⟨P, S, G, hMA, ⟨na, hSa, h3a, hDa, hta, hva⟩, hGa⟩ := id hNa
    obtain ⟨⟨nb, hSb, h3b, hDb, htb0, hvb⟩, hGb⟩ := hNb.nu hMA
    obtain ⟨h99, h100, h101⟩ := id hMA
    have hna := Mg.n257 (S := S) hma hDa hta hva
    have hnb := Mg.n257 (S := S) hmb hDb htb0 hvb
    have hsa := sB_c za
    have hsb := sB_c zb
    refine lv_aload_n hx hb d_M_join_0 rfl (lv_at hl 0 rfl) ?_
    refine pw_get (ci := 6) (C := R_M) (T := T_M) (N := 8) hx hb hq i_M hown hw (by omega) hO rfl 3 (by decide) (hq _ fl_M_16) (fun _ h9 => h9) rfl d_M_join_1 ?_
    refine lv_iload_n hx hb d_M_join_4 rfl (lv_at hl 2 rfl) ?_
    refine pw_zald (k := a) hx hb hw 4 (by omega) h101 rfl (iI_in (by omega) (by omega) (by omega)) ((iI_cl (by omega) (by omega)).trans (by omega)) d_M_join_5 ?_
    refine lv_topi (fun x5 ex5 => ?_)
    obtain rfl : x5 = iI ((sB za : Int)) := ex5.trans (hGa)
    refine lv_istore (lv' := [(5, .int (iI ((sB za : Int)))), (0, .ref (ad (98))), (1, .int (iI ((to : Int)))), (2, .int (iI ((a : Int)))), (3, .int (iI ((b1 : Int)))), (4, .int (iI ((lz : Int))))]) hx hb d_M_join_6 hl (by decide) rfl (fun ls hl => ?_)
    refine lv_aload_n hx hb d_M_join_8 rfl (lv_at hl 1 rfl) ?_
    refine pw_get (ci := 6) (C := R_M) (T := T_M) (N := 8) hx hb hq i_M hown hw (by omega) hO rfl 3 (by decide) (hq _ fl_M_16) (fun _ h9 => h9) rfl d_M_join_9 ?_
    refine lv_iload_n hx hb d_M_join_12 rfl (lv_at hl 4 rfl) ?_
    refine pw_zald (k := b1) hx hb hw 4 (by omega) h101 rfl (iI_in (by omega) (by omega) (by omega)) ((iI_cl (by omega) (by omega)).trans (by omega)) d_M_join_13 ?_
    refine lv_topi (fun x13 ex13 => ?_)
    obtain rfl : x13 = iI ((sB zb : Int)) := ex13.trans (hGb)
    refine lv_iload hx hb d_M_join_14 (lv_at hl 5 rfl) ?_
    refine wz_icmp_eq (tgt := 23) hx hb d_M_join_16 (by decide) (by omega) (by omega) (by omega) (by omega) (fun c16 => ?_) (fun c16 => ?_)
    · have htb : tbz lz zb = 0 := if_pos (by omega)
      refine wz_iconst (n := 0) hx hb d_M_join_23 ?_
      refine lv_istore (lv' := [(6, .int (iI (0))), (5, .int (iI ((sB za : Int)))), (0, .ref (ad (98))), (1, .int (iI ((to : Int)))), (2, .int (iI ((a : Int)))), (3, .int (iI ((b1 : Int)))), (4, .int (iI ((lz : Int))))]) hx hb d_M_join_24 hl (by decide) rfl (fun ls hl => ?_)
      refine lv_iload hx hb d_M_join_26 (lv_at hl 1 rfl) ?_
      refine lv_iload hx hb d_M_join_28 (lv_at hl 0 rfl) ?_
      refine wz_icmp_ne (tgt := 51) hx hb d_M_join_30 (by decide) (by omega) (by omega) (by omega) (by omega) (fun c30 => ?_) (fun c30 => ?_)
      · refine lv_aload_n hx hb d_M_join_51 rfl (lv_at hl 2 rfl) ?_
        refine lv_iload_n hx hb d_M_join_52 rfl (lv_at hl 4 rfl) ?_
        refine lv_iload_n hx hb d_M_join_53 rfl (lv_at hl 5 rfl) ?_
        have hA9 : Mg P S a za.natAbs := ⟨na, hSa, h3a, hDa, hta, hva⟩
        have hB9 : Mg P S b1 zb.natAbs := ⟨nb, hSb, h3b, hDb, htb0, hvb⟩
        have hcp := cmpI_bb za.natAbs zb.natAbs
        refine pw_calli hw (va_runV (As := [.int (iI ((a : Int))), .int (iI ((b1 : Int)))]) (rest := []) ⟨hx, hb, hml, hown, hq⟩ (c_M_compareSizes l D ty ad M F H.size hM co ln wr hO P S G ⟨h99, h100, h101⟩ a b1 za.natAbs zb.natAbs ha hb1 hA9 hB9) (cwV 2 hq (gV ml_M_48 im_M_compareSizes se_M_compareSizes in_M m_M_compareSizes) rfl rfl rfl (by decide +kernel) ⟨Nat.le_of_ble_eq_true rfl, Nat.le_of_ble_eq_true rfl⟩) (pw_preV hw (by omega) hO rfl) rfl rfl hl.1 rfl (lv_room (Nat.le_of_ble_eq_true rfl)) d_M_join_54 ⟨Nat.le_of_ble_eq_true rfl, Nat.le_of_ble_eq_true rfl⟩) (fun r54 F54 H locs q54 hw => ?_)
        obtain ⟨er54, eF54⟩ := q54
        rw [eF54] at hw
        clear eF54
        subst er54
        refine wz_if_lt (tgt := 78) hx hb d_M_join_57 (by decide) (by omega) (by omega) (fun c57 => ?_) (fun c57 => ?_)
        · have hc9 : za.natAbs < zb.natAbs := cmpI_lt (by omega)
          have hnn : na ≤ nb := Nat.le_of_not_lt (fun h9 => by have := mg_S hDb hta h9; omega)
          refine lv_aload_n hx hb d_M_join_78 rfl (lv_at hl 2 rfl) ?_
          refine lv_iload_n hx hb d_M_join_79 rfl (lv_at hl 3 rfl) ?_
          refine lv_iload_n hx hb d_M_join_80 rfl (lv_at hl 5 rfl) ?_
          refine lv_iload_n hx hb d_M_join_81 rfl (lv_at hl 4 rfl) ?_
          refine pw_callv hw (va_runV (As := [.int (iI ((to : Int))), .int (iI ((b1 : Int))), .int (iI ((a : Int)))]) (rest := []) ⟨hx, hb, hml, hown, hq⟩ (c_M_takeSizes l D ty ad M F H.size hM co ln wr hO P S G ⟨h99, h100, h101⟩ to b1 a nb na hto hb1 ha hSb hSa (by omega) (by omega) hDb hDa hnn (by omega)) (cwV 3 hq (gV ml_M_52 im_M_takeSizes se_M_takeSizes in_M m_M_takeSizes) rfl rfl rfl (by decide +kernel) ⟨Nat.le_of_ble_eq_true rfl, Nat.le_of_ble_eq_true rfl⟩) (pw_preV hw (by omega) hO rfl) rfl rfl hl.1 rfl (lv_room (Nat.le_of_ble_eq_true rfl)) d_M_join_82 ⟨Nat.le_of_ble_eq_true rfl, Nat.le_of_ble_eq_true rfl⟩) (fun F82 H locs q82 hw => ?_)
          obtain ⟨P9, S9, ⟨g99, g100, g101⟩, hS9n, hDg9, hbv, hS9, hP9, hf9⟩ := q82
          obtain ⟨n9, hn9⟩ : ∃ n9, n9 = nb := ⟨_, rfl⟩
          replace hS9n : S9 to = iI ((n9 : Nat) : Int) := by rw [hn9]; exact hS9n
          replace hDg9 : Dg P9 to n9 := by rw [hn9]; exact hDg9
          have hbv9 : bvP P9 to n9 = bvP P9 to (nb) := by rw [hn9]
          have hO_at_82 : F82 (98) = .inr (6, [.int (iI (co)), .ref (ad (99)), .ref (ad (100)), .ref (ad (101)), .ref (ad (102)), .int (iI (ln)), .int (iI (wr)), .ref (ad (103))]) := (hf9 (98) (by omega) (by omega) (by omega)).trans hO
          refine lv_aload_n hx hb d_M_join_85 rfl (lv_at hl 2 rfl) ?_
          refine pw_get (ci := 6) (C := R_M) (T := T_M) (N := 8) hx hb hq i_M hown hw (by omega) hO_at_82 rfl 3 (by decide) (hq _ fl_M_16) (fun _ h9 => h9) rfl d_M_join_86 ?_
          refine lv_iload_n hx hb d_M_join_89 rfl (lv_at hl 3 rfl) ?_
          refine lv_iload hx hb d_M_join_90 (lv_at hl 0 rfl) ?_
          refine pw_zast (k := to) hx hb hw 4 (by omega) g101 rfl (iI_in (by omega) (by omega) (by omega)) ((iI_cl (by omega) (by omega)).trans (by omega)) (y := iI (0)) (by decide) d_M_join_92 (fun F92 H locs eF92 hw => ?_)
          obtain ⟨G9, eG9⟩ : ∃ z9, z9 = upd G (to) (iI (0)) := ⟨_, rfl⟩
          rw [← eG9] at eF92
          have m92_101 : F92 (101) = .inl (ty 4, 43, .inl (G9)) := by rw [eF92]; exact va_up_self ..
          have hO_at_92 : F92 (98) = .inr (6, [.int (iI (co)), .ref (ad (99)), .ref (ad (100)), .ref (ad (101)), .ref (ad (102)), .int (iI (ln)), .int (iI (wr)), .ref (ad (103))]) := (show F92 (98) = F82 (98) from by rw [eF92]; exact va_up_ne _ _ (by omega)).trans hO_at_82
          have g99_at_92 : F92 (99) = .inl (ty 0, 12900, .inl (P9)) := (show F92 (99) = F82 (99) from by rw [eF92]; exact va_up_ne _ _ (by omega)).trans g99
          have g100_at_92 : F92 (100) = .inl (ty 0, 43, .inl (S9)) := (show F92 (100) = F82 (100) from by rw [eF92]; exact va_up_ne _ _ (by omega)).trans g100
          refine lv_aload_n hx hb d_M_join_93 rfl (lv_at hl 2 rfl) ?_
          refine lv_iload_n hx hb d_M_join_94 rfl (lv_at hl 3 rfl) ?_
          refine pw_callv hw (va_runV (As := [.int (iI ((to : Int)))]) (rest := []) ⟨hx, hb, hml, hown, hq⟩ (c_M_trim l D ty ad M F92 H.size hM co ln wr hO_at_92 P9 S9 G9 ⟨g99_at_92, g100_at_92, m92_101⟩ to n9 hto (hS9n) (by omega) (hDg9)) (cwV 1 hq (gV ml_M_39 im_M_trim se_M_trim in_M m_M_trim) rfl rfl rfl (by decide +kernel) ⟨Nat.le_of_ble_eq_true rfl, Nat.le_of_ble_eq_true rfl⟩) (pw_preV hw (by omega) hO_at_92 rfl) rfl rfl hl.1 rfl (lv_room (Nat.le_of_ble_eq_true rfl)) d_M_join_95 ⟨Nat.le_of_ble_eq_true rfl, Nat.le_of_ble_eq_true rfl⟩) (fun F95 H locs q95 hw => ?_)
          obtain ⟨S8, B8, hMA8, hMg8, hB8, ho8, hf8⟩ := q95
          have hO_at_95 : F95 (98) = .inr (6, [.int (iI (co)), .ref (ad (99)), .ref (ad (100)), .ref (ad (101)), .ref (ad (102)), .int (iI (ln)), .int (iI (wr)), .ref (ad (103))]) := (hf8 (98) (by omega) (by omega) (by omega)).trans hO_at_92
          rw [← hQ]
          exact pw_vret hx hb hr hlocks hw (by
            have hv9 : bvP P9 to n9 = zb.natAbs - za.natAbs := by rw [hbv9, hbv, hva, hvb]
            rw [hv9] at hMg8 hB8
            obtain ⟨hj1, hj2⟩ := jn_bus hlz (show sB za ≠ tbz lz zb by rw [htb]; omega) hc9
            obtain ⟨h1, h2⟩ := fin_trim (z := jz lz za zb) hMA hMA8 hMg8 hB8 ho8 hS9 (fun c9 h9 => by rw [eG9, pk_un h9]) hP9 hj1 (fun h9 => by rw [eG9, pk_us, ← hj2 h9, htb]; rfl)
            exact ⟨h1, h2, fun y9 h3 h4 h5 => (hf8 (y9) (by omega) (by omega) (by omega)).trans ((show F92 (y9) = F82 (y9) from by rw [eF92]; exact va_up_ne _ _ (by omega)).trans (hf9 (y9) (by omega) (by omega) (by omega)))⟩) d_M_join_98
        · have hc9 : zb.natAbs ≤ za.natAbs := cmpI_ge (by omega)
          have hnn : nb ≤ na := Nat.le_of_not_lt (fun h9 => by have := mg_S hDa htb0 h9; omega)
          refine lv_aload_n hx hb d_M_join_60 rfl (lv_at hl 2 rfl) ?_
          refine lv_iload_n hx hb d_M_join_61 rfl (lv_at hl 3 rfl) ?_
          refine lv_iload_n hx hb d_M_join_62 rfl (lv_at hl 4 rfl) ?_
          refine lv_iload_n hx hb d_M_join_63 rfl (lv_at hl 5 rfl) ?_
          refine pw_callv hw (va_runV (As := [.int (iI ((to : Int))), .int (iI ((a : Int))), .int (iI ((b1 : Int)))]) (rest := []) ⟨hx, hb, hml, hown, hq⟩ (c_M_takeSizes l D ty ad M F H.size hM co ln wr hO P S G ⟨h99, h100, h101⟩ to a b1 na nb hto ha hb1 hSa hSb (by omega) (by omega) hDa hDb hnn (by omega)) (cwV 3 hq (gV ml_M_52 im_M_takeSizes se_M_takeSizes in_M m_M_takeSizes) rfl rfl rfl (by decide +kernel) ⟨Nat.le_of_ble_eq_true rfl, Nat.le_of_ble_eq_true rfl⟩) (pw_preV hw (by omega) hO rfl) rfl rfl hl.1 rfl (lv_room (Nat.le_of_ble_eq_true rfl)) d_M_join_64 ⟨Nat.le_of_ble_eq_true rfl, Nat.le_of_ble_eq_true rfl⟩) (fun F64 H locs q64 hw => ?_)
          obtain ⟨P9, S9, ⟨g99, g100, g101⟩, hS9n, hDg9, hbv, hS9, hP9, hf9⟩ := q64
          obtain ⟨n9, hn9⟩ : ∃ n9, n9 = na := ⟨_, rfl⟩
          replace hS9n : S9 to = iI ((n9 : Nat) : Int) := by rw [hn9]; exact hS9n
          replace hDg9 : Dg P9 to n9 := by rw [hn9]; exact hDg9
          have hbv9 : bvP P9 to n9 = bvP P9 to (na) := by rw [hn9]
          have hO_at_64 : F64 (98) = .inr (6, [.int (iI (co)), .ref (ad (99)), .ref (ad (100)), .ref (ad (101)), .ref (ad (102)), .int (iI (ln)), .int (iI (wr)), .ref (ad (103))]) := (hf9 (98) (by omega) (by omega) (by omega)).trans hO
          refine lv_aload_n hx hb d_M_join_67 rfl (lv_at hl 2 rfl) ?_
          refine pw_get (ci := 6) (C := R_M) (T := T_M) (N := 8) hx hb hq i_M hown hw (by omega) hO_at_64 rfl 3 (by decide) (hq _ fl_M_16) (fun _ h9 => h9) rfl d_M_join_68 ?_
          refine lv_iload_n hx hb d_M_join_71 rfl (lv_at hl 3 rfl) ?_
          refine lv_iload hx hb d_M_join_72 (lv_at hl 1 rfl) ?_
          refine pw_zast (k := to) hx hb hw 4 (by omega) g101 rfl (iI_in (by omega) (by omega) (by omega)) ((iI_cl (by omega) (by omega)).trans (by omega)) (y := iI (sB za : Int)) (nar_sB za) d_M_join_74 (fun F74 H locs eF74 hw => ?_)
          obtain ⟨G9, eG9⟩ : ∃ z9, z9 = upd G (to) (iI (sB za : Int)) := ⟨_, rfl⟩
          rw [← eG9] at eF74
          have m74_101 : F74 (101) = .inl (ty 4, 43, .inl (G9)) := by rw [eF74]; exact va_up_self ..
          have hO_at_74 : F74 (98) = .inr (6, [.int (iI (co)), .ref (ad (99)), .ref (ad (100)), .ref (ad (101)), .ref (ad (102)), .int (iI (ln)), .int (iI (wr)), .ref (ad (103))]) := (show F74 (98) = F64 (98) from by rw [eF74]; exact va_up_ne _ _ (by omega)).trans hO_at_64
          have g99_at_74 : F74 (99) = .inl (ty 0, 12900, .inl (P9)) := (show F74 (99) = F64 (99) from by rw [eF74]; exact va_up_ne _ _ (by omega)).trans g99
          have g100_at_74 : F74 (100) = .inl (ty 0, 43, .inl (S9)) := (show F74 (100) = F64 (100) from by rw [eF74]; exact va_up_ne _ _ (by omega)).trans g100
          refine lv_goto (tgt := 93) hx hb d_M_join_75 (by decide) ?_
          refine lv_aload_n hx hb d_M_join_93 rfl (lv_at hl 2 rfl) ?_
          refine lv_iload_n hx hb d_M_join_94 rfl (lv_at hl 3 rfl) ?_
          refine pw_callv hw (va_runV (As := [.int (iI ((to : Int)))]) (rest := []) ⟨hx, hb, hml, hown, hq⟩ (c_M_trim l D ty ad M F74 H.size hM co ln wr hO_at_74 P9 S9 G9 ⟨g99_at_74, g100_at_74, m74_101⟩ to n9 hto (hS9n) (by omega) (hDg9)) (cwV 1 hq (gV ml_M_39 im_M_trim se_M_trim in_M m_M_trim) rfl rfl rfl (by decide +kernel) ⟨Nat.le_of_ble_eq_true rfl, Nat.le_of_ble_eq_true rfl⟩) (pw_preV hw (by omega) hO_at_74 rfl) rfl rfl hl.1 rfl (lv_room (Nat.le_of_ble_eq_true rfl)) d_M_join_95 ⟨Nat.le_of_ble_eq_true rfl, Nat.le_of_ble_eq_true rfl⟩) (fun F95 H locs q95 hw => ?_)
          obtain ⟨S8, B8, hMA8, hMg8, hB8, ho8, hf8⟩ := q95
          have hO_at_95 : F95 (98) = .inr (6, [.int (iI (co)), .ref (ad (99)), .ref (ad (100)), .ref (ad (101)), .ref (ad (102)), .int (iI (ln)), .int (iI (wr)), .ref (ad (103))]) := (hf8 (98) (by omega) (by omega) (by omega)).trans hO_at_74
          rw [← hQ]
          exact pw_vret hx hb hr hlocks hw (by
            have hv9 : bvP P9 to n9 = za.natAbs - zb.natAbs := by rw [hbv9, hbv, hva, hvb]
            rw [hv9] at hMg8 hB8
            obtain ⟨hj1, hj2⟩ := jn_sub hlz (show sB za ≠ tbz lz zb by rw [htb]; omega) hc9
            obtain ⟨h1, h2⟩ := fin_trim (z := jz lz za zb) hMA hMA8 hMg8 hB8 ho8 hS9 (fun c9 h9 => by rw [eG9, pk_un h9]) hP9 hj1 (fun h9 => by rw [eG9, pk_us, ← hj2 h9])
            exact ⟨h1, h2, fun y9 h3 h4 h5 => (hf8 (y9) (by omega) (by omega) (by omega)).trans ((show F74 (y9) = F64 (y9) from by rw [eF74]; exact va_up_ne _ _ (by omega)).trans (hf9 (y9) (by omega) (by omega) (by omega)))⟩) d_M_join_98
      · refine lv_aload_n hx hb d_M_join_33 rfl (lv_at hl 2 rfl) ?_
        refine lv_iload_n hx hb d_M_join_34 rfl (lv_at hl 3 rfl) ?_
        refine lv_iload_n hx hb d_M_join_35 rfl (lv_at hl 4 rfl) ?_
        refine lv_iload_n hx hb d_M_join_36 rfl (lv_at hl 5 rfl) ?_
        refine pw_callv hw (va_runV (As := [.int (iI ((to : Int))), .int (iI ((a : Int))), .int (iI ((b1 : Int)))]) (rest := []) ⟨hx, hb, hml, hown, hq⟩ (c_M_addSizes l D ty ad M F H.size hM co ln wr hO P S G ⟨h99, h100, h101⟩ to a b1 na nb hto ha hb1 hSa hSb (by omega) (by omega) hDa hDb ) (cwV 3 hq (gV ml_M_44 im_M_addSizes se_M_addSizes in_M m_M_addSizes) rfl rfl rfl (by decide +kernel) ⟨Nat.le_of_ble_eq_true rfl, Nat.le_of_ble_eq_true rfl⟩) (pw_preV hw (by omega) hO rfl) rfl rfl hl.1 rfl (lv_room (Nat.le_of_ble_eq_true rfl)) d_M_join_37 ⟨Nat.le_of_ble_eq_true rfl, Nat.le_of_ble_eq_true rfl⟩) (fun F37 H locs q37 hw => ?_)
        obtain ⟨P9, S9, ⟨g99, g100, g101⟩, hS9n, hDg9, hbv, hS9, hP9, hf9⟩ := q37
        obtain ⟨n9, hn9⟩ : ∃ n9, n9 = max na nb + 1 := ⟨_, rfl⟩
        replace hS9n : S9 to = iI ((n9 : Nat) : Int) := by rw [hn9]; exact hS9n
        replace hDg9 : Dg P9 to n9 := by rw [hn9]; exact hDg9
        have hbv9 : bvP P9 to n9 = bvP P9 to (max na nb + 1) := by rw [hn9]
        have hO_at_37 : F37 (98) = .inr (6, [.int (iI (co)), .ref (ad (99)), .ref (ad (100)), .ref (ad (101)), .ref (ad (102)), .int (iI (ln)), .int (iI (wr)), .ref (ad (103))]) := (hf9 (98) (by omega) (by omega) (by omega)).trans hO
        refine lv_aload_n hx hb d_M_join_40 rfl (lv_at hl 2 rfl) ?_
        refine pw_get (ci := 6) (C := R_M) (T := T_M) (N := 8) hx hb hq i_M hown hw (by omega) hO_at_37 rfl 3 (by decide) (hq _ fl_M_16) (fun _ h9 => h9) rfl d_M_join_41 ?_
        refine lv_iload_n hx hb d_M_join_44 rfl (lv_at hl 3 rfl) ?_
        refine lv_iload hx hb d_M_join_45 (lv_at hl 1 rfl) ?_
        refine pw_zast (k := to) hx hb hw 4 (by omega) g101 rfl (iI_in (by omega) (by omega) (by omega)) ((iI_cl (by omega) (by omega)).trans (by omega)) (y := iI (sB za : Int)) (nar_sB za) d_M_join_47 (fun F47 H locs eF47 hw => ?_)
        obtain ⟨G9, eG9⟩ : ∃ z9, z9 = upd G (to) (iI (sB za : Int)) := ⟨_, rfl⟩
        rw [← eG9] at eF47
        have m47_101 : F47 (101) = .inl (ty 4, 43, .inl (G9)) := by rw [eF47]; exact va_up_self ..
        have hO_at_47 : F47 (98) = .inr (6, [.int (iI (co)), .ref (ad (99)), .ref (ad (100)), .ref (ad (101)), .ref (ad (102)), .int (iI (ln)), .int (iI (wr)), .ref (ad (103))]) := (show F47 (98) = F37 (98) from by rw [eF47]; exact va_up_ne _ _ (by omega)).trans hO_at_37
        have g99_at_47 : F47 (99) = .inl (ty 0, 12900, .inl (P9)) := (show F47 (99) = F37 (99) from by rw [eF47]; exact va_up_ne _ _ (by omega)).trans g99
        have g100_at_47 : F47 (100) = .inl (ty 0, 43, .inl (S9)) := (show F47 (100) = F37 (100) from by rw [eF47]; exact va_up_ne _ _ (by omega)).trans g100
        refine lv_goto (tgt := 93) hx hb d_M_join_48 (by decide) ?_
        refine lv_aload_n hx hb d_M_join_93 rfl (lv_at hl 2 rfl) ?_
        refine lv_iload_n hx hb d_M_join_94 rfl (lv_at hl 3 rfl) ?_
        refine pw_callv hw (va_runV (As := [.int (iI ((to : Int)))]) (rest := []) ⟨hx, hb, hml, hown, hq⟩ (c_M_trim l D ty ad M F47 H.size hM co ln wr hO_at_47 P9 S9 G9 ⟨g99_at_47, g100_at_47, m47_101⟩ to n9 hto (hS9n) (by omega) (hDg9)) (cwV 1 hq (gV ml_M_39 im_M_trim se_M_trim in_M m_M_trim) rfl rfl rfl (by decide +kernel) ⟨Nat.le_of_ble_eq_true rfl, Nat.le_of_ble_eq_true rfl⟩) (pw_preV hw (by omega) hO_at_47 rfl) rfl rfl hl.1 rfl (lv_room (Nat.le_of_ble_eq_true rfl)) d_M_join_95 ⟨Nat.le_of_ble_eq_true rfl, Nat.le_of_ble_eq_true rfl⟩) (fun F95 H locs q95 hw => ?_)
        obtain ⟨S8, B8, hMA8, hMg8, hB8, ho8, hf8⟩ := q95
        have hO_at_95 : F95 (98) = .inr (6, [.int (iI (co)), .ref (ad (99)), .ref (ad (100)), .ref (ad (101)), .ref (ad (102)), .int (iI (ln)), .int (iI (wr)), .ref (ad (103))]) := (hf8 (98) (by omega) (by omega) (by omega)).trans hO_at_47
        rw [← hQ]
        exact pw_vret hx hb hr hlocks hw (by
          have hv9 : bvP P9 to n9 = za.natAbs + zb.natAbs := by rw [hbv9, hbv, hva, hvb]
          rw [hv9] at hMg8 hB8
          obtain ⟨hj1, hj2⟩ := jn_add hlz (show sB za = tbz lz zb by rw [htb]; omega)
          obtain ⟨h1, h2⟩ := fin_trim (z := jz lz za zb) hMA hMA8 hMg8 hB8 ho8 hS9 (fun c9 h9 => by rw [eG9, pk_un h9]) hP9 hj1 (fun h9 => by rw [eG9, pk_us, ← hj2 h9])
          exact ⟨h1, h2, fun y9 h3 h4 h5 => (hf8 (y9) (by omega) (by omega) (by omega)).trans ((show F47 (y9) = F37 (y9) from by rw [eF47]; exact va_up_ne _ _ (by omega)).trans (hf9 (y9) (by omega) (by omega) (by omega)))⟩) d_M_join_98
    · have htb : tbz lz zb = 1 := if_neg (by omega)
      refine wz_iconst (n := 1) hx hb d_M_join_19 ?_
      refine lv_goto (tgt := 24) hx hb d_M_join_20 (by decide) ?_
      refine lv_istore (lv' := [(6, .int (iI (1))), (5, .int (iI ((sB za : Int)))), (0, .ref (ad (98))), (1, .int (iI ((to : Int)))), (2, .int (iI ((a : Int)))), (3, .int (iI ((b1 : Int)))), (4, .int (iI ((lz : Int))))]) hx hb d_M_join_24 hl (by decide) rfl (fun ls hl => ?_)
      refine lv_iload hx hb d_M_join_26 (lv_at hl 1 rfl) ?_
      refine lv_iload hx hb d_M_join_28 (lv_at hl 0 rfl) ?_
      refine wz_icmp_ne (tgt := 51) hx hb d_M_join_30 (by decide) (by omega) (by omega) (by omega) (by omega) (fun c30 => ?_) (fun c30 => ?_)
      · refine lv_aload_n hx hb d_M_join_51 rfl (lv_at hl 2 rfl) ?_
        refine lv_iload_n hx hb d_M_join_52 rfl (lv_at hl 4 rfl) ?_
        refine lv_iload_n hx hb d_M_join_53 rfl (lv_at hl 5 rfl) ?_
        have hA9 : Mg P S a za.natAbs := ⟨na, hSa, h3a, hDa, hta, hva⟩
        have hB9 : Mg P S b1 zb.natAbs := ⟨nb, hSb, h3b, hDb, htb0, hvb⟩
        have hcp := cmpI_bb za.natAbs zb.natAbs
        refine pw_calli hw (va_runV (As := [.int (iI ((a : Int))), .int (iI ((b1 : Int)))]) (rest := []) ⟨hx, hb, hml, hown, hq⟩ (c_M_compareSizes l D ty ad M F H.size hM co ln wr hO P S G ⟨h99, h100, h101⟩ a b1 za.natAbs zb.natAbs ha hb1 hA9 hB9) (cwV 2 hq (gV ml_M_48 im_M_compareSizes se_M_compareSizes in_M m_M_compareSizes) rfl rfl rfl (by decide +kernel) ⟨Nat.le_of_ble_eq_true rfl, Nat.le_of_ble_eq_true rfl⟩) (pw_preV hw (by omega) hO rfl) rfl rfl hl.1 rfl (lv_room (Nat.le_of_ble_eq_true rfl)) d_M_join_54 ⟨Nat.le_of_ble_eq_true rfl, Nat.le_of_ble_eq_true rfl⟩) (fun r54 F54 H locs q54 hw => ?_)
        obtain ⟨er54, eF54⟩ := q54
        rw [eF54] at hw
        clear eF54
        subst er54
        refine wz_if_lt (tgt := 78) hx hb d_M_join_57 (by decide) (by omega) (by omega) (fun c57 => ?_) (fun c57 => ?_)
        · have hc9 : za.natAbs < zb.natAbs := cmpI_lt (by omega)
          have hnn : na ≤ nb := Nat.le_of_not_lt (fun h9 => by have := mg_S hDb hta h9; omega)
          refine lv_aload_n hx hb d_M_join_78 rfl (lv_at hl 2 rfl) ?_
          refine lv_iload_n hx hb d_M_join_79 rfl (lv_at hl 3 rfl) ?_
          refine lv_iload_n hx hb d_M_join_80 rfl (lv_at hl 5 rfl) ?_
          refine lv_iload_n hx hb d_M_join_81 rfl (lv_at hl 4 rfl) ?_
          refine pw_callv hw (va_runV (As := [.int (iI ((to : Int))), .int (iI ((b1 : Int))), .int (iI ((a : Int)))]) (rest := []) ⟨hx, hb, hml, hown, hq⟩ (c_M_takeSizes l D ty ad M F H.size hM co ln wr hO P S G ⟨h99, h100, h101⟩ to b1 a nb na hto hb1 ha hSb hSa (by omega) (by omega) hDb hDa hnn (by omega)) (cwV 3 hq (gV ml_M_52 im_M_takeSizes se_M_takeSizes in_M m_M_takeSizes) rfl rfl rfl (by decide +kernel) ⟨Nat.le_of_ble_eq_true rfl, Nat.le_of_ble_eq_true rfl⟩) (pw_preV hw (by omega) hO rfl) rfl rfl hl.1 rfl (lv_room (Nat.le_of_ble_eq_true rfl)) d_M_join_82 ⟨Nat.le_of_ble_eq_true rfl, Nat.le_of_ble_eq_true rfl⟩) (fun F82 H locs q82 hw => ?_)
          obtain ⟨P9, S9, ⟨g99, g100, g101⟩, hS9n, hDg9, hbv, hS9, hP9, hf9⟩ := q82
          obtain ⟨n9, hn9⟩ : ∃ n9, n9 = nb := ⟨_, rfl⟩
          replace hS9n : S9 to = iI ((n9 : Nat) : Int) := by rw [hn9]; exact hS9n
          replace hDg9 : Dg P9 to n9 := by rw [hn9]; exact hDg9
          have hbv9 : bvP P9 to n9 = bvP P9 to (nb) := by rw [hn9]
          have hO_at_82 : F82 (98) = .inr (6, [.int (iI (co)), .ref (ad (99)), .ref (ad (100)), .ref (ad (101)), .ref (ad (102)), .int (iI (ln)), .int (iI (wr)), .ref (ad (103))]) := (hf9 (98) (by omega) (by omega) (by omega)).trans hO
          refine lv_aload_n hx hb d_M_join_85 rfl (lv_at hl 2 rfl) ?_
          refine pw_get (ci := 6) (C := R_M) (T := T_M) (N := 8) hx hb hq i_M hown hw (by omega) hO_at_82 rfl 3 (by decide) (hq _ fl_M_16) (fun _ h9 => h9) rfl d_M_join_86 ?_
          refine lv_iload_n hx hb d_M_join_89 rfl (lv_at hl 3 rfl) ?_
          refine lv_iload hx hb d_M_join_90 (lv_at hl 0 rfl) ?_
          refine pw_zast (k := to) hx hb hw 4 (by omega) g101 rfl (iI_in (by omega) (by omega) (by omega)) ((iI_cl (by omega) (by omega)).trans (by omega)) (y := iI (1)) (by decide) d_M_join_92 (fun F92 H locs eF92 hw => ?_)
          obtain ⟨G9, eG9⟩ : ∃ z9, z9 = upd G (to) (iI (1)) := ⟨_, rfl⟩
          rw [← eG9] at eF92
          have m92_101 : F92 (101) = .inl (ty 4, 43, .inl (G9)) := by rw [eF92]; exact va_up_self ..
          have hO_at_92 : F92 (98) = .inr (6, [.int (iI (co)), .ref (ad (99)), .ref (ad (100)), .ref (ad (101)), .ref (ad (102)), .int (iI (ln)), .int (iI (wr)), .ref (ad (103))]) := (show F92 (98) = F82 (98) from by rw [eF92]; exact va_up_ne _ _ (by omega)).trans hO_at_82
          have g99_at_92 : F92 (99) = .inl (ty 0, 12900, .inl (P9)) := (show F92 (99) = F82 (99) from by rw [eF92]; exact va_up_ne _ _ (by omega)).trans g99
          have g100_at_92 : F92 (100) = .inl (ty 0, 43, .inl (S9)) := (show F92 (100) = F82 (100) from by rw [eF92]; exact va_up_ne _ _ (by omega)).trans g100
          refine lv_aload_n hx hb d_M_join_93 rfl (lv_at hl 2 rfl) ?_
          refine lv_iload_n hx hb d_M_join_94 rfl (lv_at hl 3 rfl) ?_
          refine pw_callv hw (va_runV (As := [.int (iI ((to : Int)))]) (rest := []) ⟨hx, hb, hml, hown, hq⟩ (c_M_trim l D ty ad M F92 H.size hM co ln wr hO_at_92 P9 S9 G9 ⟨g99_at_92, g100_at_92, m92_101⟩ to n9 hto (hS9n) (by omega) (hDg9)) (cwV 1 hq (gV ml_M_39 im_M_trim se_M_trim in_M m_M_trim) rfl rfl rfl (by decide +kernel) ⟨Nat.le_of_ble_eq_true rfl, Nat.le_of_ble_eq_true rfl⟩) (pw_preV hw (by omega) hO_at_92 rfl) rfl rfl hl.1 rfl (lv_room (Nat.le_of_ble_eq_true rfl)) d_M_join_95 ⟨Nat.le_of_ble_eq_true rfl, Nat.le_of_ble_eq_true rfl⟩) (fun F95 H locs q95 hw => ?_)
          obtain ⟨S8, B8, hMA8, hMg8, hB8, ho8, hf8⟩ := q95
          have hO_at_95 : F95 (98) = .inr (6, [.int (iI (co)), .ref (ad (99)), .ref (ad (100)), .ref (ad (101)), .ref (ad (102)), .int (iI (ln)), .int (iI (wr)), .ref (ad (103))]) := (hf8 (98) (by omega) (by omega) (by omega)).trans hO_at_92
          rw [← hQ]
          exact pw_vret hx hb hr hlocks hw (by
            have hv9 : bvP P9 to n9 = zb.natAbs - za.natAbs := by rw [hbv9, hbv, hva, hvb]
            rw [hv9] at hMg8 hB8
            obtain ⟨hj1, hj2⟩ := jn_bus hlz (show sB za ≠ tbz lz zb by rw [htb]; omega) hc9
            obtain ⟨h1, h2⟩ := fin_trim (z := jz lz za zb) hMA hMA8 hMg8 hB8 ho8 hS9 (fun c9 h9 => by rw [eG9, pk_un h9]) hP9 hj1 (fun h9 => by rw [eG9, pk_us, ← hj2 h9, htb]; rfl)
            exact ⟨h1, h2, fun y9 h3 h4 h5 => (hf8 (y9) (by omega) (by omega) (by omega)).trans ((show F92 (y9) = F82 (y9) from by rw [eF92]; exact va_up_ne _ _ (by omega)).trans (hf9 (y9) (by omega) (by omega) (by omega)))⟩) d_M_join_98
        · have hc9 : zb.natAbs ≤ za.natAbs := cmpI_ge (by omega)
          have hnn : nb ≤ na := Nat.le_of_not_lt (fun h9 => by have := mg_S hDa htb0 h9; omega)
          refine lv_aload_n hx hb d_M_join_60 rfl (lv_at hl 2 rfl) ?_
          refine lv_iload_n hx hb d_M_join_61 rfl (lv_at hl 3 rfl) ?_
          refine lv_iload_n hx hb d_M_join_62 rfl (lv_at hl 4 rfl) ?_
          refine lv_iload_n hx hb d_M_join_63 rfl (lv_at hl 5 rfl) ?_
          refine pw_callv hw (va_runV (As := [.int (iI ((to : Int))), .int (iI ((a : Int))), .int (iI ((b1 : Int)))]) (rest := []) ⟨hx, hb, hml, hown, hq⟩ (c_M_takeSizes l D ty ad M F H.size hM co ln wr hO P S G ⟨h99, h100, h101⟩ to a b1 na nb hto ha hb1 hSa hSb (by omega) (by omega) hDa hDb hnn (by omega)) (cwV 3 hq (gV ml_M_52 im_M_takeSizes se_M_takeSizes in_M m_M_takeSizes) rfl rfl rfl (by decide +kernel) ⟨Nat.le_of_ble_eq_true rfl, Nat.le_of_ble_eq_true rfl⟩) (pw_preV hw (by omega) hO rfl) rfl rfl hl.1 rfl (lv_room (Nat.le_of_ble_eq_true rfl)) d_M_join_64 ⟨Nat.le_of_ble_eq_true rfl, Nat.le_of_ble_eq_true rfl⟩) (fun F64 H locs q64 hw => ?_)
          obtain ⟨P9, S9, ⟨g99, g100, g101⟩, hS9n, hDg9, hbv, hS9, hP9, hf9⟩ := q64
          obtain ⟨n9, hn9⟩ : ∃ n9, n9 = na := ⟨_, rfl⟩
          replace hS9n : S9 to = iI ((n9 : Nat) : Int) := by rw [hn9]; exact hS9n
          replace hDg9 : Dg P9 to n9 := by rw [hn9]; exact hDg9
          have hbv9 : bvP P9 to n9 = bvP P9 to (na) := by rw [hn9]
          have hO_at_64 : F64 (98) = .inr (6, [.int (iI (co)), .ref (ad (99)), .ref (ad (100)), .ref (ad (101)), .ref (ad (102)), .int (iI (ln)), .int (iI (wr)), .ref (ad (103))]) := (hf9 (98) (by omega) (by omega) (by omega)).trans hO
          refine lv_aload_n hx hb d_M_join_67 rfl (lv_at hl 2 rfl) ?_
          refine pw_get (ci := 6) (C := R_M) (T := T_M) (N := 8) hx hb hq i_M hown hw (by omega) hO_at_64 rfl 3 (by decide) (hq _ fl_M_16) (fun _ h9 => h9) rfl d_M_join_68 ?_
          refine lv_iload_n hx hb d_M_join_71 rfl (lv_at hl 3 rfl) ?_
          refine lv_iload hx hb d_M_join_72 (lv_at hl 1 rfl) ?_
          refine pw_zast (k := to) hx hb hw 4 (by omega) g101 rfl (iI_in (by omega) (by omega) (by omega)) ((iI_cl (by omega) (by omega)).trans (by omega)) (y := iI (sB za : Int)) (nar_sB za) d_M_join_74 (fun F74 H locs eF74 hw => ?_)
          obtain ⟨G9, eG9⟩ : ∃ z9, z9 = upd G (to) (iI (sB za : Int)) := ⟨_, rfl⟩
          rw [← eG9] at eF74
          have m74_101 : F74 (101) = .inl (ty 4, 43, .inl (G9)) := by rw [eF74]; exact va_up_self ..
          have hO_at_74 : F74 (98) = .inr (6, [.int (iI (co)), .ref (ad (99)), .ref (ad (100)), .ref (ad (101)), .ref (ad (102)), .int (iI (ln)), .int (iI (wr)), .ref (ad (103))]) := (show F74 (98) = F64 (98) from by rw [eF74]; exact va_up_ne _ _ (by omega)).trans hO_at_64
          have g99_at_74 : F74 (99) = .inl (ty 0, 12900, .inl (P9)) := (show F74 (99) = F64 (99) from by rw [eF74]; exact va_up_ne _ _ (by omega)).trans g99
          have g100_at_74 : F74 (100) = .inl (ty 0, 43, .inl (S9)) := (show F74 (100) = F64 (100) from by rw [eF74]; exact va_up_ne _ _ (by omega)).trans g100
          refine lv_goto (tgt := 93) hx hb d_M_join_75 (by decide) ?_
          refine lv_aload_n hx hb d_M_join_93 rfl (lv_at hl 2 rfl) ?_
          refine lv_iload_n hx hb d_M_join_94 rfl (lv_at hl 3 rfl) ?_
          refine pw_callv hw (va_runV (As := [.int (iI ((to : Int)))]) (rest := []) ⟨hx, hb, hml, hown, hq⟩ (c_M_trim l D ty ad M F74 H.size hM co ln wr hO_at_74 P9 S9 G9 ⟨g99_at_74, g100_at_74, m74_101⟩ to n9 hto (hS9n) (by omega) (hDg9)) (cwV 1 hq (gV ml_M_39 im_M_trim se_M_trim in_M m_M_trim) rfl rfl rfl (by decide +kernel) ⟨Nat.le_of_ble_eq_true rfl, Nat.le_of_ble_eq_true rfl⟩) (pw_preV hw (by omega) hO_at_74 rfl) rfl rfl hl.1 rfl (lv_room (Nat.le_of_ble_eq_true rfl)) d_M_join_95 ⟨Nat.le_of_ble_eq_true rfl, Nat.le_of_ble_eq_true rfl⟩) (fun F95 H locs q95 hw => ?_)
          obtain ⟨S8, B8, hMA8, hMg8, hB8, ho8, hf8⟩ := q95
          have hO_at_95 : F95 (98) = .inr (6, [.int (iI (co)), .ref (ad (99)), .ref (ad (100)), .ref (ad (101)), .ref (ad (102)), .int (iI (ln)), .int (iI (wr)), .ref (ad (103))]) := (hf8 (98) (by omega) (by omega) (by omega)).trans hO_at_74
          rw [← hQ]
          exact pw_vret hx hb hr hlocks hw (by
            have hv9 : bvP P9 to n9 = za.natAbs - zb.natAbs := by rw [hbv9, hbv, hva, hvb]
            rw [hv9] at hMg8 hB8
            obtain ⟨hj1, hj2⟩ := jn_sub hlz (show sB za ≠ tbz lz zb by rw [htb]; omega) hc9
            obtain ⟨h1, h2⟩ := fin_trim (z := jz lz za zb) hMA hMA8 hMg8 hB8 ho8 hS9 (fun c9 h9 => by rw [eG9, pk_un h9]) hP9 hj1 (fun h9 => by rw [eG9, pk_us, ← hj2 h9])
            exact ⟨h1, h2, fun y9 h3 h4 h5 => (hf8 (y9) (by omega) (by omega) (by omega)).trans ((show F74 (y9) = F64 (y9) from by rw [eF74]; exact va_up_ne _ _ (by omega)).trans (hf9 (y9) (by omega) (by omega) (by omega)))⟩) d_M_join_98
      · refine lv_aload_n hx hb d_M_join_33 rfl (lv_at hl 2 rfl) ?_
        refine lv_iload_n hx hb d_M_join_34 rfl (lv_at hl 3 rfl) ?_
        refine lv_iload_n hx hb d_M_join_35 rfl (lv_at hl 4 rfl) ?_
        refine lv_iload_n hx hb d_M_join_36 rfl (lv_at hl 5 rfl) ?_
        refine pw_callv hw (va_runV (As := [.int (iI ((to : Int))), .int (iI ((a : Int))), .int (iI ((b1 : Int)))]) (rest := []) ⟨hx, hb, hml, hown, hq⟩ (c_M_addSizes l D ty ad M F H.size hM co ln wr hO P S G ⟨h99, h100, h101⟩ to a b1 na nb hto ha hb1 hSa hSb (by omega) (by omega) hDa hDb ) (cwV 3 hq (gV ml_M_44 im_M_addSizes se_M_addSizes in_M m_M_addSizes) rfl rfl rfl (by decide +kernel) ⟨Nat.le_of_ble_eq_true rfl, Nat.le_of_ble_eq_true rfl⟩) (pw_preV hw (by omega) hO rfl) rfl rfl hl.1 rfl (lv_room (Nat.le_of_ble_eq_true rfl)) d_M_join_37 ⟨Nat.le_of_ble_eq_true rfl, Nat.le_of_ble_eq_true rfl⟩) (fun F37 H locs q37 hw => ?_)
        obtain ⟨P9, S9, ⟨g99, g100, g101⟩, hS9n, hDg9, hbv, hS9, hP9, hf9⟩ := q37
        obtain ⟨n9, hn9⟩ : ∃ n9, n9 = max na nb + 1 := ⟨_, rfl⟩
        replace hS9n : S9 to = iI ((n9 : Nat) : Int) := by rw [hn9]; exact hS9n
        replace hDg9 : Dg P9 to n9 := by rw [hn9]; exact hDg9
        have hbv9 : bvP P9 to n9 = bvP P9 to (max na nb + 1) := by rw [hn9]
        have hO_at_37 : F37 (98) = .inr (6, [.int (iI (co)), .ref (ad (99)), .ref (ad (100)), .ref (ad (101)), .ref (ad (102)), .int (iI (ln)), .int (iI (wr)), .ref (ad (103))]) := (hf9 (98) (by omega) (by omega) (by omega)).trans hO
        refine lv_aload_n hx hb d_M_join_40 rfl (lv_at hl 2 rfl) ?_
        refine pw_get (ci := 6) (C := R_M) (T := T_M) (N := 8) hx hb hq i_M hown hw (by omega) hO_at_37 rfl 3 (by decide) (hq _ fl_M_16) (fun _ h9 => h9) rfl d_M_join_41 ?_
        refine lv_iload_n hx hb d_M_join_44 rfl (lv_at hl 3 rfl) ?_
        refine lv_iload hx hb d_M_join_45 (lv_at hl 1 rfl) ?_
        refine pw_zast (k := to) hx hb hw 4 (by omega) g101 rfl (iI_in (by omega) (by omega) (by omega)) ((iI_cl (by omega) (by omega)).trans (by omega)) (y := iI (sB za : Int)) (nar_sB za) d_M_join_47 (fun F47 H locs eF47 hw => ?_)
        obtain ⟨G9, eG9⟩ : ∃ z9, z9 = upd G (to) (iI (sB za : Int)) := ⟨_, rfl⟩
        rw [← eG9] at eF47
        have m47_101 : F47 (101) = .inl (ty 4, 43, .inl (G9)) := by rw [eF47]; exact va_up_self ..
        have hO_at_47 : F47 (98) = .inr (6, [.int (iI (co)), .ref (ad (99)), .ref (ad (100)), .ref (ad (101)), .ref (ad (102)), .int (iI (ln)), .int (iI (wr)), .ref (ad (103))]) := (show F47 (98) = F37 (98) from by rw [eF47]; exact va_up_ne _ _ (by omega)).trans hO_at_37
        have g99_at_47 : F47 (99) = .inl (ty 0, 12900, .inl (P9)) := (show F47 (99) = F37 (99) from by rw [eF47]; exact va_up_ne _ _ (by omega)).trans g99
        have g100_at_47 : F47 (100) = .inl (ty 0, 43, .inl (S9)) := (show F47 (100) = F37 (100) from by rw [eF47]; exact va_up_ne _ _ (by omega)).trans g100
        refine lv_goto (tgt := 93) hx hb d_M_join_48 (by decide) ?_
        refine lv_aload_n hx hb d_M_join_93 rfl (lv_at hl 2 rfl) ?_
        refine lv_iload_n hx hb d_M_join_94 rfl (lv_at hl 3 rfl) ?_
        refine pw_callv hw (va_runV (As := [.int (iI ((to : Int)))]) (rest := []) ⟨hx, hb, hml, hown, hq⟩ (c_M_trim l D ty ad M F47 H.size hM co ln wr hO_at_47 P9 S9 G9 ⟨g99_at_47, g100_at_47, m47_101⟩ to n9 hto (hS9n) (by omega) (hDg9)) (cwV 1 hq (gV ml_M_39 im_M_trim se_M_trim in_M m_M_trim) rfl rfl rfl (by decide +kernel) ⟨Nat.le_of_ble_eq_true rfl, Nat.le_of_ble_eq_true rfl⟩) (pw_preV hw (by omega) hO_at_47 rfl) rfl rfl hl.1 rfl (lv_room (Nat.le_of_ble_eq_true rfl)) d_M_join_95 ⟨Nat.le_of_ble_eq_true rfl, Nat.le_of_ble_eq_true rfl⟩) (fun F95 H locs q95 hw => ?_)
        obtain ⟨S8, B8, hMA8, hMg8, hB8, ho8, hf8⟩ := q95
        have hO_at_95 : F95 (98) = .inr (6, [.int (iI (co)), .ref (ad (99)), .ref (ad (100)), .ref (ad (101)), .ref (ad (102)), .int (iI (ln)), .int (iI (wr)), .ref (ad (103))]) := (hf8 (98) (by omega) (by omega) (by omega)).trans hO_at_47
        rw [← hQ]
        exact pw_vret hx hb hr hlocks hw (by
          have hv9 : bvP P9 to n9 = za.natAbs + zb.natAbs := by rw [hbv9, hbv, hva, hvb]
          rw [hv9] at hMg8 hB8
          obtain ⟨hj1, hj2⟩ := jn_add hlz (show sB za = tbz lz zb by rw [htb]; omega)
          obtain ⟨h1, h2⟩ := fin_trim (z := jz lz za zb) hMA hMA8 hMg8 hB8 ho8 hS9 (fun c9 h9 => by rw [eG9, pk_un h9]) hP9 hj1 (fun h9 => by rw [eG9, pk_us, ← hj2 h9])
          exact ⟨h1, h2, fun y9 h3 h4 h5 => (hf8 (y9) (by omega) (by omega) (by omega)).trans ((show F47 (y9) = F37 (y9) from by rw [eF47]; exact va_up_ne _ _ (by omega)).trans (hf9 (y9) (by omega) (by omega) (by omega)))⟩) d_M_join_98
  rw [hH, hlo] at hgo
  exact hgo
