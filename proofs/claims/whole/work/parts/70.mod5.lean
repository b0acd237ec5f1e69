/-! the reference: divide: by program -/
set_option maxHeartbeats 4000000 in
set_option maxRecDepth 100000 in
/-- divide(a, b) -/
theorem c_M_divide (l : Launch) (D : va_G) (ty : Nat → ClassId) (ad : Nat → Nat) (M : Nat) (F : Nat → va_E) (sz : Nat) (hM : 103 < M) (co ln wr : Int) (hO : F 98 = oM ad co ln wr) (a b1 : Nat) (za zb : Int) (ha : a < 43) (hb1 : b1 < 43) (hna9 : a < 36 ∨ 38 < a) (hnb9 : b1 < 36 ∨ 38 < b1) (hz0 : zb ≠ 0) (hNa : Nm ty F a za) (hNb : Nm ty F b1 zb) (hma : md za.natAbs) (hmb : md zb.natAbs) :
    CV l y_M_divide w_M_divide ({ frames := 2, cells := 0, slots := 0, locals := 50 } : Room) [.ref (ad (98)), .int (iI ((a : Int))), .int (iI ((b1 : Int)))] D ty ad M F sz (fun F1 => Nm ty F1 37 (za.tdiv zb) ∧ Nm ty F1 36 (za.tmod zb) ∧ kp ty F F1 (fun c => c = 36 ∨ c = 37 ∨ c = 38) ∧ frM F F1) := by
  refine Met.ofW (cc := b_M_divide) (maxL := 15) (ret := none) (by decide) rfl ?_
  intro p e s m args below meth c s₁ B hml hv
  obtain ⟨rfl, hsz, hP, hK, hD0⟩ := hv
  have hx := B.exec
  have hb := B.bytes
  have hr := B.returns
  have hts := atoms_spec (ws := w_M_divide) B.pre
  have hq : ∀ w ∈ wT, w.before _ s = true := fun w h => hts w (List.mem_cons_of_mem _ h)
  have hown : s.vm.findClass R_M = some m.cls := findClass_of_methodNamed B.named
  have hlocks := B.notSynchronized
  subst hsz
  have hw := pw_start hP hK hD0
  have hl := lv_entry ([.ref (ad (98)), .int (iI ((a : Int))), .int (iI ((b1 : Int)))]) (n := 15) (Nat.le_of_ble_eq_true rfl)
  rw [lg_entry_eq]
  generalize (lg_sl ([.ref (ad (98)), .int (iI ((a : Int))), .int (iI ((b1 : Int)))]) ++ List.replicate (15 - (lg_sl ([.ref (ad (98)), .int (iI ((a : Int))), .int (iI ((b1 : Int)))])).length) Slot.unset).toArray = ls at hl ⊢
  have hl : lv_has ls 15 [(0, .ref (ad (98))), (1, .int (iI ((a : Int)))), (2, .int (iI ((b1 : Int))))] := hl
  change W p l e ({ frames := 2, cells := 0, slots := 0, locals := 50 } : Room) s m ([.ref (ad (98)), .int (iI ((a : Int))), .int (iI ((b1 : Int)))]).toArray below meth c s.heap [] 0 0 (MQ below (va_Qv (fun F1 => Nm ty F1 37 (za.tdiv zb) ∧ Nm ty F1 36 (za.tmod zb) ∧ kp ty F F1 (fun c => c = 36 ∨ c = 37 ∨ c = 38) ∧ frM F F1) (pAt D classes (tysL ty) ad M (pA ad M s.heap.size)) (pA ad M s.heap.size)) ([.ref (ad (98)), .int (iI ((a : Int))), .int (iI ((b1 : Int)))]).toArray s 0 0 (pA ad M s.heap.size)) (F0 m 0 ls [])
  generalize hQ : MQ below (va_Qv (fun F1 => Nm ty F1 37 (za.tdiv zb) ∧ Nm ty F1 36 (za.tmod zb) ∧ kp ty F F1 (fun c => c = 36 ∨ c = 37 ∨ c = 38) ∧ frM F F1) (pAt D classes (tysL ty) ad M (pA ad M s.heap.size)) (pA ad M s.heap.size)) ([.ref (ad (98)), .int (iI ((a : Int))), .int (iI ((b1 : Int)))]).toArray s 0 0 (pA ad M s.heap.size) = Q
  obtain ⟨H, hH⟩ : ∃ H, H = s.heap := ⟨_, rfl⟩
  obtain ⟨locs, hlo⟩ : ∃ z : List Loc, z = [] := ⟨_, rfl⟩
  have hw : pw D classes (tysL ty) ad M F (pA ad M s.heap.size) s H locs := by rw [hH, hlo]; exact hw
  have hgo : W p l e ({ frames := 2, cells := 0, slots := 0, locals := 50 } : Room) s m ([.ref (ad (98)), .int (iI ((a : Int))), .int (iI ((b1 : Int)))]).toArray below meth c H locs 0 0 Q (F0 m 0 ls []) := by
    obtain ⟨P, S, G, hMA, ⟨na, hSa, h3a, hDa, hta, hva⟩, hGa⟩ := id hNa
    obtain ⟨⟨nb, hSb, h3b, hDb, htb, hvb⟩, hGb⟩ := hNb.nu hMA
    obtain ⟨h99, h100, h101⟩ := id hMA
    have hnaN := Mg.n257 (S := S) hma hDa hta hva
    have hnbN := Mg.n257 (S := S) hmb hDb htb hvb
    have hsa := sB_c za
    have hsb := sB_c zb
    have hzb0 : 0 < zb.natAbs := by omega
    have hnb1 : 1 ≤ nb := Nat.pos_of_ne_zero (fun h9 => by rw [h9, bvP_0] at hvb; omega)
    refine lv_aload_n hx hb d_M_divide_0 rfl (lv_at hl 0 rfl) ?_
    refine pw_get (ci := 6) (C := R_M) (T := T_M) (N := 8) hx hb hq i_M hown hw (by omega) hO rfl 3 (by decide) (hq _ fl_M_16) (fun _ h9 => h9) rfl d_M_divide_1 ?_
    refine lv_iload_n hx hb d_M_divide_4 rfl (lv_at hl 1 rfl) ?_
    refine pw_zald (k := a) hx hb hw 4 (by omega) h101 rfl (iI_in (by omega) (by omega) (by omega)) ((iI_cl (by omega) (by omega)).trans (by omega)) d_M_divide_5 ?_
    refine lv_topi (fun x5 ex5 => ?_)
    obtain rfl : x5 = iI ((sB za : Int)) := ex5.trans (hGa)
    refine lv_istore_n (lv' := [(3, .int (iI ((sB za : Int)))), (0, .ref (ad (98))), (1, .int (iI ((a : Int)))), (2, .int (iI ((b1 : Int))))]) hx hb d_M_divide_6 rfl hl (by decide) rfl (fun ls hl => ?_)
    refine lv_aload_n hx hb d_M_divide_7 rfl (lv_at hl 1 rfl) ?_
    refine pw_get (ci := 6) (C := R_M) (T := T_M) (N := 8) hx hb hq i_M hown hw (by omega) hO rfl 3 (by decide) (hq _ fl_M_16) (fun _ h9 => h9) rfl d_M_divide_8 ?_
    refine lv_iload_n hx hb d_M_divide_11 rfl (lv_at hl 2 rfl) ?_
    refine pw_zald (k := a) hx hb hw 4 (by omega) h101 rfl (iI_in (by omega) (by omega) (by omega)) ((iI_cl (by omega) (by omega)).trans (by omega)) d_M_divide_12 ?_
    refine lv_topi (fun x12 ex12 => ?_)
    obtain rfl : x12 = iI ((sB za : Int)) := ex12.trans (hGa)
    refine lv_aload_n hx hb d_M_divide_13 rfl (lv_at hl 1 rfl) ?_
    refine pw_get (ci := 6) (C := R_M) (T := T_M) (N := 8) hx hb hq i_M hown hw (by omega) hO rfl 3 (by decide) (hq _ fl_M_16) (fun _ h9 => h9) rfl d_M_divide_14 ?_
    refine lv_iload_n hx hb d_M_divide_17 rfl (lv_at hl 3 rfl) ?_
    refine pw_zald (k := b1) hx hb hw 4 (by omega) h101 rfl (iI_in (by omega) (by omega) (by omega)) ((iI_cl (by omega) (by omega)).trans (by omega)) d_M_divide_18 ?_
    refine lv_topi (fun x18 ex18 => ?_)
    obtain rfl : x18 = iI ((sB zb : Int)) := ex18.trans (hGb)
    have K29 : ∀ (sq : Nat) (ls : Array Slot), (sq = if sB za = sB zb then 0 else 1) → (sq ≤ 1) → lv_has ls 15 [(0, .ref (ad (98))), (1, .int (iI ((a : Int)))), (2, .int (iI ((b1 : Int)))), (3, .int (iI ((sB za : Int)))), (4, .int (iI ((sq : Int))))] → W p l e ({ frames := 2, cells := 0, slots := 0, locals := 50 } : Room) s m ([.ref (ad (98)), .int (iI ((a : Int))), .int (iI ((b1 : Int)))]).toArray below meth c H locs 0 0 Q (F0 m 29 ls []) := by
      intro sq ls hsq hsq1 hl
      refine lv_aload_n hx hb d_M_divide_29 rfl (lv_at hl 0 rfl) ?_
      refine lv_iload_n hx hb d_M_divide_30 rfl (lv_at hl 1 rfl) ?_
      refine lv_iload_n hx hb d_M_divide_31 rfl (lv_at hl 2 rfl) ?_
      have hA9 : Mg P S a za.natAbs := ⟨na, hSa, h3a, hDa, hta, hva⟩
      have hB9 : Mg P S b1 zb.natAbs := ⟨nb, hSb, h3b, hDb, htb, hvb⟩
      have hcp := cmpI_bb za.natAbs zb.natAbs
      refine pw_calli hw (va_runV (As := [.int (iI ((a : Int))), .int (iI ((b1 : Int)))]) (rest := []) ⟨hx, hb, hml, hown, hq⟩ (c_M_compareSizes l D ty ad M F H.size hM co ln wr hO P S G ⟨h99, h100, h101⟩ a b1 za.natAbs zb.natAbs ha hb1 hA9 hB9) (cwV 2 hq (gV ml_M_48 im_M_compareSizes se_M_compareSizes in_M m_M_compareSizes) rfl rfl rfl (by decide +kernel) ⟨Nat.le_of_ble_eq_true rfl, Nat.le_of_ble_eq_true rfl⟩) (pw_preV hw (by omega) hO rfl) rfl rfl hl.1 rfl (lv_room (Nat.le_of_ble_eq_true rfl)) d_M_divide_32 ⟨Nat.le_of_ble_eq_true rfl, Nat.le_of_ble_eq_true rfl⟩) (fun r32 F32 H locs q32 hw => ?_)
      obtain ⟨er32, eF32⟩ := q32
      rw [eF32] at hw
      clear eF32
      subst er32
      refine wz_if_ge (tgt := 62) hx hb d_M_divide_35 (by decide) (by omega) (by omega) (fun c35 => ?_) (fun c35 => ?_)
      · have hge : zb.natAbs ≤ za.natAbs := cmpI_ge (by omega)
        refine lv_ldc (v := iI (65536)) hx hb hown (hq _ co_M_43) d_M_divide_62 ?_
        refine lv_aload_n hx hb d_M_divide_64 rfl (lv_at hl 0 rfl) ?_
        refine pw_get (ci := 6) (C := R_M) (T := T_M) (N := 8) hx hb hq i_M hown hw (by omega) hO rfl 1 (by decide) (hq _ fl_M_7) (fun _ h9 => h9) rfl d_M_divide_65 ?_
        refine wz_sipush (n := 300) hx hb d_M_divide_68 (by decide) ?_
        refine lv_iload_n hx hb d_M_divide_71 rfl (lv_at hl 2 rfl) ?_
        refine wz_imul hx hb d_M_divide_72 rfl ?_
        refine lv_aload_n hx hb d_M_divide_73 rfl (lv_at hl 0 rfl) ?_
        refine pw_get (ci := 6) (C := R_M) (T := T_M) (N := 8) hx hb hq i_M hown hw (by omega) hO rfl 2 (by decide) (hq _ fl_M_13) (fun _ h9 => h9) rfl d_M_divide_74 ?_
        refine lv_iload_n hx hb d_M_divide_77 rfl (lv_at hl 2 rfl) ?_
        refine pw_iald (k := b1) hx hb hw 0 (by omega) h100 rfl (iI_in (by omega) (by omega) (by omega)) ((iI_cl (by omega) (by omega)).trans (by omega)) d_M_divide_78 ?_
        refine lv_topi (fun x78 ex78 => ?_)
        obtain rfl : x78 = iI ((nb : Int)) := ex78.trans (hSb)
        refine wz_iadd hx hb d_M_divide_79 rfl ?_
        refine wz_iconst (n := 1) hx hb d_M_divide_80 ?_
        refine wz_isub hx hb d_M_divide_81 rfl ?_
        obtain ⟨tb, htb9⟩ : ∃ tb, tb = dl P (300 * b1 + (nb - 1)) := ⟨_, rfl⟩
        have htb1 : tb < 65536 := by rw [htb9]; exact hDb _ (by omega)
        have htb0 : 1 ≤ tb := by have := htb.resolve_left (by omega); omega
        obtain ⟨d0, hd9⟩ : ∃ d0, d0 = 65536 / (tb + 1) := ⟨_, rfl⟩
        have hd0 : 1 ≤ d0 ∧ d0 < 65536 := by rw [hd9]; exact d_bd htb0 htb1
        refine pw_iald (k := 300 * b1 + (nb - 1)) hx hb hw 0 (by omega) h99 rfl (iI_in (by omega) (by omega) (by omega)) ((iI_cl (by omega) (by omega)).trans (by omega)) d_M_divide_82 ?_
        refine lv_topi (fun x82 ex82 => ?_)
        obtain rfl : x82 = iI ((tb : Int)) := ex82.trans (by rw [htb9]; exact hDb.get (by omega))
        refine wz_iconst (n := 1) hx hb d_M_divide_83 ?_
        refine wz_iadd (z := ((tb + 1 : Nat) : Int)) hx hb d_M_divide_84 (by omega) ?_
        refine wz_idiv (a := 65536) (b := tb + 1) (z := d0) hx hb d_M_divide_85 (by omega) (by omega) (by omega) (hd9.symm) ?_
        refine lv_istore (lv' := [(5, .int (iI (((d0 : Nat) : Int)))), (0, .ref (ad (98))), (1, .int (iI ((a : Int)))), (2, .int (iI ((b1 : Int)))), (3, .int (iI ((sB za : Int)))), (4, .int (iI ((sq : Int))))]) hx hb d_M_divide_86 hl (by decide) rfl (fun ls hl => ?_)
        refine lv_aload_n hx hb d_M_divide_88 rfl (lv_at hl 1 rfl) ?_
        refine pw_get (ci := 6) (C := R_M) (T := T_M) (N := 8) hx hb hq i_M hown hw (by omega) hO rfl 2 (by decide) (hq _ fl_M_13) (fun _ h9 => h9) rfl d_M_divide_89 ?_
        refine lv_iload_n hx hb d_M_divide_92 rfl (lv_at hl 2 rfl) ?_
        refine pw_iald (k := a) hx hb hw 0 (by omega) h100 rfl (iI_in (by omega) (by omega) (by omega)) ((iI_cl (by omega) (by omega)).trans (by omega)) d_M_divide_93 ?_
        refine lv_topi (fun x93 ex93 => ?_)
        obtain rfl : x93 = iI ((na : Int)) := ex93.trans (hSa)
        refine lv_istore (lv' := [(6, .int (iI ((na : Int)))), (5, .int (iI (((d0 : Nat) : Int)))), (0, .ref (ad (98))), (1, .int (iI ((a : Int)))), (2, .int (iI ((b1 : Int)))), (3, .int (iI ((sB za : Int)))), (4, .int (iI ((sq : Int))))]) hx hb d_M_divide_94 hl (by decide) rfl (fun ls hl => ?_)
        refine lv_aload_n hx hb d_M_divide_96 rfl (lv_at hl 2 rfl) ?_
        refine wz_bipush (n := 36) hx hb d_M_divide_97 (by decide) ?_
        refine lv_iload_n hx hb d_M_divide_99 rfl (lv_at hl 3 rfl) ?_
        refine lv_iload hx hb d_M_divide_100 (lv_at hl 1 rfl) ?_
        refine pw_callv hw (va_runV (As := [.int (iI (36)), .int (iI ((a : Int))), .int (iI (((d0 : Nat) : Int)))]) (rest := []) ⟨hx, hb, hml, hown, hq⟩ (c_M_scale l D ty ad M F H.size hM co ln wr hO P S G ⟨h99, h100, h101⟩ 36 a na d0 za.natAbs (by omega) ha (by omega) hSa (by omega) hDa hva hd0) (cwV 3 hq (gV ml_M_59 im_M_scale se_M_scale in_M m_M_scale) rfl rfl rfl (by decide +kernel) ⟨Nat.le_of_ble_eq_true rfl, Nat.le_of_ble_eq_true rfl⟩) (pw_preV hw (by omega) hO rfl) rfl rfl hl.1 rfl (lv_room (Nat.le_of_ble_eq_true rfl)) d_M_divide_102 ⟨Nat.le_of_ble_eq_true rfl, Nat.le_of_ble_eq_true rfl⟩) (fun F102 H locs q102 hw => ?_)
        obtain ⟨P1, S1, G1, ⟨k99, k100, k101⟩, hM36, hS1, hP1, hf1⟩ := q102
        have hO_at_102 : F102 (98) = .inr (6, [.int (iI (co)), .ref (ad (99)), .ref (ad (100)), .ref (ad (101)), .ref (ad (102)), .int (iI (ln)), .int (iI (wr)), .ref (ad (103))]) := (hf1 (98) (by omega) (by omega) (by omega)).trans hO
        refine lv_aload_n hx hb d_M_divide_105 rfl (lv_at hl 2 rfl) ?_
        refine wz_bipush (n := 38) hx hb d_M_divide_106 (by decide) ?_
        refine lv_iload_n hx hb d_M_divide_108 rfl (lv_at hl 4 rfl) ?_
        refine lv_iload hx hb d_M_divide_109 (lv_at hl 1 rfl) ?_
        refine pw_callv hw (va_runV (As := [.int (iI (38)), .int (iI ((b1 : Int))), .int (iI (((d0 : Nat) : Int)))]) (rest := []) ⟨hx, hb, hml, hown, hq⟩ (c_M_scale l D ty ad M F102 H.size hM co ln wr hO_at_102 P1 S1 G1 ⟨k99, k100, k101⟩ 38 b1 nb d0 zb.natAbs (by omega) hb1 (by omega) ((hS1 b1 (by omega)).1.trans hSb) (by omega) (hDb.row (fun i hi => hP1 _ (by omega))) ((bvP_congr (fun i hi => hP1 _ (by omega))).trans hvb) hd0) (cwV 3 hq (gV ml_M_59 im_M_scale se_M_scale in_M m_M_scale) rfl rfl rfl (by decide +kernel) ⟨Nat.le_of_ble_eq_true rfl, Nat.le_of_ble_eq_true rfl⟩) (pw_preV hw (by omega) hO_at_102 rfl) rfl rfl hl.1 rfl (lv_room (Nat.le_of_ble_eq_true rfl)) d_M_divide_111 ⟨Nat.le_of_ble_eq_true rfl, Nat.le_of_ble_eq_true rfl⟩) (fun F111 H locs q111 hw => ?_)
        obtain ⟨P2, S2, G2, ⟨j99, j100, j101⟩, ⟨n, hS38, hn3, hD38, ht38, hv38⟩, hS2, hP2, hf2⟩ := q111
        obtain ⟨nr, hS36, hr3, hD36, ht36, hv36⟩ := hM36.cp (hS2 36 (by omega)).1 (fun i hi => hP2 _ (by omega))
        have hvaN : za.natAbs < 65536 ^ na := by rw [← hva]; exact bvP_lt hDa
        have hmm : za.natAbs * d0 < 65536 ^ (na + 1) := by rw [Nat.pow_succ]; exact Nat.mul_lt_mul'' hvaN hd0.2
        have hmv : zb.natAbs * d0 ≤ za.natAbs * d0 := Nat.mul_le_mul_right _ hge
        have hv0 : 0 < zb.natAbs * d0 := Nat.mul_pos (by omega) (by omega)
        have hnr : nr ≤ na + 1 := n_le ht36 (by rw [hv36]; exact hmm)
        have hnn : n ≤ na + 1 := n_le ht38 (by rw [hv38]; omega)
        have hn1 : 1 ≤ n := Nat.pos_of_ne_zero (fun h9 => by rw [h9, bvP_0] at hv38; omega)
        have hl38 : dl P2 (300 * 38 + (n - 1)) < 65536 := hD38 (n - 1) (by omega)
        obtain ⟨lead, hlead⟩ : ∃ lead, lead = dl P2 (300 * 38 + (n - 1)) := ⟨_, rfl⟩
        have hlead0 : 0 < lead := by have := ht38.resolve_left (by omega); omega
        have hvbN : 65536 ^ n ≤ zb.natAbs * d0 * 65536 := by
          obtain ⟨j9, rfl⟩ : ∃ j9, n = j9 + 1 := ⟨n - 1, by omega⟩
          rw [← hv38, Nat.pow_succ]
          exact Nat.mul_le_mul_right _ (bv_top (d := fun i => dl P2 (300 * 38 + i)) (ht38.resolve_left (by omega)))
        have hvlt : zb.natAbs * d0 < 65536 ^ n := by rw [← hv38]; exact bvP_lt hD38
        obtain ⟨tp, htp⟩ : ∃ tp, tp + n = na + 1 := ⟨na + 1 - n, by omega⟩
        have hO_at_111 : F111 (98) = .inr (6, [.int (iI (co)), .ref (ad (99)), .ref (ad (100)), .ref (ad (101)), .ref (ad (102)), .int (iI (ln)), .int (iI (wr)), .ref (ad (103))]) := (hf2 (98) (by omega) (by omega) (by omega)).trans hO_at_102
        refine lv_aload_n hx hb d_M_divide_114 rfl (lv_at hl 2 rfl) ?_
        refine pw_get (ci := 6) (C := R_M) (T := T_M) (N := 8) hx hb hq i_M hown hw (by omega) hO_at_111 rfl 2 (by decide) (hq _ fl_M_13) (fun _ h9 => h9) rfl d_M_divide_115 ?_
        refine wz_bipush (n := 38) hx hb d_M_divide_118 (by decide) ?_
        refine pw_iald (k := 38) hx hb hw 0 (by omega) j100 rfl (iI_in (by omega) (by omega) (by omega)) ((iI_cl (by omega) (by omega)).trans (by omega)) d_M_divide_120 ?_
        refine lv_topi (fun x120 ex120 => ?_)
        obtain rfl : x120 = iI ((n : Int)) := ex120.trans (hS38)
        refine lv_istore (lv' := [(7, .int (iI ((n : Int)))), (6, .int (iI ((na : Int)))), (5, .int (iI (((d0 : Nat) : Int)))), (0, .ref (ad (98))), (1, .int (iI ((a : Int)))), (2, .int (iI ((b1 : Int)))), (3, .int (iI ((sB za : Int)))), (4, .int (iI ((sq : Int))))]) hx hb d_M_divide_121 hl (by decide) rfl (fun ls hl => ?_)
        refine lv_aload_n hx hb d_M_divide_123 rfl (lv_at hl 3 rfl) ?_
        refine pw_get (ci := 6) (C := R_M) (T := T_M) (N := 8) hx hb hq i_M hown hw (by omega) hO_at_111 rfl 2 (by decide) (hq _ fl_M_13) (fun _ h9 => h9) rfl d_M_divide_124 ?_
        refine wz_bipush (n := 36) hx hb d_M_divide_127 (by decide) ?_
        refine pw_iald (k := 36) hx hb hw 0 (by omega) j100 rfl (iI_in (by omega) (by omega) (by omega)) ((iI_cl (by omega) (by omega)).trans (by omega)) d_M_divide_129 ?_
        refine lv_topi (fun x129 ex129 => ?_)
        obtain rfl : x129 = iI ((nr : Int)) := ex129.trans (hS36)
        refine lv_istore (lv' := [(8, .int (iI ((nr : Int)))), (7, .int (iI ((n : Int)))), (6, .int (iI ((na : Int)))), (5, .int (iI (((d0 : Nat) : Int)))), (0, .ref (ad (98))), (1, .int (iI ((a : Int)))), (2, .int (iI ((b1 : Int)))), (3, .int (iI ((sB za : Int)))), (4, .int (iI ((sq : Int))))]) hx hb d_M_divide_130 hl (by decide) rfl (fun ls hl => ?_)
        have K132 : ∀ (fuel : Nat) (k : Nat) (P9 : Nat → Int32) (F132 : Nat → va_E) (H : Heap) (locs : List Loc) (ls : Array Slot), na + 2 - k < fuel → (nr ≤ k ∧ k ≤ na + 2) → (∀ i, nr ≤ i → i < k → P9 (10800 + i) = iI 0) → (∀ j, j < 10800 + nr ∨ 10800 + k ≤ j → P9 j = P2 j) → (frM F F132) → F132 (98) = .inr (6, [.int (iI (co)), .ref (ad (99)), .ref (ad (100)), .ref (ad (101)), .ref (ad (102)), .int (iI (ln)), .int (iI (wr)), .ref (ad (103))]) → F132 (99) = .inl (ty 0, 12900, .inl (P9)) → F132 (100) = .inl (ty 0, 43, .inl (S2)) → F132 (101) = .inl (ty 4, 43, .inl (G2)) → pw D classes (tysL ty) ad M F132 (pA ad M s.heap.size) s H locs → lv_has ls 15 [(0, .ref (ad (98))), (1, .int (iI ((a : Int)))), (2, .int (iI ((b1 : Int)))), (3, .int (iI ((sB za : Int)))), (4, .int (iI ((sq : Int)))), (5, .int (iI ((d0 : Int)))), (6, .int (iI ((na : Int)))), (7, .int (iI ((n : Int)))), (8, .int (iI ((k : Int))))] → W p l e ({ frames := 2, cells := 0, slots := 0, locals := 50 } : Room) s m ([.ref (ad (98)), .int (iI ((a : Int))), .int (iI ((b1 : Int)))]).toArray below meth c H locs 0 0 Q (F0 m 132 ls []) := by
          intro fuel
          induction fuel with
          | zero => intro k P9 F132 H locs ls hfuel hk hz hPo hfr hO g99 g100 g101 hw hl; exact absurd hfuel (Nat.not_lt_zero _)
          | succ fuel ih132 =>
            intro k P9 F132 H locs ls hfuel hk hz hPo hfr hO g99 g100 g101 hw hl
            refine lv_iload hx hb d_M_divide_132 (lv_at hl 8 rfl) ?_
            refine lv_iload hx hb d_M_divide_134 (lv_at hl 6 rfl) ?_
            refine wz_iconst (n := 1) hx hb d_M_divide_136 ?_
            refine wz_iadd hx hb d_M_divide_137 rfl ?_
            refine wz_icmp_gt (tgt := 159) hx hb d_M_divide_138 (by decide) (by omega) (by omega) (by omega) (by omega) (fun c138 => ?_) (fun c138 => ?_)
            · have hk2 : k = na + 2 := by omega
              subst hk2
              have hDg9 : Dg P9 36 (na + 2) := fun i hi => by
                by_cases h9 : i < nr
                · rw [dl_congr (hPo (300 * 36 + i) (by omega))]; exact hD36 i h9
                · rw [dl_of (n := 0) (by decide) (hz i (by omega) (by omega))]; decide
              have hv9 : bvP P9 36 (na + 2) = za.natAbs * d0 := by
                rw [← hv36]
                refine (bv_trim (k := nr) (by omega) (fun i h1 h2 => dl_of (n := 0) (by decide) (hz i h1 (by omega)))).trans ?_
                exact bvP_congr (P := P2) (P' := P9) (a := 36) (a' := 36) (n := nr) (fun i hi => hPo _ (by omega))
              refine lv_iload hx hb d_M_divide_159 (lv_at hl 6 rfl) ?_
              refine wz_iconst (n := 1) hx hb d_M_divide_161 ?_
              refine wz_iadd hx hb d_M_divide_162 rfl ?_
              refine lv_iload hx hb d_M_divide_163 (lv_at hl 7 rfl) ?_
              refine wz_isub (z := (tp : Int)) hx hb d_M_divide_165 (by omega) ?_
              refine lv_istore (lv' := [(8, .int (iI ((tp : Int)))), (0, .ref (ad (98))), (1, .int (iI ((a : Int)))), (2, .int (iI ((b1 : Int)))), (3, .int (iI ((sB za : Int)))), (4, .int (iI ((sq : Int)))), (5, .int (iI ((d0 : Int)))), (6, .int (iI ((na : Int)))), (7, .int (iI ((n : Int))))]) hx hb d_M_divide_166 hl (by decide) rfl (fun ls hl => ?_)
              refine lv_aload_n hx hb d_M_divide_168 rfl (lv_at hl 1 rfl) ?_
              refine pw_get (ci := 6) (C := R_M) (T := T_M) (N := 8) hx hb hq i_M hown hw (by omega) hO rfl 1 (by decide) (hq _ fl_M_7) (fun _ h9 => h9) rfl d_M_divide_169 ?_
              refine wz_sipush (n := 11400) hx hb d_M_divide_172 (by decide) ?_
              refine lv_iload hx hb d_M_divide_175 (lv_at hl 8 rfl) ?_
              refine wz_iadd hx hb d_M_divide_177 rfl ?_
              refine wz_iconst (n := 1) hx hb d_M_divide_178 ?_
              refine wz_isub hx hb d_M_divide_179 rfl ?_
              refine pw_iald (k := 300 * 38 + (n - 1)) hx hb hw 0 (by omega) g99 rfl (iI_in (by omega) (by omega) (by omega)) ((iI_cl (by omega) (by omega)).trans (by omega)) d_M_divide_180 ?_
              refine lv_topi (fun x180 ex180 => ?_)
              obtain rfl : x180 = iI ((lead : Int)) := ex180.trans (by rw [hPo _ (by omega), hlead]; exact hD38.get (by omega))
              refine wz_i2l hx hb d_M_divide_181 (by omega) (by omega) ?_
              refine lv_lstore (lv' := [(9, .long (iL ((lead : Int)))), (8, .int (iI ((tp : Int)))), (0, .ref (ad (98))), (1, .int (iI ((a : Int)))), (2, .int (iI ((b1 : Int)))), (3, .int (iI ((sB za : Int)))), (4, .int (iI ((sq : Int)))), (5, .int (iI ((d0 : Int)))), (6, .int (iI ((na : Int)))), (7, .int (iI ((n : Int))))]) hx hb d_M_divide_182 hl (by decide) rfl (fun ls hl => ?_)
              refine lv_iload hx hb d_M_divide_184 (lv_at hl 1 rfl) ?_
              rw [show (tp : Int) = ((tp + 1 : Nat) : Int) - 1 by omega]
              refine lv_istore (lv' := [(11, .int (iI (((tp + 1 : Nat) : Int) - 1))), (9, .long (iL ((lead : Int)))), (8, .int (iI ((tp : Int)))), (0, .ref (ad (98))), (1, .int (iI ((a : Int)))), (2, .int (iI ((b1 : Int)))), (3, .int (iI ((sB za : Int)))), (4, .int (iI ((sq : Int)))), (5, .int (iI ((d0 : Int)))), (6, .int (iI ((na : Int)))), (7, .int (iI ((n : Int))))]) hx hb d_M_divide_186 hl (by decide) rfl (fun ls hl => ?_)
              have K188 : ∀ (fuel : Nat) (kk : Nat) (P8 : Nat → Int32) (F188 : Nat → va_E) (H : Heap) (locs : List Loc) (ls : Array Slot), kk < fuel → (kk ≤ tp + 1) → (Dg P8 36 (na + 2)) → (bvP P8 36 (kk + n) + (zb.natAbs * d0) * 65536 ^ kk * qq P8 kk (tp + 1 - kk) = za.natAbs * d0) → (bvP P8 36 (kk + n) < (zb.natAbs * d0) * 65536 ^ kk) → (∀ t, kk ≤ t → t ≤ tp → dl P8 (11100 + t) < 65536) → (∀ j, 11400 ≤ j → P8 j = P2 j) → (∀ j, j < 10800 → P8 j = P j) → (frM F F188) → F188 (98) = .inr (6, [.int (iI (co)), .ref (ad (99)), .ref (ad (100)), .ref (ad (101)), .ref (ad (102)), .int (iI (ln)), .int (iI (wr)), .ref (ad (103))]) → F188 (99) = .inl (ty 0, 12900, .inl (P8)) → F188 (100) = .inl (ty 0, 43, .inl (S2)) → F188 (101) = .inl (ty 4, 43, .inl (G2)) → pw D classes (tysL ty) ad M F188 (pA ad M s.heap.size) s H locs → lv_has ls 15 [(0, .ref (ad (98))), (1, .int (iI ((a : Int)))), (2, .int (iI ((b1 : Int)))), (3, .int (iI ((sB za : Int)))), (4, .int (iI ((sq : Int)))), (5, .int (iI ((d0 : Int)))), (6, .int (iI ((na : Int)))), (7, .int (iI ((n : Int)))), (8, .int (iI ((tp : Int)))), (9, .long (iL ((lead : Int)))), (11, .int (iI ((kk : Int) - 1)))] → W p l e ({ frames := 2, cells := 0, slots := 0, locals := 50 } : Room) s m ([.ref (ad (98)), .int (iI ((a : Int))), .int (iI ((b1 : Int)))]).toArray below meth c H locs 0 0 Q (F0 m 188 ls []) := by
                intro fuel
                induction fuel with
                | zero => intro kk P8 F188 H locs ls hfuel hkk hDg8 hR hlt hDq hP38 hPo8 hfr hO g99 g100 g101 hw hl; exact absurd hfuel (Nat.not_lt_zero _)
                | succ fuel ih188 =>
                  intro kk P8 F188 H locs ls hfuel hkk hDg8 hR hlt hDq hP38 hPo8 hfr hO g99 g100 g101 hw hl
                  refine lv_iload hx hb d_M_divide_188 (lv_at hl 10 rfl) ?_
                  refine wz_if_lt (tgt := 306) hx hb d_M_divide_190 (by decide) (by omega) (by omega) (fun c190 => ?_) (fun c190 => ?_)
                  · have hkk0 : kk = 0 := by omega
                    subst hkk0
                    have hend := dv_end (d := d0) (by omega) hzb0 rfl rfl (by rw [Nat.zero_add, Nat.pow_zero, Nat.mul_one, qq_0, Nat.sub_zero] at hR; exact hR) (by rw [Nat.zero_add, Nat.pow_zero, Nat.mul_one] at hlt; exact hlt)
                    refine lv_aload_n hx hb d_M_divide_306 rfl (lv_at hl 0 rfl) ?_
                    refine pw_get (ci := 6) (C := R_M) (T := T_M) (N := 8) hx hb hq i_M hown hw (by omega) hO rfl 2 (by decide) (hq _ fl_M_13) (fun _ h9 => h9) rfl d_M_divide_307 ?_
                    refine wz_bipush (n := 37) hx hb d_M_divide_310 (by decide) ?_
                    refine lv_iload hx hb d_M_divide_312 (lv_at hl 8 rfl) ?_
                    refine wz_iconst (n := 1) hx hb d_M_divide_314 ?_
                    refine wz_iadd (z := ((tp + 1 : Nat) : Int)) hx hb d_M_divide_315 (by omega) ?_
                    refine pw_iast (k := 37) hx hb hw 0 (by omega) g100 rfl (iI_in (by omega) (by omega) (by omega)) ((iI_cl (by omega) (by omega)).trans (by omega)) d_M_divide_316 (fun F316 H locs eF316 hw => ?_)
                    obtain ⟨S3, eS3⟩ : ∃ z9, z9 = upd S2 (37) (iI (((tp + 1 : Nat) : Int))) := ⟨_, rfl⟩
                    rw [← eS3] at eF316
                    have m316_100 : F316 (100) = .inl (ty 0, 43, .inl (S3)) := by rw [eF316]; exact va_up_self ..
                    have hO_at_316 : F316 (98) = .inr (6, [.int (iI (co)), .ref (ad (99)), .ref (ad (100)), .ref (ad (101)), .ref (ad (102)), .int (iI (ln)), .int (iI (wr)), .ref (ad (103))]) := (show F316 (98) = F188 (98) from by rw [eF316]; exact va_up_ne _ _ (by omega)).trans hO
                    have g99_at_316 : F316 (99) = .inl (ty 0, 12900, .inl (P8)) := (show F316 (99) = F188 (99) from by rw [eF316]; exact va_up_ne _ _ (by omega)).trans g99
                    have g101_at_316 : F316 (101) = .inl (ty 4, 43, .inl (G2)) := (show F316 (101) = F188 (101) from by rw [eF316]; exact va_up_ne _ _ (by omega)).trans g101
                    refine lv_aload_n hx hb d_M_divide_317 rfl (lv_at hl 0 rfl) ?_
                    refine pw_get (ci := 6) (C := R_M) (T := T_M) (N := 8) hx hb hq i_M hown hw (by omega) hO_at_316 rfl 3 (by decide) (hq _ fl_M_16) (fun _ h9 => h9) rfl d_M_divide_318 ?_
                    refine wz_bipush (n := 37) hx hb d_M_divide_321 (by decide) ?_
                    refine lv_iload hx hb d_M_divide_323 (lv_at hl 4 rfl) ?_
                    refine pw_zast (k := 37) hx hb hw 4 (by omega) g101_at_316 rfl (iI_in (by omega) (by omega) (by omega)) ((iI_cl (by omega) (by omega)).trans (by omega)) (y := iI (sq : Int)) (nar_01 hsq1) d_M_divide_325 (fun F325 H locs eF325 hw => ?_)
                    obtain ⟨G3, eG3⟩ : ∃ z9, z9 = upd G2 (37) (iI (sq : Int)) := ⟨_, rfl⟩
                    rw [← eG3] at eF325
                    have m325_101 : F325 (101) = .inl (ty 4, 43, .inl (G3)) := by rw [eF325]; exact va_up_self ..
                    have hO_at_325 : F325 (98) = .inr (6, [.int (iI (co)), .ref (ad (99)), .ref (ad (100)), .ref (ad (101)), .ref (ad (102)), .int (iI (ln)), .int (iI (wr)), .ref (ad (103))]) := (show F325 (98) = F316 (98) from by rw [eF325]; exact va_up_ne _ _ (by omega)).trans hO_at_316
                    have g99_at_325 : F325 (99) = .inl (ty 0, 12900, .inl (P8)) := (show F325 (99) = F316 (99) from by rw [eF325]; exact va_up_ne _ _ (by omega)).trans g99_at_316
                    have m316_100_at_325 : F325 (100) = .inl (ty 0, 43, .inl (S3)) := (show F325 (100) = F316 (100) from by rw [eF325]; exact va_up_ne _ _ (by omega)).trans m316_100
                    refine lv_aload_n hx hb d_M_divide_326 rfl (lv_at hl 0 rfl) ?_
                    refine wz_bipush (n := 37) hx hb d_M_divide_327 (by decide) ?_
                    refine pw_callv hw (va_runV (As := [.int (iI (37))]) (rest := []) ⟨hx, hb, hml, hown, hq⟩ (c_M_trim l D ty ad M F325 H.size hM co ln wr hO_at_325 P8 S3 G3 ⟨g99_at_325, m316_100_at_325, m325_101⟩ 37 (tp + 1) (by omega) (by rw [eS3, pk_us]) (by omega) (fun i hi => hDq i (by omega) (by omega))) (cwV 1 hq (gV ml_M_39 im_M_trim se_M_trim in_M m_M_trim) rfl rfl rfl (by decide +kernel) ⟨Nat.le_of_ble_eq_true rfl, Nat.le_of_ble_eq_true rfl⟩) (pw_preV hw (by omega) hO_at_325 rfl) rfl rfl hl.1 rfl (lv_room (Nat.le_of_ble_eq_true rfl)) d_M_divide_329 ⟨Nat.le_of_ble_eq_true rfl, Nat.le_of_ble_eq_true rfl⟩) (fun F329 H locs q329 hw => ?_)
                    obtain ⟨S4, G4, ⟨n99, n100, n101⟩, hMg4, hB4, ho4, hf4⟩ := q329
                    have hO_at_329 : F329 (98) = .inr (6, [.int (iI (co)), .ref (ad (99)), .ref (ad (100)), .ref (ad (101)), .ref (ad (102)), .int (iI (ln)), .int (iI (wr)), .ref (ad (103))]) := (hf4 (98) (by omega) (by omega) (by omega)).trans hO_at_325
                    rw [hend.1] at hMg4 hB4
                    refine wz_iconst (n := 0) hx hb d_M_divide_332 ?_
                    refine lv_istore (lv' := [(11, .int (iI (0))), (0, .ref (ad (98))), (1, .int (iI ((a : Int)))), (2, .int (iI ((b1 : Int)))), (3, .int (iI ((sB za : Int)))), (4, .int (iI ((sq : Int)))), (5, .int (iI ((d0 : Int)))), (6, .int (iI ((na : Int)))), (7, .int (iI ((n : Int)))), (8, .int (iI ((tp : Int)))), (9, .long (iL ((lead : Int))))]) hx hb d_M_divide_333 hl (by decide) rfl (fun ls hl => ?_)
                    refine lv_iload hx hb d_M_divide_335 (lv_at hl 8 rfl) ?_
                    refine wz_iconst (n := 1) hx hb d_M_divide_337 ?_
                    refine wz_isub hx hb d_M_divide_338 rfl ?_
                    refine lv_istore (lv' := [(12, .int (iI ((n : Int) - 1))), (11, .int (iI (0))), (0, .ref (ad (98))), (1, .int (iI ((a : Int)))), (2, .int (iI ((b1 : Int)))), (3, .int (iI ((sB za : Int)))), (4, .int (iI ((sq : Int)))), (5, .int (iI ((d0 : Int)))), (6, .int (iI ((na : Int)))), (7, .int (iI ((n : Int)))), (8, .int (iI ((tp : Int)))), (9, .long (iL ((lead : Int))))]) hx hb d_M_divide_339 hl (by decide) rfl (fun ls hl => ?_)
                    have K341 : ∀ (fuel : Nat) (kk cy : Nat) (P9 : Nat → Int32) (F341 : Nat → va_E) (H : Heap) (locs : List Loc) (ls : Array Slot), kk < fuel → (kk ≤ n) → (cy < d0) → (ww P8 kk (n - kk) = ww P9 kk (n - kk) * d0 + cy) → (∀ t, kk ≤ t → t < n → dl P9 (10800 + t) < 65536) → (∀ j, j < 10800 + kk ∨ 10800 + n ≤ j → P9 j = P8 j) → (frM F F341) → F341 (98) = .inr (6, [.int (iI (co)), .ref (ad (99)), .ref (ad (100)), .ref (ad (101)), .ref (ad (102)), .int (iI (ln)), .int (iI (wr)), .ref (ad (103))]) → F341 (99) = .inl (ty 0, 12900, .inl (P9)) → F341 (100) = .inl (ty 0, 43, .inl (S4)) → F341 (101) = .inl (ty 4, 43, .inl (G4)) → pw D classes (tysL ty) ad M F341 (pA ad M s.heap.size) s H locs → lv_has ls 15 [(0, .ref (ad (98))), (1, .int (iI ((a : Int)))), (2, .int (iI ((b1 : Int)))), (3, .int (iI ((sB za : Int)))), (4, .int (iI ((sq : Int)))), (5, .int (iI ((d0 : Int)))), (6, .int (iI ((na : Int)))), (7, .int (iI ((n : Int)))), (8, .int (iI ((tp : Int)))), (11, .int (iI ((cy : Int)))), (12, .int (iI ((kk : Int) - 1)))] → W p l e ({ frames := 2, cells := 0, slots := 0, locals := 50 } : Room) s m ([.ref (ad (98)), .int (iI ((a : Int))), .int (iI ((b1 : Int)))]).toArray below meth c H locs 0 0 Q (F0 m 341 ls []) := by
                      intro fuel
                      induction fuel with
                      | zero => intro kk cy P9 F341 H locs ls hfuel hkk hcy hU hDw9 hlo hfr9 hO g99 g100 g101 hw hl; exact absurd hfuel (Nat.not_lt_zero _)
                      | succ fuel ih341 =>
                        intro kk cy P9 F341 H locs ls hfuel hkk hcy hU hDw9 hlo hfr9 hO g99 g100 g101 hw hl
                        refine lv_iload hx hb d_M_divide_341 (lv_at hl 10 rfl) ?_
                        refine wz_if_lt (tgt := 401) hx hb d_M_divide_343 (by decide) (by omega) (by omega) (fun c343 => ?_) (fun c343 => ?_)
                        · have hkk0 : kk = 0 := by omega
                          subst hkk0
                          refine lv_aload_n hx hb d_M_divide_401 rfl (lv_at hl 0 rfl) ?_
                          refine pw_get (ci := 6) (C := R_M) (T := T_M) (N := 8) hx hb hq i_M hown hw (by omega) hO rfl 2 (by decide) (hq _ fl_M_13) (fun _ h9 => h9) rfl d_M_divide_402 ?_
                          refine wz_bipush (n := 36) hx hb d_M_divide_405 (by decide) ?_
                          refine lv_iload hx hb d_M_divide_407 (lv_at hl 7 rfl) ?_
                          refine pw_iast (k := 36) hx hb hw 0 (by omega) g100 rfl (iI_in (by omega) (by omega) (by omega)) ((iI_cl (by omega) (by omega)).trans (by omega)) d_M_divide_409 (fun F409 H locs eF409 hw => ?_)
                          obtain ⟨S5, eS5⟩ : ∃ z9, z9 = upd S4 (36) (iI ((n : Int))) := ⟨_, rfl⟩
                          rw [← eS5] at eF409
                          have m409_100 : F409 (100) = .inl (ty 0, 43, .inl (S5)) := by rw [eF409]; exact va_up_self ..
                          have hO_at_409 : F409 (98) = .inr (6, [.int (iI (co)), .ref (ad (99)), .ref (ad (100)), .ref (ad (101)), .ref (ad (102)), .int (iI (ln)), .int (iI (wr)), .ref (ad (103))]) := (show F409 (98) = F341 (98) from by rw [eF409]; exact va_up_ne _ _ (by omega)).trans hO
                          have g99_at_409 : F409 (99) = .inl (ty 0, 12900, .inl (P9)) := (show F409 (99) = F341 (99) from by rw [eF409]; exact va_up_ne _ _ (by omega)).trans g99
                          have g101_at_409 : F409 (101) = .inl (ty 4, 43, .inl (G4)) := (show F409 (101) = F341 (101) from by rw [eF409]; exact va_up_ne _ _ (by omega)).trans g101
                          refine lv_aload_n hx hb d_M_divide_410 rfl (lv_at hl 0 rfl) ?_
                          refine pw_get (ci := 6) (C := R_M) (T := T_M) (N := 8) hx hb hq i_M hown hw (by omega) hO_at_409 rfl 3 (by decide) (hq _ fl_M_16) (fun _ h9 => h9) rfl d_M_divide_411 ?_
                          refine wz_bipush (n := 36) hx hb d_M_divide_414 (by decide) ?_
                          refine lv_iload_n hx hb d_M_divide_416 rfl (lv_at hl 3 rfl) ?_
                          refine pw_zast (k := 36) hx hb hw 4 (by omega) g101_at_409 rfl (iI_in (by omega) (by omega) (by omega)) ((iI_cl (by omega) (by omega)).trans (by omega)) (y := iI (sB za : Int)) (nar_sB za) d_M_divide_417 (fun F417 H locs eF417 hw => ?_)
                          obtain ⟨G5, eG5⟩ : ∃ z9, z9 = upd G4 (36) (iI (sB za : Int)) := ⟨_, rfl⟩
                          rw [← eG5] at eF417
                          have m417_101 : F417 (101) = .inl (ty 4, 43, .inl (G5)) := by rw [eF417]; exact va_up_self ..
                          have hO_at_417 : F417 (98) = .inr (6, [.int (iI (co)), .ref (ad (99)), .ref (ad (100)), .ref (ad (101)), .ref (ad (102)), .int (iI (ln)), .int (iI (wr)), .ref (ad (103))]) := (show F417 (98) = F409 (98) from by rw [eF417]; exact va_up_ne _ _ (by omega)).trans hO_at_409
                          have g99_at_417 : F417 (99) = .inl (ty 0, 12900, .inl (P9)) := (show F417 (99) = F409 (99) from by rw [eF417]; exact va_up_ne _ _ (by omega)).trans g99_at_409
                          have m409_100_at_417 : F417 (100) = .inl (ty 0, 43, .inl (S5)) := (show F417 (100) = F409 (100) from by rw [eF417]; exact va_up_ne _ _ (by omega)).trans m409_100
                          refine lv_aload_n hx hb d_M_divide_418 rfl (lv_at hl 0 rfl) ?_
                          refine wz_bipush (n := 36) hx hb d_M_divide_419 (by decide) ?_
                          refine pw_callv hw (va_runV (As := [.int (iI (36))]) (rest := []) ⟨hx, hb, hml, hown, hq⟩ (c_M_trim l D ty ad M F417 H.size hM co ln wr hO_at_417 P9 S5 G5 ⟨g99_at_417, m409_100_at_417, m417_101⟩ 36 n (by omega) (by rw [eS5, pk_us]) (by omega) (fun i hi => hDw9 i (by omega) hi)) (cwV 1 hq (gV ml_M_39 im_M_trim se_M_trim in_M m_M_trim) rfl rfl rfl (by decide +kernel) ⟨Nat.le_of_ble_eq_true rfl, Nat.le_of_ble_eq_true rfl⟩) (pw_preV hw (by omega) hO_at_417 rfl) rfl rfl hl.1 rfl (lv_room (Nat.le_of_ble_eq_true rfl)) d_M_divide_421 ⟨Nat.le_of_ble_eq_true rfl, Nat.le_of_ble_eq_true rfl⟩) (fun F421 H locs q421 hw => ?_)
                          obtain ⟨S6, G6, hMA6, hMg6, hB6, ho6, hf6⟩ := q421
                          have hO_at_421 : F421 (98) = .inr (6, [.int (iI (co)), .ref (ad (99)), .ref (ad (100)), .ref (ad (101)), .ref (ad (102)), .int (iI (ln)), .int (iI (wr)), .ref (ad (103))]) := (hf6 (98) (by omega) (by omega) (by omega)).trans hO_at_417
                          rw [← hQ]
                          exact pw_vret hx hb hr hlocks hw (by
                            rw [ww_0, ww_0, Nat.sub_zero, hend.2] at hU
                            have hv9 : bvP P9 36 n = za.natAbs % zb.natAbs := us_end hU hcy
                            rw [hv9] at hMg6 hB6
                            have hrow : ∀ c, c ≠ 36 → c ≠ 37 → c ≠ 38 → S6 c = S c ∧ G6 c = G c := fun c9 h1 h2 h3 => by
                              refine ⟨(ho6 c9 h1).1.trans ?_, (ho6 c9 h1).2.trans ?_⟩
                              · rw [eS5, pk_un h1, (ho4 c9 h2).1, eS3, pk_un h2, (hS2 c9 h3).1, (hS1 c9 h1).1]
                              · rw [eG5, pk_un h1, (ho4 c9 h2).2, eG3, pk_un h2, (hS2 c9 h3).2, (hS1 c9 h1).2]
                            have hpar : ∀ c i, c < 43 → i < 300 → c ≠ 36 → c ≠ 37 → c ≠ 38 → P9 (300 * c + i) = P (300 * c + i) := fun c9 i9 h0 h1 h2 h3 h4 => by
                              rw [hlo _ (by omega)]
                              by_cases h9 : c9 < 36
                              · exact hPo8 _ (by omega)
                              · rw [hP38 _ (by omega), hP2 _ (by omega), hP1 _ (by omega)]
                            refine ⟨⟨P9, S6, G6, hMA6, ?_, ?_⟩, ⟨P9, S6, G6, hMA6, ?_, ?_⟩, kp_of hMA hMA6 (fun c9 h1 h2 => ⟨(hrow c9 (by omega) (by omega) (by omega)).1, (hrow c9 (by omega) (by omega) (by omega)).2, fun i9 h9 => hpar c9 i9 h1 h9 (by omega) (by omega) (by omega)⟩), fun y9 h1 h2 h3 => ((hf6 (y9) (by omega) (by omega) (by omega)).trans ((show F417 (y9) = F409 (y9) from by rw [eF417]; exact va_up_ne _ _ (by omega)).trans (show F409 (y9) = F341 (y9) from by rw [eF409]; exact va_up_ne _ _ (by omega)))).trans (hfr9 y9 h1 h2 h3)⟩
                            · rw [Int.natAbs_tdiv]
                              refine hMg4.cp ?_ (fun i9 h9 => hlo _ (by omega))
                              rw [(ho6 37 (by omega)).1, eS5, pk_un (by omega)]
                            · rw [(ho6 37 (by omega)).2, eG5, pk_un (by omega), hB4]
                              by_cases h9 : za.natAbs / zb.natAbs = 0
                              · rw [if_pos h9, show za.tdiv zb = 0 from Int.natAbs_eq_zero.mp (by rw [Int.natAbs_tdiv]; exact h9)]; rfl
                              · rw [if_neg h9, eG3, pk_us, ← td_q h9, ← hsq]; exact tg_01 hsq1
                            · rw [Int.natAbs_tmod]; exact hMg6
                            · rw [hB6]
                              by_cases h9 : za.natAbs % zb.natAbs = 0
                              · rw [if_pos h9, show za.tmod zb = 0 from Int.natAbs_eq_zero.mp (by rw [Int.natAbs_tmod]; exact h9)]; rfl
                              · rw [if_neg h9, eG5, pk_us, ← td_r h9]; exact tg_sB za) d_M_divide_424
                        · obtain ⟨k, rfl⟩ : ∃ k, kk = k + 1 := ⟨kk - 1, by omega⟩
                          rw [show ((k + 1 : Nat) : Int) - 1 = (k : Int) by omega] at hl
                          refine lv_iload hx hb d_M_divide_346 (lv_at hl 9 rfl) ?_
                          refine wz_i2l hx hb d_M_divide_348 (by omega) (by omega) ?_
                          refine lv_ldc2 (v := iL (65536)) hx hb hown (hq _ cj_M_37) d_M_divide_349 ?_
                          refine wz_lmul hx hb d_M_divide_352 rfl ?_
                          refine lv_aload_n hx hb d_M_divide_353 rfl (lv_at hl 0 rfl) ?_
                          refine pw_get (ci := 6) (C := R_M) (T := T_M) (N := 8) hx hb hq i_M hown hw (by omega) hO rfl 1 (by decide) (hq _ fl_M_7) (fun _ h9 => h9) rfl d_M_divide_354 ?_
                          refine wz_sipush (n := 10800) hx hb d_M_divide_357 (by decide) ?_
                          refine lv_iload hx hb d_M_divide_360 (lv_at hl 10 rfl) ?_
                          refine wz_iadd hx hb d_M_divide_362 rfl ?_
                          have hdk : dl P8 (10800 + k) < 65536 := hDg8 k (by omega)
                          obtain ⟨x0, hx0⟩ : ∃ x0, x0 = cy * 65536 + dl P8 (10800 + k) := ⟨_, rfl⟩
                          have hxq := us_dig hcy hdk hx0
                          refine pw_iald (k := 10800 + k) hx hb hw 0 (by omega) g99 rfl (iI_in (by omega) (by omega) (by omega)) ((iI_cl (by omega) (by omega)).trans (by omega)) d_M_divide_363 ?_
                          refine lv_topi (fun x363 ex363 => ?_)
                          obtain rfl : x363 = iI ((dl P8 (10800 + k) : Int)) := ex363.trans ((hlo _ (by omega)).trans (dl_get (by omega)))
                          refine wz_i2l hx hb d_M_divide_364 (by omega) (by omega) ?_
                          refine wz_ladd (z := (x0 : Int)) hx hb d_M_divide_365 (by omega) ?_
                          refine lv_lstore (lv' := [(13, .long (iL ((x0 : Int)))), (0, .ref (ad (98))), (1, .int (iI ((a : Int)))), (2, .int (iI ((b1 : Int)))), (3, .int (iI ((sB za : Int)))), (4, .int (iI ((sq : Int)))), (5, .int (iI ((d0 : Int)))), (6, .int (iI ((na : Int)))), (7, .int (iI ((n : Int)))), (8, .int (iI ((tp : Int)))), (11, .int (iI ((cy : Int)))), (12, .int (iI ((k : Int))))]) hx hb d_M_divide_366 hl (by decide) rfl (fun ls hl => ?_)
                          refine lv_aload_n hx hb d_M_divide_368 rfl (lv_at hl 1 rfl) ?_
                          refine pw_get (ci := 6) (C := R_M) (T := T_M) (N := 8) hx hb hq i_M hown hw (by omega) hO rfl 1 (by decide) (hq _ fl_M_7) (fun _ h9 => h9) rfl d_M_divide_369 ?_
                          refine wz_sipush (n := 10800) hx hb d_M_divide_372 (by decide) ?_
                          refine lv_iload hx hb d_M_divide_375 (lv_at hl 11 rfl) ?_
                          refine wz_iadd hx hb d_M_divide_377 rfl ?_
                          refine lv_lload hx hb d_M_divide_378 (lv_at hl 0 rfl) ?_
                          refine lv_iload hx hb d_M_divide_380 (lv_at hl 6 rfl) ?_
                          refine wz_i2l hx hb d_M_divide_382 (by omega) (by omega) ?_
                          refine wz_ldiv (a := x0) (b := d0) (z := x0 / d0) hx hb d_M_divide_383 (by omega) (by omega) (by omega) (rfl) ?_
                          refine wz_l2i hx hb d_M_divide_384 ?_
                          refine pw_iast (k := 10800 + k) hx hb hw 0 (by omega) g99 rfl (iI_in (by omega) (by omega) (by omega)) ((iI_cl (by omega) (by omega)).trans (by omega)) d_M_divide_385 (fun F385 H locs eF385 hw => ?_)
                          have m385_99 : F385 (99) = .inl (ty 0, 12900, .inl (upd P9 (10800 + k) (iI (((x0 / d0 : Nat) : Int))))) := by rw [eF385]; exact va_up_self ..
                          have hO_at_385 : F385 (98) = .inr (6, [.int (iI (co)), .ref (ad (99)), .ref (ad (100)), .ref (ad (101)), .ref (ad (102)), .int (iI (ln)), .int (iI (wr)), .ref (ad (103))]) := (show F385 (98) = F341 (98) from by rw [eF385]; exact va_up_ne _ _ (by omega)).trans hO
                          have g100_at_385 : F385 (100) = .inl (ty 0, 43, .inl (S4)) := (show F385 (100) = F341 (100) from by rw [eF385]; exact va_up_ne _ _ (by omega)).trans g100
                          have g101_at_385 : F385 (101) = .inl (ty 4, 43, .inl (G4)) := (show F385 (101) = F341 (101) from by rw [eF385]; exact va_up_ne _ _ (by omega)).trans g101
                          refine lv_lload hx hb d_M_divide_386 (lv_at hl 0 rfl) ?_
                          refine lv_iload hx hb d_M_divide_388 (lv_at hl 6 rfl) ?_
                          refine wz_i2l hx hb d_M_divide_390 (by omega) (by omega) ?_
                          refine wz_lrem (a := x0) (b := d0) (z := x0 % d0) hx hb d_M_divide_391 (by omega) (by omega) (by omega) (rfl) ?_
                          refine wz_l2i hx hb d_M_divide_392 ?_
                          refine lv_istore (lv' := [(11, .int (iI (((x0 % d0 : Nat) : Int)))), (13, .long (iL ((x0 : Int)))), (0, .ref (ad (98))), (1, .int (iI ((a : Int)))), (2, .int (iI ((b1 : Int)))), (3, .int (iI ((sB za : Int)))), (4, .int (iI ((sq : Int)))), (5, .int (iI ((d0 : Int)))), (6, .int (iI ((na : Int)))), (7, .int (iI ((n : Int)))), (8, .int (iI ((tp : Int)))), (12, .int (iI ((k : Int))))]) hx hb d_M_divide_393 hl (by decide) rfl (fun ls hl => ?_)
                          refine wz_iinc (z := (k : Int) - 1) (lv' := [(12, .int (iI ((k : Int) - 1))), (11, .int (iI (((x0 % d0 : Nat) : Int)))), (13, .long (iL ((x0 : Int)))), (0, .ref (ad (98))), (1, .int (iI ((a : Int)))), (2, .int (iI ((b1 : Int)))), (3, .int (iI ((sB za : Int)))), (4, .int (iI ((sq : Int)))), (5, .int (iI ((d0 : Int)))), (6, .int (iI ((na : Int)))), (7, .int (iI ((n : Int)))), (8, .int (iI ((tp : Int))))]) hx hb d_M_divide_395 hl (k := 11) rfl (by omega) (by decide) rfl (fun ls hl => ?_)
                          refine lv_goto (tgt := 341) hx hb d_M_divide_398 (by decide) ?_
                          exact ih341 k (x0 % d0) (upd P9 (10800 + k) (iI ((x0 / d0 : Nat) : Int))) _ _ _ ls (by omega) (by omega) (Nat.mod_lt _ (by omega)) (us_loop hkk hU hx0 hxq) (fun t h1 h2 => by
                            by_cases h9 : t = k
                            · rw [h9, dl_us (by omega)]; exact hxq
                            · rw [dl_un (by omega)]; exact hDw9 t (by omega) h2) (fun j hj => by rw [pk_un (by omega)]; exact hlo j (by omega)) (fun y9 h1 h2 h3 => (show F385 (y9) = F341 (y9) from by rw [eF385]; exact va_up_ne _ _ (by omega)).trans (hfr9 y9 h1 h2 h3)) hO_at_385 m385_99 g100_at_385 g101_at_385 hw (lv_sub hl [3, 4, 5, 6, 7, 8, 9, 10, 11, 1, 0] rfl)
                    exact K341 _ n 0 P8 _ _ _ ls (Nat.lt_succ_self _) (Nat.le_refl _) (by omega) (by simp [ww, bv_0]) (fun t h1 h2 => absurd h1 (by omega)) (fun j hj => rfl) (fun y9 h1 h2 h3 => ((hf4 (y9) (by omega) (by omega) (by omega)).trans ((show F325 (y9) = F316 (y9) from by rw [eF325]; exact va_up_ne _ _ (by omega)).trans (show F316 (y9) = F188 (y9) from by rw [eF316]; exact va_up_ne _ _ (by omega)))).trans (hfr y9 h1 h2 h3)) hO_at_329 n99 n100 n101 hw (lv_sub hl [2, 3, 4, 5, 6, 7, 8, 9, 10, 1, 0] rfl)
                  · obtain ⟨k, rfl⟩ : ∃ k, kk = k + 1 := ⟨kk - 1, by omega⟩
                    rw [show ((k + 1 : Nat) : Int) - 1 = (k : Int) by omega] at hl
                    refine wz_sipush (n := 10800) hx hb d_M_divide_193 (by decide) ?_
                    refine lv_iload hx hb d_M_divide_196 (lv_at hl 10 rfl) ?_
                    refine wz_iadd hx hb d_M_divide_198 rfl ?_
                    refine lv_iload hx hb d_M_divide_199 (lv_at hl 7 rfl) ?_
                    refine wz_iadd hx hb d_M_divide_201 rfl ?_
                    refine lv_istore (lv' := [(12, .int (iI ((10800 + (k : Int)) + (n : Int)))), (0, .ref (ad (98))), (1, .int (iI ((a : Int)))), (2, .int (iI ((b1 : Int)))), (3, .int (iI ((sB za : Int)))), (4, .int (iI ((sq : Int)))), (5, .int (iI ((d0 : Int)))), (6, .int (iI ((na : Int)))), (7, .int (iI ((n : Int)))), (8, .int (iI ((tp : Int)))), (9, .long (iL ((lead : Int)))), (11, .int (iI ((k : Int))))]) hx hb d_M_divide_202 hl (by decide) rfl (fun ls hl => ?_)
                    refine lv_aload_n hx hb d_M_divide_204 rfl (lv_at hl 1 rfl) ?_
                    refine pw_get (ci := 6) (C := R_M) (T := T_M) (N := 8) hx hb hq i_M hown hw (by omega) hO rfl 1 (by decide) (hq _ fl_M_7) (fun _ h9 => h9) rfl d_M_divide_205 ?_
                    refine lv_iload hx hb d_M_divide_208 (lv_at hl 0 rfl) ?_
                    have hDw : ∀ i, i ≤ n → dl P8 (10800 + k + i) < 65536 := fun i hi => hDg8.w (by omega)
                    have hw1 := hDw n (Nat.le_refl _)
                    have hw2 := hDw (n - 1) (by omega)
                    have hwin := dv_win hlt
                    have hD8 : Dg P8 38 n := hD38.row (fun i hi => hP38 _ (by omega))
                    have hv8 : bvP P8 38 n = zb.natAbs * d0 := (bvP_congr (fun i hi => hP38 _ (by omega))).trans hv38
                    obtain ⟨hi0, hhi0⟩ : ∃ hi0, hi0 = dl P8 (10800 + k + n) * 65536 + dl P8 (10800 + k + (n - 1)) := ⟨_, rfl⟩
                    obtain ⟨of0, hof0⟩ : ∃ of0, of0 = min (hi0 / lead) 65535 := ⟨_, rfl⟩
                    have hest := dv_guess hn1 hv38.symm hlead hlead0 hhi0 hDw hof0 hwin
                    refine pw_iald (k := 10800 + k + n) hx hb hw 0 (by omega) g99 rfl (iI_in (by omega) (by omega) (by omega)) ((iI_cl (by omega) (by omega)).trans (by omega)) d_M_divide_210 ?_
                    refine lv_topi (fun x210 ex210 => ?_)
                    obtain rfl : x210 = iI ((dl P8 (10800 + k + n) : Int)) := ex210.trans (dl_get (by omega))
                    refine wz_i2l hx hb d_M_divide_211 (by omega) (by omega) ?_
                    refine lv_ldc2 (v := iL (65536)) hx hb hown (hq _ cj_M_37) d_M_divide_212 ?_
                    refine wz_lmul hx hb d_M_divide_215 rfl ?_
                    refine lv_aload_n hx hb d_M_divide_216 rfl (lv_at hl 1 rfl) ?_
                    refine pw_get (ci := 6) (C := R_M) (T := T_M) (N := 8) hx hb hq i_M hown hw (by omega) hO rfl 1 (by decide) (hq _ fl_M_7) (fun _ h9 => h9) rfl d_M_divide_217 ?_
                    refine lv_iload hx hb d_M_divide_220 (lv_at hl 0 rfl) ?_
                    refine wz_iconst (n := 1) hx hb d_M_divide_222 ?_
                    refine wz_isub hx hb d_M_divide_223 rfl ?_
                    refine pw_iald (k := 10800 + k + (n - 1)) hx hb hw 0 (by omega) g99 rfl (iI_in (by omega) (by omega) (by omega)) ((iI_cl (by omega) (by omega)).trans (by omega)) d_M_divide_224 ?_
                    refine lv_topi (fun x224 ex224 => ?_)
                    obtain rfl : x224 = iI ((dl P8 (10800 + k + (n - 1)) : Int)) := ex224.trans (dl_get (by omega))
                    refine wz_i2l hx hb d_M_divide_225 (by omega) (by omega) ?_
                    refine wz_ladd (z := (hi0 : Int)) hx hb d_M_divide_226 (by omega) ?_
                    refine lv_lload hx hb d_M_divide_227 (lv_at hl 10 rfl) ?_
                    refine wz_ldiv (a := hi0) (b := lead) (z := hi0 / lead) hx hb d_M_divide_229 (by omega) (by omega) (by omega) (rfl) ?_
                    refine lv_lstore (lv' := [(13, .long (iL (((hi0 / lead : Nat) : Int)))), (12, .int (iI ((10800 + (k : Int)) + (n : Int)))), (0, .ref (ad (98))), (1, .int (iI ((a : Int)))), (2, .int (iI ((b1 : Int)))), (3, .int (iI ((sB za : Int)))), (4, .int (iI ((sq : Int)))), (5, .int (iI ((d0 : Int)))), (6, .int (iI ((na : Int)))), (7, .int (iI ((n : Int)))), (8, .int (iI ((tp : Int)))), (9, .long (iL ((lead : Int)))), (11, .int (iI ((k : Int))))]) hx hb d_M_divide_230 hl (by decide) rfl (fun ls hl => ?_)
                    have K251 : ∀  (ls : Array Slot), lv_has ls 15 [(0, .ref (ad (98))), (1, .int (iI ((a : Int)))), (2, .int (iI ((b1 : Int)))), (3, .int (iI ((sB za : Int)))), (4, .int (iI ((sq : Int)))), (5, .int (iI ((d0 : Int)))), (6, .int (iI ((na : Int)))), (7, .int (iI ((n : Int)))), (8, .int (iI ((tp : Int)))), (9, .long (iL ((lead : Int)))), (11, .int (iI ((k : Int)))), (13, .long (iL ((of0 : Int))))] → W p l e ({ frames := 2, cells := 0, slots := 0, locals := 50 } : Room) s m ([.ref (ad (98)), .int (iI ((a : Int))), .int (iI ((b1 : Int)))]).toArray below meth c H locs 0 0 Q (F0 m 251 ls []) := by
                      intro ls hl
                      have K286 : ∀ (q0 : Nat) (P5 : Nat → Int32) (F286 : Nat → va_E) (H : Heap) (locs : List Loc) (ls : Array Slot), (ww P5 k (n + 1) + q0 * (zb.natAbs * d0) = ww P8 k (n + 1)) → (ww P5 k (n + 1) < (zb.natAbs * d0)) → (q0 < 65536) → (∀ i, i ≤ n → dl P5 (10800 + k + i) < 65536) → (∀ j, j < 10800 + k ∨ 10800 + k + n < j → P5 j = P8 j) → (frM F F286) → F286 (98) = .inr (6, [.int (iI (co)), .ref (ad (99)), .ref (ad (100)), .ref (ad (101)), .ref (ad (102)), .int (iI (ln)), .int (iI (wr)), .ref (ad (103))]) → F286 (99) = .inl (ty 0, 12900, .inl (P5)) → F286 (100) = .inl (ty 0, 43, .inl (S2)) → F286 (101) = .inl (ty 4, 43, .inl (G2)) → pw D classes (tysL ty) ad M F286 (pA ad M s.heap.size) s H locs → lv_has ls 15 [(0, .ref (ad (98))), (1, .int (iI ((a : Int)))), (2, .int (iI ((b1 : Int)))), (3, .int (iI ((sB za : Int)))), (4, .int (iI ((sq : Int)))), (5, .int (iI ((d0 : Int)))), (6, .int (iI ((na : Int)))), (7, .int (iI ((n : Int)))), (8, .int (iI ((tp : Int)))), (9, .long (iL ((lead : Int)))), (11, .int (iI ((k : Int)))), (13, .long (iL ((q0 : Int))))] → W p l e ({ frames := 2, cells := 0, slots := 0, locals := 50 } : Room) s m ([.ref (ad (98)), .int (iI ((a : Int))), .int (iI ((b1 : Int)))]).toArray below meth c H locs 0 0 Q (F0 m 286 ls []) := by
                        intro q0 P5 F286 H locs ls hq5 hq6 hqB hDw5 hP5 hfr hO g99 g100 g101 hw hl
                        refine lv_aload_n hx hb d_M_divide_286 rfl (lv_at hl 0 rfl) ?_
                        refine pw_get (ci := 6) (C := R_M) (T := T_M) (N := 8) hx hb hq i_M hown hw (by omega) hO rfl 1 (by decide) (hq _ fl_M_7) (fun _ h9 => h9) rfl d_M_divide_287 ?_
                        refine wz_sipush (n := 11100) hx hb d_M_divide_290 (by decide) ?_
                        refine lv_iload hx hb d_M_divide_293 (lv_at hl 10 rfl) ?_
                        refine wz_iadd hx hb d_M_divide_295 rfl ?_
                        refine lv_lload hx hb d_M_divide_296 (lv_at hl 11 rfl) ?_
                        refine wz_l2i hx hb d_M_divide_298 ?_
                        have hdl := dv_loop (by omega) (by omega) hR hq5 hq6 hvlt hqB hP5 (fun i hi => hDg8 i (by omega))
                        refine pw_iast (k := 11100 + k) hx hb hw 0 (by omega) g99 rfl (iI_in (by omega) (by omega) (by omega)) ((iI_cl (by omega) (by omega)).trans (by omega)) d_M_divide_299 (fun F299 H locs eF299 hw => ?_)
                        have m299_99 : F299 (99) = .inl (ty 0, 12900, .inl (upd P5 (11100 + k) (iI ((q0 : Int))))) := by rw [eF299]; exact va_up_self ..
                        have hO_at_299 : F299 (98) = .inr (6, [.int (iI (co)), .ref (ad (99)), .ref (ad (100)), .ref (ad (101)), .ref (ad (102)), .int (iI (ln)), .int (iI (wr)), .ref (ad (103))]) := (show F299 (98) = F286 (98) from by rw [eF299]; exact va_up_ne _ _ (by omega)).trans hO
                        have g100_at_299 : F299 (100) = .inl (ty 0, 43, .inl (S2)) := (show F299 (100) = F286 (100) from by rw [eF299]; exact va_up_ne _ _ (by omega)).trans g100
                        have g101_at_299 : F299 (101) = .inl (ty 4, 43, .inl (G2)) := (show F299 (101) = F286 (101) from by rw [eF299]; exact va_up_ne _ _ (by omega)).trans g101
                        refine wz_iinc (z := (k : Int) - 1) (lv' := [(11, .int (iI ((k : Int) - 1))), (0, .ref (ad (98))), (1, .int (iI ((a : Int)))), (2, .int (iI ((b1 : Int)))), (3, .int (iI ((sB za : Int)))), (4, .int (iI ((sq : Int)))), (5, .int (iI ((d0 : Int)))), (6, .int (iI ((na : Int)))), (7, .int (iI ((n : Int)))), (8, .int (iI ((tp : Int)))), (9, .long (iL ((lead : Int)))), (13, .long (iL ((q0 : Int))))]) hx hb d_M_divide_300 hl (k := 10) rfl (by omega) (by decide) rfl (fun ls hl => ?_)
                        refine lv_goto (tgt := 188) hx hb d_M_divide_303 (by decide) ?_
                        exact ih188 k (upd P5 (11100 + k) (iI ((q0 : Nat) : Int))) _ _ _ ls (by omega) (by omega) (fun i hi => by
                          rw [dl_un (by omega)]
                          by_cases h9 : k ≤ i ∧ i ≤ k + n
                          · have h8 := hDw5 (i - k) (by omega)
                            rwa [show 10800 + k + (i - k) = 300 * 36 + i by omega] at h8
                          · rw [dl_congr (hP5 _ (by omega))]; exact hDg8 i hi) (hdl.1) (hdl.2) (fun t h1 h2 => by
                          by_cases h9 : t = k
                          · rw [h9, dl_us (by omega)]; exact hqB
                          · rw [dl_un (by omega), dl_congr (hP5 _ (by omega))]; exact hDq t (by omega) h2) (fun j hj => by rw [pk_un (by omega), hP5 j (by omega)]; exact hP38 j hj) (fun j hj => by rw [pk_un (by omega), hP5 j (by omega)]; exact hPo8 j hj) (fun y9 h1 h2 h3 => (show F299 (y9) = F286 (y9) from by rw [eF299]; exact va_up_ne _ _ (by omega)).trans (hfr y9 h1 h2 h3)) hO_at_299 m299_99 g100_at_299 g101_at_299 hw (lv_sub hl [1, 2, 3, 4, 5, 6, 7, 8, 9, 10, 0] rfl)
                      refine lv_aload_n hx hb d_M_divide_251 rfl (lv_at hl 0 rfl) ?_
                      refine lv_iload hx hb d_M_divide_252 (lv_at hl 10 rfl) ?_
                      refine lv_lload hx hb d_M_divide_254 (lv_at hl 11 rfl) ?_
                      refine pw_calli hw (va_runV (As := [.int (iI ((k : Int))), .long (iL ((of0 : Int)))]) (rest := []) ⟨hx, hb, hml, hown, hq⟩ (c_M_takes l D ty ad M F188 H.size hM co ln wr hO P8 S2 G2 ⟨g99, g100, g101⟩ k n (by omega) hS38 hD8 hDw of0 (by omega)) (cwV 2 hq (gV ml_M_64 im_M_takes se_M_takes in_M m_M_takes) rfl rfl rfl (by decide +kernel) ⟨Nat.le_of_ble_eq_true rfl, Nat.le_of_ble_eq_true rfl⟩) (pw_preV hw (by omega) hO rfl) rfl rfl hl.1 rfl (lv_room (Nat.le_of_ble_eq_true rfl)) d_M_divide_256 ⟨Nat.le_of_ble_eq_true rfl, Nat.le_of_ble_eq_true rfl⟩) (fun r256 F256 H locs q256 hw => ?_)
                      obtain ⟨bw, hbw1, er256, P7, ⟨m99, m100, m101⟩, hDw7, hP7, hf7, hval7⟩ := q256
                      subst er256
                      rw [hv8] at hval7
                      have hO_at_256 : F256 (98) = .inr (6, [.int (iI (co)), .ref (ad (99)), .ref (ad (100)), .ref (ad (101)), .ref (ad (102)), .int (iI (ln)), .int (iI (wr)), .ref (ad (103))]) := (hf7 (98) (by omega) (by omega) (by omega)).trans hO
                      refine wz_if_eq (tgt := 286) hx hb d_M_divide_259 (by decide) (by omega) (by omega) (fun c259 => ?_) (fun c259 => ?_)
                      · have hbw0 : bw = 0 := by omega
                        rw [hbw0] at hval7
                        have ht0 := dv_t0 hval7 hv0 hest
                        exact K286 of0 P7 _ _ _ ls (ht0.1) (ht0.2) (by omega) (hDw7) (hP7) (fun y9 h1 h2 h3 => (hf7 (y9) (by omega) (by omega) (by omega)).trans (hfr y9 h1 h2 h3)) hO_at_256 m99 m100 m101 hw hl
                      · have hbw0 : bw = 1 := by omega
                        have hw7 : ww P7 k (n + 1) < 65536 ^ (n + 1) := bv_lt (fun i hi => hDw7 i (by omega))
                        have hof1 : 1 ≤ of0 := dv_t1 (by rw [hval7, hbw0]) hw7
                        refine lv_lload hx hb d_M_divide_262 (lv_at hl 11 rfl) ?_
                        refine lv_lconst (v := iL 1) hx hb d_M_divide_264 (by decide) ?_
                        refine wz_lsub (z := ((of0 - 1 : Nat) : Int)) hx hb d_M_divide_265 (by omega) ?_
                        refine lv_lstore (lv' := [(13, .long (iL (((of0 - 1 : Nat) : Int)))), (0, .ref (ad (98))), (1, .int (iI ((a : Int)))), (2, .int (iI ((b1 : Int)))), (3, .int (iI ((sB za : Int)))), (4, .int (iI ((sq : Int)))), (5, .int (iI ((d0 : Int)))), (6, .int (iI ((na : Int)))), (7, .int (iI ((n : Int)))), (8, .int (iI ((tp : Int)))), (9, .long (iL ((lead : Int)))), (11, .int (iI ((k : Int))))]) hx hb d_M_divide_266 hl (by decide) rfl (fun ls hl => ?_)
                        have K268 : ∀ (fuel : Nat) (oo : Nat) (P6 : Nat → Int32) (F268 : Nat → va_E) (H : Heap) (locs : List Loc) (ls : Array Slot), oo < fuel → (oo < 65536) → (ww P6 k (n + 1) + (oo + 1) * (zb.natAbs * d0) = ww P8 k (n + 1) + 65536 ^ (n + 1)) → (∀ i, i ≤ n → dl P6 (10800 + k + i) < 65536) → (∀ j, j < 10800 + k ∨ 10800 + k + n < j → P6 j = P8 j) → (frM F F268) → F268 (98) = .inr (6, [.int (iI (co)), .ref (ad (99)), .ref (ad (100)), .ref (ad (101)), .ref (ad (102)), .int (iI (ln)), .int (iI (wr)), .ref (ad (103))]) → F268 (99) = .inl (ty 0, 12900, .inl (P6)) → F268 (100) = .inl (ty 0, 43, .inl (S2)) → F268 (101) = .inl (ty 4, 43, .inl (G2)) → pw D classes (tysL ty) ad M F268 (pA ad M s.heap.size) s H locs → lv_has ls 15 [(0, .ref (ad (98))), (1, .int (iI ((a : Int)))), (2, .int (iI ((b1 : Int)))), (3, .int (iI ((sB za : Int)))), (4, .int (iI ((sq : Int)))), (5, .int (iI ((d0 : Int)))), (6, .int (iI ((na : Int)))), (7, .int (iI ((n : Int)))), (8, .int (iI ((tp : Int)))), (9, .long (iL ((lead : Int)))), (11, .int (iI ((k : Int)))), (13, .long (iL ((oo : Int))))] → W p l e ({ frames := 2, cells := 0, slots := 0, locals := 50 } : Room) s m ([.ref (ad (98)), .int (iI ((a : Int))), .int (iI ((b1 : Int)))]).toArray below meth c H locs 0 0 Q (F0 m 268 ls []) := by
                          intro fuel
                          induction fuel with
                          | zero => intro oo P6 F268 H locs ls hfuel hoo hval6 hDw6 hP6 hfr hO g99 g100 g101 hw hl; exact absurd hfuel (Nat.not_lt_zero _)
                          | succ fuel ih268 =>
                            intro oo P6 F268 H locs ls hfuel hoo hval6 hDw6 hP6 hfr hO g99 g100 g101 hw hl
                            refine lv_aload_n hx hb d_M_divide_268 rfl (lv_at hl 0 rfl) ?_
                            refine lv_iload hx hb d_M_divide_269 (lv_at hl 10 rfl) ?_
                            refine pw_calli hw (va_runV (As := [.int (iI ((k : Int)))]) (rest := []) ⟨hx, hb, hml, hown, hq⟩ (c_M_givesBack l D ty ad M F268 H.size hM co ln wr hO P6 S2 G2 ⟨g99, g100, g101⟩ k n (by omega) hS38 (hD8.row (fun i hi => hP6 _ (by omega))) hDw6) (cwV 1 hq (gV ml_M_68 im_M_givesBack se_M_givesBack in_M m_M_givesBack) rfl rfl rfl (by decide +kernel) ⟨Nat.le_of_ble_eq_true rfl, Nat.le_of_ble_eq_true rfl⟩) (pw_preV hw (by omega) hO rfl) rfl rfl hl.1 rfl (lv_room (Nat.le_of_ble_eq_true rfl)) d_M_divide_271 ⟨Nat.le_of_ble_eq_true rfl, Nat.le_of_ble_eq_true rfl⟩) (fun r271 F271 H locs q271 hw => ?_)
                            obtain ⟨cy, hcy1, er271, P4, ⟨o99, o100, o101⟩, hDw4, hP4, hf4, hval4⟩ := q271
                            subst er271
                            rw [(bvP_congr (fun i hi => hP6 _ (by omega))).trans hv8] at hval4
                            have hw6 : ww P6 k (n + 1) < 65536 ^ (n + 1) := bv_lt (fun i hi => hDw6 i (by omega))
                            have hw4 : ww P4 k (n + 1) < 65536 ^ (n + 1) := bv_lt (fun i hi => hDw4 i (by omega))
                            have hO_at_271 : F271 (98) = .inr (6, [.int (iI (co)), .ref (ad (99)), .ref (ad (100)), .ref (ad (101)), .ref (ad (102)), .int (iI (ln)), .int (iI (wr)), .ref (ad (103))]) := (hf4 (98) (by omega) (by omega) (by omega)).trans hO
                            refine wz_if_ne (tgt := 286) hx hb d_M_divide_274 (by decide) (by omega) (by omega) (fun c274 => ?_) (fun c274 => ?_)
                            · have hcy9 : cy = 1 := by omega
                              rw [hcy9] at hval4
                              have hg1 := dv_g1 hval6 hval4 hw6
                              exact K286 oo P4 _ _ _ ls (hg1.1) (hg1.2) (by omega) (hDw4) (fun j hj => (hP4 j hj).trans (hP6 j hj)) (fun y9 h1 h2 h3 => (hf4 (y9) (by omega) (by omega) (by omega)).trans (hfr y9 h1 h2 h3)) hO_at_271 o99 o100 o101 hw hl
                            · have hcy9 : cy = 0 := by omega
                              rw [hcy9] at hval4
                              have hg0 := dv_g0 hval6 hval4
                              have hoo1 : 1 ≤ oo := dv_t1 (by rw [hg0, Nat.one_mul]) hw4
                              refine lv_lload hx hb d_M_divide_277 (lv_at hl 11 rfl) ?_
                              refine lv_lconst (v := iL 1) hx hb d_M_divide_279 (by decide) ?_
                              refine wz_lsub (z := ((oo - 1 : Nat) : Int)) hx hb d_M_divide_280 (by omega) ?_
                              refine lv_lstore (lv' := [(13, .long (iL (((oo - 1 : Nat) : Int)))), (0, .ref (ad (98))), (1, .int (iI ((a : Int)))), (2, .int (iI ((b1 : Int)))), (3, .int (iI ((sB za : Int)))), (4, .int (iI ((sq : Int)))), (5, .int (iI ((d0 : Int)))), (6, .int (iI ((na : Int)))), (7, .int (iI ((n : Int)))), (8, .int (iI ((tp : Int)))), (9, .long (iL ((lead : Int)))), (11, .int (iI ((k : Int))))]) hx hb d_M_divide_281 hl (by decide) rfl (fun ls hl => ?_)
                              refine lv_goto (tgt := 268) hx hb d_M_divide_283 (by decide) ?_
                              exact ih268 (oo - 1) P4 _ _ _ ls (by omega) (by omega) (by rw [show oo - 1 + 1 = oo by omega]; exact hg0) (hDw4) (fun j hj => (hP4 j hj).trans (hP6 j hj)) (fun y9 h1 h2 h3 => (hf4 (y9) (by omega) (by omega) (by omega)).trans (hfr y9 h1 h2 h3)) hO_at_271 o99 o100 o101 hw (lv_sub hl [1, 2, 3, 4, 5, 6, 7, 8, 9, 10, 11, 0] rfl)
                        exact K268 _ (of0 - 1) P7 _ _ _ ls (Nat.lt_succ_self _) (by omega) (by rw [show of0 - 1 + 1 = of0 by omega, hval7, show bw = 1 by omega, Nat.one_mul]) (hDw7) (hP7) (fun y9 h1 h2 h3 => (hf7 (y9) (by omega) (by omega) (by omega)).trans (hfr y9 h1 h2 h3)) hO_at_256 m99 m100 m101 hw (lv_sub hl [1, 2, 3, 4, 5, 6, 7, 8, 9, 10, 11, 0] rfl)
                    refine lv_lload hx hb d_M_divide_232 (lv_at hl 0 rfl) ?_
                    refine lv_ldc2 (v := iL (65536)) hx hb hown (hq _ cj_M_37) d_M_divide_234 ?_
                    refine wz_lcmp_lt (tgt := 247) hx hb d_M_divide_237 d_M_divide_238 (by decide) (by first | omega | exact Int.le_trans (by decide) (Int.natCast_nonneg _) | exact dvq_hi (by omega)) (by first | omega | exact Int.le_trans (by decide) (Int.natCast_nonneg _) | exact dvq_hi (by omega)) (by first | omega | exact Int.le_trans (by decide) (Int.natCast_nonneg _) | exact dvq_hi (by omega)) (by first | omega | exact Int.le_trans (by decide) (Int.natCast_nonneg _) | exact dvq_hi (by omega)) (fun c237 => ?_) (fun c237 => ?_)
                    · refine lv_lload hx hb d_M_divide_247 (lv_at hl 0 rfl) ?_
                      rw [show (((hi0 / lead : Nat) : Int) : Int) = (of0 : Int) by omega]
                      refine lv_lstore (lv' := [(13, .long (iL ((of0 : Int)))), (12, .int (iI ((10800 + (k : Int)) + (n : Int)))), (0, .ref (ad (98))), (1, .int (iI ((a : Int)))), (2, .int (iI ((b1 : Int)))), (3, .int (iI ((sB za : Int)))), (4, .int (iI ((sq : Int)))), (5, .int (iI ((d0 : Int)))), (6, .int (iI ((na : Int)))), (7, .int (iI ((n : Int)))), (8, .int (iI ((tp : Int)))), (9, .long (iL ((lead : Int)))), (11, .int (iI ((k : Int))))]) hx hb d_M_divide_249 hl (by decide) rfl (fun ls hl => ?_)
                      exact K251  ls (lv_sub hl [2, 3, 4, 5, 6, 7, 8, 9, 10, 11, 12, 0] rfl)
                    · refine lv_ldc2 (v := iL (65535)) hx hb hown (hq _ cj_M_62) d_M_divide_241 ?_
                      refine lv_goto (tgt := 249) hx hb d_M_divide_244 (by decide) ?_
                      rw [show (65535 : Int) = (of0 : Int) by omega]
                      refine lv_lstore (lv' := [(13, .long (iL ((of0 : Int)))), (12, .int (iI ((10800 + (k : Int)) + (n : Int)))), (0, .ref (ad (98))), (1, .int (iI ((a : Int)))), (2, .int (iI ((b1 : Int)))), (3, .int (iI ((sB za : Int)))), (4, .int (iI ((sq : Int)))), (5, .int (iI ((d0 : Int)))), (6, .int (iI ((na : Int)))), (7, .int (iI ((n : Int)))), (8, .int (iI ((tp : Int)))), (9, .long (iL ((lead : Int)))), (11, .int (iI ((k : Int))))]) hx hb d_M_divide_249 hl (by decide) rfl (fun ls hl => ?_)
                      exact K251  ls (lv_sub hl [2, 3, 4, 5, 6, 7, 8, 9, 10, 11, 12, 0] rfl)
              exact K188 _ (tp + 1) P9 _ _ _ ls (Nat.lt_succ_self _) (by omega) (hDg9) (by rw [show tp + 1 + n = na + 2 by omega, hv9, Nat.sub_self]; simp [qq, bv_0]) (by rw [show tp + 1 + n = na + 2 by omega, hv9]; exact dv_start hvaN hd0.2 hvbN htp) (fun t h1 h2 => absurd h1 (by omega)) (fun j hj => hPo j (by omega)) (fun j hj => (hPo j (by omega)).trans ((hP2 j (by omega)).trans (hP1 j (by omega)))) (fun y9 h1 h2 h3 => (rfl).trans (hfr y9 h1 h2 h3)) hO g99 g100 g101 hw (lv_sub hl [3, 4, 5, 6, 7, 8, 9, 10, 2, 1, 0] rfl)
            · refine lv_aload_n hx hb d_M_divide_141 rfl (lv_at hl 0 rfl) ?_
              refine pw_get (ci := 6) (C := R_M) (T := T_M) (N := 8) hx hb hq i_M hown hw (by omega) hO rfl 1 (by decide) (hq _ fl_M_7) (fun _ h9 => h9) rfl d_M_divide_142 ?_
              refine wz_sipush (n := 10800) hx hb d_M_divide_145 (by decide) ?_
              refine lv_iload hx hb d_M_divide_148 (lv_at hl 8 rfl) ?_
              refine wz_iadd hx hb d_M_divide_150 rfl ?_
              refine wz_iconst (n := 0) hx hb d_M_divide_151 ?_
              refine pw_iast (k := 10800 + k) hx hb hw 0 (by omega) g99 rfl (iI_in (by omega) (by omega) (by omega)) ((iI_cl (by omega) (by omega)).trans (by omega)) d_M_divide_152 (fun F152 H locs eF152 hw => ?_)
              have m152_99 : F152 (99) = .inl (ty 0, 12900, .inl (upd P9 (10800 + k) (iI (0)))) := by rw [eF152]; exact va_up_self ..
              have hO_at_152 : F152 (98) = .inr (6, [.int (iI (co)), .ref (ad (99)), .ref (ad (100)), .ref (ad (101)), .ref (ad (102)), .int (iI (ln)), .int (iI (wr)), .ref (ad (103))]) := (show F152 (98) = F132 (98) from by rw [eF152]; exact va_up_ne _ _ (by omega)).trans hO
              have g100_at_152 : F152 (100) = .inl (ty 0, 43, .inl (S2)) := (show F152 (100) = F132 (100) from by rw [eF152]; exact va_up_ne _ _ (by omega)).trans g100
              have g101_at_152 : F152 (101) = .inl (ty 4, 43, .inl (G2)) := (show F152 (101) = F132 (101) from by rw [eF152]; exact va_up_ne _ _ (by omega)).trans g101
              refine wz_iinc (z := ((k + 1 : Nat) : Int)) (lv' := [(8, .int (iI (((k + 1 : Nat) : Int)))), (0, .ref (ad (98))), (1, .int (iI ((a : Int)))), (2, .int (iI ((b1 : Int)))), (3, .int (iI ((sB za : Int)))), (4, .int (iI ((sq : Int)))), (5, .int (iI ((d0 : Int)))), (6, .int (iI ((na : Int)))), (7, .int (iI ((n : Int))))]) hx hb d_M_divide_153 hl (k := 8) rfl (by omega) (by decide) rfl (fun ls hl => ?_)
              refine lv_goto (tgt := 132) hx hb d_M_divide_156 (by decide) ?_
              exact ih132 (k + 1) (upd P9 (10800 + k) (iI 0)) _ _ _ ls (by omega) (by omega) (fun i h1 h2 => by
                by_cases h9 : i = k
                · rw [h9, pk_us]
                · rw [pk_un (by omega)]; exact hz i h1 (by omega)) (fun j hj => by rw [pk_un (by omega)]; exact hPo j (by omega)) (fun y9 h1 h2 h3 => (show F152 (y9) = F132 (y9) from by rw [eF152]; exact va_up_ne _ _ (by omega)).trans (hfr y9 h1 h2 h3)) hO_at_152 m152_99 g100_at_152 g101_at_152 hw (lv_sub hl [1, 2, 3, 4, 5, 6, 7, 8, 0] rfl)
        exact K132 _ nr P2 _ _ _ ls (Nat.lt_succ_self _) (by omega) (fun i h1 h2 => absurd h1 (by omega)) (fun j hj => rfl) (fun y9 h1 h2 h3 => (hf2 (y9) (by omega) (by omega) (by omega)).trans (hf1 (y9) (by omega) (by omega) (by omega))) hO_at_111 j99 j100 j101 hw (lv_sub hl [4, 5, 6, 7, 8, 3, 2, 1, 0] rfl)
      · have hlt9 : za.natAbs < zb.natAbs := cmpI_lt (by omega)
        refine lv_aload_n hx hb d_M_divide_38 rfl (lv_at hl 0 rfl) ?_
        refine wz_bipush (n := 36) hx hb d_M_divide_39 (by decide) ?_
        refine lv_iload_n hx hb d_M_divide_41 rfl (lv_at hl 1 rfl) ?_
        refine pw_callv hw (va_runV (As := [.int (iI (36)), .int (iI ((a : Int)))]) (rest := []) ⟨hx, hb, hml, hown, hq⟩ (c_M_copy l D ty ad M F H.size hM co ln wr hO 36 a (by omega) ha (by omega) za hNa) (cwV 2 hq (gV ml_M_55 im_M_copy se_M_copy in_M m_M_copy) rfl rfl rfl (by decide +kernel) ⟨Nat.le_of_ble_eq_true rfl, Nat.le_of_ble_eq_true rfl⟩) (pw_preV hw (by omega) hO rfl) rfl rfl hl.1 rfl (lv_room (Nat.le_of_ble_eq_true rfl)) d_M_divide_42 ⟨Nat.le_of_ble_eq_true rfl, Nat.le_of_ble_eq_true rfl⟩) (fun F42 H locs q42 hw => ?_)
        obtain ⟨hN36, hk42, hf42⟩ := q42
        obtain ⟨P1, S1, G1, hMA1, hNu1⟩ := id hN36
        obtain ⟨k99, k100, k101⟩ := id hMA1
        have hO_at_42 : F42 (98) = .inr (6, [.int (iI (co)), .ref (ad (99)), .ref (ad (100)), .ref (ad (101)), .ref (ad (102)), .int (iI (ln)), .int (iI (wr)), .ref (ad (103))]) := (hf42 (98) (by omega) (by omega) (by omega)).trans hO
        refine lv_aload_n hx hb d_M_divide_45 rfl (lv_at hl 0 rfl) ?_
        refine pw_get (ci := 6) (C := R_M) (T := T_M) (N := 8) hx hb hq i_M hown hw (by omega) hO_at_42 rfl 2 (by decide) (hq _ fl_M_13) (fun _ h9 => h9) rfl d_M_divide_46 ?_
        refine wz_bipush (n := 37) hx hb d_M_divide_49 (by decide) ?_
        refine wz_iconst (n := 0) hx hb d_M_divide_51 ?_
        refine pw_iast (k := 37) hx hb hw 0 (by omega) k100 rfl (iI_in (by omega) (by omega) (by omega)) ((iI_cl (by omega) (by omega)).trans (by omega)) d_M_divide_52 (fun F52 H locs eF52 hw => ?_)
        have m52_100 : F52 (100) = .inl (ty 0, 43, .inl (upd S1 (37) (iI (0)))) := by rw [eF52]; exact va_up_self ..
        have hO_at_52 : F52 (98) = .inr (6, [.int (iI (co)), .ref (ad (99)), .ref (ad (100)), .ref (ad (101)), .ref (ad (102)), .int (iI (ln)), .int (iI (wr)), .ref (ad (103))]) := (show F52 (98) = F42 (98) from by rw [eF52]; exact va_up_ne _ _ (by omega)).trans hO_at_42
        have k99_at_52 : F52 (99) = .inl (ty 0, 12900, .inl (P1)) := (show F52 (99) = F42 (99) from by rw [eF52]; exact va_up_ne _ _ (by omega)).trans k99
        have k101_at_52 : F52 (101) = .inl (ty 4, 43, .inl (G1)) := (show F52 (101) = F42 (101) from by rw [eF52]; exact va_up_ne _ _ (by omega)).trans k101
        refine lv_aload_n hx hb d_M_divide_53 rfl (lv_at hl 0 rfl) ?_
        refine pw_get (ci := 6) (C := R_M) (T := T_M) (N := 8) hx hb hq i_M hown hw (by omega) hO_at_52 rfl 3 (by decide) (hq _ fl_M_16) (fun _ h9 => h9) rfl d_M_divide_54 ?_
        refine wz_bipush (n := 37) hx hb d_M_divide_57 (by decide) ?_
        refine wz_iconst (n := 0) hx hb d_M_divide_59 ?_
        refine pw_zast (k := 37) hx hb hw 4 (by omega) k101_at_52 rfl (iI_in (by omega) (by omega) (by omega)) ((iI_cl (by omega) (by omega)).trans (by omega)) (y := iI (0)) (by decide) d_M_divide_60 (fun F60 H locs eF60 hw => ?_)
        have m60_101 : F60 (101) = .inl (ty 4, 43, .inl (upd G1 (37) (iI (0)))) := by rw [eF60]; exact va_up_self ..
        have hO_at_60 : F60 (98) = .inr (6, [.int (iI (co)), .ref (ad (99)), .ref (ad (100)), .ref (ad (101)), .ref (ad (102)), .int (iI (ln)), .int (iI (wr)), .ref (ad (103))]) := (show F60 (98) = F52 (98) from by rw [eF60]; exact va_up_ne _ _ (by omega)).trans hO_at_52
        have k99_at_60 : F60 (99) = .inl (ty 0, 12900, .inl (P1)) := (show F60 (99) = F52 (99) from by rw [eF60]; exact va_up_ne _ _ (by omega)).trans k99_at_52
        have m52_100_at_60 : F60 (100) = .inl (ty 0, 43, .inl (upd S1 (37) (iI (0)))) := (show F60 (100) = F52 (100) from by rw [eF60]; exact va_up_ne _ _ (by omega)).trans m52_100
        rw [← hQ]
        exact pw_vret hx hb hr hlocks hw (by
          obtain ⟨ht1, ht2⟩ := td_small hlt9
          have hMA9 : MA ty F60 P1 (upd S1 37 (iI 0)) (upd G1 37 (iI 0)) := ⟨k99_at_60, m52_100_at_60, m60_101⟩
          obtain ⟨h37, hk37⟩ := Nm_zero hMA1 hMA9
          rw [ht1, ht2]
          exact ⟨h37, hk37 36 za (by omega) (by omega) hN36, (hk42.trans hk37).weak (fun c9 _ h9 => by omega), fun y9 h1 h2 h3 => (show F60 (y9) = F52 (y9) from by rw [eF60]; exact va_up_ne _ _ (by omega)).trans ((show F52 (y9) = F42 (y9) from by rw [eF52]; exact va_up_ne _ _ (by omega)).trans (hf42 (y9) (by omega) (by omega) (by omega)))⟩) d_M_divide_61
    refine wz_icmp_eq (tgt := 26) hx hb d_M_divide_19 (by decide) (by omega) (by omega) (by omega) (by omega) (fun c19 => ?_) (fun c19 => ?_)
    · refine wz_iconst (n := 0) hx hb d_M_divide_26 ?_
      refine lv_istore (lv' := [(4, .int (iI (0))), (3, .int (iI ((sB za : Int)))), (0, .ref (ad (98))), (1, .int (iI ((a : Int)))), (2, .int (iI ((b1 : Int))))]) hx hb d_M_divide_27 hl (by decide) rfl (fun ls hl => ?_)
      exact K29 0 ls ((if_pos (by omega)).symm) (by omega) (lv_sub hl [2, 3, 4, 1, 0] rfl)
    · refine wz_iconst (n := 1) hx hb d_M_divide_22 ?_
      refine lv_goto (tgt := 27) hx hb d_M_divide_23 (by decide) ?_
      refine lv_istore (lv' := [(4, .int (iI (1))), (3, .int (iI ((sB za : Int)))), (0, .ref (ad (98))), (1, .int (iI ((a : Int)))), (2, .int (iI ((b1 : Int))))]) hx hb d_M_divide_27 hl (by decide) rfl (fun ls hl => ?_)
      exact K29 1 ls ((if_neg (by omega)).symm) (by omega) (lv_sub hl [2, 3, 4, 1, 0] rfl)
  rw [hH, hlo] at hgo
  exact hgo
