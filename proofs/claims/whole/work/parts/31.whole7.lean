/-! Whole: takeAway, leaveRest: by program -/
set_option maxHeartbeats 4000000 in
set_option maxRecDepth 100000 in
/-- Whole.takeAway(divisor, digit, at) -/
theorem c_W_takeAway (l : Launch) (D : va_G) (ty : Nat → ClassId) (ad : Nat → Nat) (M : Nat) (F : Nat → va_E) (sz : Nat) (t d N Nd nt nd al : Nat) (qz : Int) (gt gd : Nat → Int32) (hMt : t + 1 < M) (hMd : d + 1 < M) (hN : N < 1000) (hNd : Nd < 1000) (htd : d ≠ t ∧ d ≠ t + 1 ∧ d + 1 ≠ t) (hal : al + nd < N) (hnd : nd ≤ Nd) (hdt : ∀ i, i < al + nd + 1 → dl gt i < 2147483648) (hdd : ∀ i, i < nd → dl gd i < 2147483648) (hqz : -1 ≤ qz ∧ qz < 2147483648) (hO_t : F (t) = .inr (0, [.ref (ad (t + 1)), .int (iI ((nt : Int)))])) (hA_t : F (t + 1) = .inl (ty 0, N, .inl (gt))) (hO_d : F (d) = .inr (0, [.ref (ad (d + 1)), .int (iI ((nd : Int)))])) (hA_d : F (d + 1) = .inl (ty 0, Nd, .inl (gd))) :
    CI l y_W_takeAway w_W_takeAway ({ frames := 0, cells := 0, slots := 0, locals := 0 } : Room) [.ref (ad (t)), .ref (ad (d)), .long (iL (qz)), .int (iI ((al : Int)))] D ty ad M F sz (fun r F1 => ∃ (g : Nat → Int32) (cy : Int), F1 (t + 1) = .inl (ty 0, N, .inl (g)) ∧ (∀ y, y ≠ t + 1 → F1 y = F y) ∧ (∀ k, k < al ∨ al + nd ≤ k → g k = gt k) ∧ (∀ k, k < nd → dl g (al + k) < 2147483648) ∧ (bv 2147483648 (fun k => dl g (al + k)) nd : Int) + cy * 2147483648 ^ nd = (bv 2147483648 (fun k => dl gt (al + k)) nd : Int) - qz * (bv 2147483648 (dl gd) nd : Int) ∧ r = iI (if (dl gt (al + nd) : Int) + cy < 0 then 1 else 0)) := by
  refine Met.ofW (cc := b_W_takeAway) (maxL := 11) (ret := (some .boolean)) (by decide) rfl ?_
  intro p e s m args below meth c s₁ B hml hv
  obtain ⟨rfl, hsz, hP, hK, hD0⟩ := hv
  have hx := B.exec
  have hb := B.bytes
  have hr := B.returns
  have hts := atoms_spec (ws := w_W_takeAway) B.pre
  have hq : ∀ w ∈ wT, w.before _ s = true := fun w h => hts w (List.mem_cons_of_mem _ h)
  have hown : s.vm.findClass R_W = some m.cls := findClass_of_methodNamed B.named
  have hlocks := B.notSynchronized
  subst hsz
  have hw := pw_start hP hK hD0
  have hl := lv_entry ([.ref (ad (t)), .ref (ad (d)), .long (iL (qz)), .int (iI ((al : Int)))]) (n := 11) (Nat.le_of_ble_eq_true rfl)
  rw [lg_entry_eq]
  generalize (lg_sl ([.ref (ad (t)), .ref (ad (d)), .long (iL (qz)), .int (iI ((al : Int)))]) ++ List.replicate (11 - (lg_sl ([.ref (ad (t)), .ref (ad (d)), .long (iL (qz)), .int (iI ((al : Int)))])).length) Slot.unset).toArray = ls at hl ⊢
  have hl : lv_has ls 11 [(0, .ref (ad (t))), (1, .ref (ad (d))), (2, .long (iL (qz))), (4, .int (iI ((al : Int))))] := hl
  change W p l e ({ frames := 0, cells := 0, slots := 0, locals := 0 } : Room) s m ([.ref (ad (t)), .ref (ad (d)), .long (iL (qz)), .int (iI ((al : Int)))]).toArray below meth c s.heap [] 0 0 (MQ below (va_Qi (fun r F1 => ∃ (g : Nat → Int32) (cy : Int), F1 (t + 1) = .inl (ty 0, N, .inl (g)) ∧ (∀ y, y ≠ t + 1 → F1 y = F y) ∧ (∀ k, k < al ∨ al + nd ≤ k → g k = gt k) ∧ (∀ k, k < nd → dl g (al + k) < 2147483648) ∧ (bv 2147483648 (fun k => dl g (al + k)) nd : Int) + cy * 2147483648 ^ nd = (bv 2147483648 (fun k => dl gt (al + k)) nd : Int) - qz * (bv 2147483648 (dl gd) nd : Int) ∧ r = iI (if (dl gt (al + nd) : Int) + cy < 0 then 1 else 0)) (pAt D classes (tysL ty) ad M (pA ad M s.heap.size)) (pA ad M s.heap.size)) ([.ref (ad (t)), .ref (ad (d)), .long (iL (qz)), .int (iI ((al : Int)))]).toArray s 0 0 (pA ad M s.heap.size)) (F0 m 0 ls [])
  generalize hQ : MQ below (va_Qi (fun r F1 => ∃ (g : Nat → Int32) (cy : Int), F1 (t + 1) = .inl (ty 0, N, .inl (g)) ∧ (∀ y, y ≠ t + 1 → F1 y = F y) ∧ (∀ k, k < al ∨ al + nd ≤ k → g k = gt k) ∧ (∀ k, k < nd → dl g (al + k) < 2147483648) ∧ (bv 2147483648 (fun k => dl g (al + k)) nd : Int) + cy * 2147483648 ^ nd = (bv 2147483648 (fun k => dl gt (al + k)) nd : Int) - qz * (bv 2147483648 (dl gd) nd : Int) ∧ r = iI (if (dl gt (al + nd) : Int) + cy < 0 then 1 else 0)) (pAt D classes (tysL ty) ad M (pA ad M s.heap.size)) (pA ad M s.heap.size)) ([.ref (ad (t)), .ref (ad (d)), .long (iL (qz)), .int (iI ((al : Int)))]).toArray s 0 0 (pA ad M s.heap.size) = Q
  obtain ⟨H, hH⟩ : ∃ H, H = s.heap := ⟨_, rfl⟩
  obtain ⟨locs, hlo⟩ : ∃ z : List Loc, z = [] := ⟨_, rfl⟩
  have hw : pw D classes (tysL ty) ad M F (pA ad M s.heap.size) s H locs := by rw [hH, hlo]; exact hw
  have hgo : W p l e ({ frames := 0, cells := 0, slots := 0, locals := 0 } : Room) s m ([.ref (ad (t)), .ref (ad (d)), .long (iL (qz)), .int (iI ((al : Int)))]).toArray below meth c H locs 0 0 Q (F0 m 0 ls []) := by
    refine lv_iload hx hb d_W_takeAway_0 (lv_at hl 3 rfl) ?_
    refine lv_aload_n hx hb d_W_takeAway_2 rfl (lv_at hl 1 rfl) ?_
    refine pw_get (ci := 0) (C := R_W) (T := T_W) (N := 2) hx hb hq i_W hown hw (by omega) hO_d rfl 1 (by decide) (hq _ fl_W_21) (fun _ h9 => h9) rfl d_W_takeAway_3 ?_
    refine wz_iadd (z := ((al + nd : Nat) : Int)) hx hb d_W_takeAway_6 (by omega) ?_
    refine lv_istore (lv' := [(5, .int (iI (((al + nd : Nat) : Int)))), (0, .ref (ad (t))), (1, .ref (ad (d))), (2, .long (iL (qz))), (4, .int (iI ((al : Int))))]) hx hb d_W_takeAway_7 hl (by decide) rfl (fun ls hl => ?_)
    refine lv_iload hx hb d_W_takeAway_9 (lv_at hl 4 rfl) ?_
    refine wz_if_lt (tgt := 24) hx hb d_W_takeAway_11 (by decide) (by omega) (by omega) (fun c11 => ?_) (fun c11 => ?_)
    · exact absurd c11 (by omega)
    · refine lv_iload hx hb d_W_takeAway_14 (lv_at hl 0 rfl) ?_
      refine lv_aload_n hx hb d_W_takeAway_16 rfl (lv_at hl 1 rfl) ?_
      refine pw_get (ci := 0) (C := R_W) (T := T_W) (N := 2) hx hb hq i_W hown hw (by omega) hO_t rfl 0 (by decide) (hq _ fl_W_17) (fun _ h9 => h9) rfl d_W_takeAway_17 ?_
      refine pw_alen (v := iI ((N : Nat) : Int)) hx hb hw 0 (by omega) hA_t rfl (iI_nat _).symm d_W_takeAway_20 ?_
      refine wz_icmp_lt (tgt := 26) hx hb d_W_takeAway_21 (by decide) (by omega) (by omega) (by omega) (by omega) (fun c21 => ?_) (fun c21 => ?_)
      · refine lv_lconst (v := iL 0) hx hb d_W_takeAway_26 (by decide) ?_
        refine lv_lstore (lv' := [(6, .long (iL (0))), (5, .int (iI (((al + nd : Nat) : Int)))), (0, .ref (ad (t))), (1, .ref (ad (d))), (2, .long (iL (qz))), (4, .int (iI ((al : Int))))]) hx hb d_W_takeAway_27 hl (by decide) rfl (fun ls hl => ?_)
        refine wz_iconst (n := 0) hx hb d_W_takeAway_29 ?_
        refine lv_istore (lv' := [(8, .int (iI (0))), (6, .long (iL (0))), (5, .int (iI (((al + nd : Nat) : Int)))), (0, .ref (ad (t))), (1, .ref (ad (d))), (2, .long (iL (qz))), (4, .int (iI ((al : Int))))]) hx hb d_W_takeAway_30 hl (by decide) rfl (fun ls hl => ?_)
        have K32 : ∀ (fuel : Nat) (i : Nat) (cy : Int) (gx : Nat → Int32) (F32 : Nat → va_E) (H : Heap) (locs : List Loc) (ls : Array Slot), nd - i < fuel → (i ≤ nd) → ((bv 2147483648 (fun k => dl gx (al + k)) i : Int) + cy * 2147483648 ^ i = (bv 2147483648 (fun k => dl gt (al + k)) i : Int) - qz * (bv 2147483648 (dl gd) i : Int)) → (-2147483648 < cy ∧ cy ≤ 1) → (∀ k, k < i → dl gx (al + k) < 2147483648) → (∀ k, k < al ∨ al + i ≤ k → gx k = gt k) → (∀ y, y ≠ t + 1 → F32 y = F y) → F32 (t) = .inr (0, [.ref (ad (t + 1)), .int (iI ((nt : Int)))]) → F32 (t + 1) = .inl (ty 0, N, .inl (gx)) → F32 (d) = .inr (0, [.ref (ad (d + 1)), .int (iI ((nd : Int)))]) → F32 (d + 1) = .inl (ty 0, Nd, .inl (gd)) → pw D classes (tysL ty) ad M F32 (pA ad M s.heap.size) s H locs → lv_has ls 11 [(8, .int (iI ((i : Int)))), (6, .long (iL (cy))), (5, .int (iI (((al + nd : Nat) : Int)))), (0, .ref (ad (t))), (1, .ref (ad (d))), (2, .long (iL (qz))), (4, .int (iI ((al : Int))))] → W p l e ({ frames := 0, cells := 0, slots := 0, locals := 0 } : Room) s m ([.ref (ad (t)), .ref (ad (d)), .long (iL (qz)), .int (iI ((al : Int)))]).toArray below meth c H locs 0 0 Q (F0 m 32 ls []) := by
          intro fuel
          induction fuel with
          | zero => intro i cy gx F32 H locs ls hfuel hi hinv hc hdig hsame hfr hO_t hA_t hO_d hA_d hw hl; exact absurd hfuel (Nat.not_lt_zero _)
          | succ fuel ih32 =>
            intro i cy gx F32 H locs ls hfuel hi hinv hc hdig hsame hfr hO_t hA_t hO_d hA_d hw hl
            refine lv_iload hx hb d_W_takeAway_32 (lv_at hl 0 rfl) ?_
            refine lv_aload_n hx hb d_W_takeAway_34 rfl (lv_at hl 4 rfl) ?_
            refine pw_get (ci := 0) (C := R_W) (T := T_W) (N := 2) hx hb hq i_W hown hw (by omega) hO_d rfl 1 (by decide) (hq _ fl_W_21) (fun _ h9 => h9) rfl d_W_takeAway_35 ?_
            refine wz_icmp_ge (tgt := 98) hx hb d_W_takeAway_38 (by decide) (by omega) (by omega) (by omega) (by omega) (fun c38 => ?_) (fun c38 => ?_)
            · have hin : nd = i := by omega
              subst hin
              have hdtn := hdt (al + nd) (by omega)
              refine lv_aload_n hx hb d_W_takeAway_98 rfl (lv_at hl 3 rfl) ?_
              refine pw_get (ci := 0) (C := R_W) (T := T_W) (N := 2) hx hb hq i_W hown hw (by omega) hO_t rfl 0 (by decide) (hq _ fl_W_17) (fun _ h9 => h9) rfl d_W_takeAway_99 ?_
              refine lv_iload hx hb d_W_takeAway_102 (lv_at hl 2 rfl) ?_
              refine pw_iald (k := al + nd) hx hb hw 0 (by omega) hA_t rfl (iI_in (by omega) (by omega) (by omega)) ((iI_cl (by omega) (by omega)).trans (by omega)) d_W_takeAway_104 ?_
              refine lv_topi (fun x104 ex104 => ?_)
              obtain rfl : x104 = iI ((dl gt (al + nd) : Int)) := ex104.trans ((hsame _ (Or.inr (Nat.le_refl _))).trans (dl_get hdtn))
              refine wz_i2l hx hb d_W_takeAway_105 (by omega) (by omega) ?_
              refine lv_lload hx hb d_W_takeAway_106 (lv_at hl 1 rfl) ?_
              refine wz_ladd hx hb d_W_takeAway_108 rfl ?_
              refine lv_lconst (v := iL 0) hx hb d_W_takeAway_109 (by decide) ?_
              refine wz_lcmp_ge (tgt := 118) hx hb d_W_takeAway_110 d_W_takeAway_111 (by decide) (by omega) (by omega) (by omega) (by omega) (fun c110 => ?_) (fun c110 => ?_)
              · refine wz_iconst (n := 0) hx hb d_W_takeAway_118 ?_
                rw [← hQ]
                exact pw_zret hx hb hr (by decide) hlocks hw (⟨gx, cy, hA_t, hfr, hsame, hdig, hinv, by congr 1; split <;> omega⟩) d_W_takeAway_119
              · refine wz_iconst (n := 1) hx hb d_W_takeAway_114 ?_
                refine lv_goto (tgt := 119) hx hb d_W_takeAway_115 (by decide) ?_
                rw [← hQ]
                exact pw_zret hx hb hr (by decide) hlocks hw (⟨gx, cy, hA_t, hfr, hsame, hdig, hinv, by congr 1; split <;> omega⟩) d_W_takeAway_119
            · have hdti := hdt (al + i) (by omega)
              have hddi := hdd i (by omega)
              obtain ⟨S, hS⟩ : ∃ S : Int, S = (dl gt (al + i) : Int) - qz * (dl gd i : Int) + cy := ⟨_, rfl⟩
              have hSb := ta_bound (x := dl gt (al + i)) (y := dl gd i) hqz (by omega) (by omega) hc
              rw [← hS] at hSb
              refine lv_aload_n hx hb d_W_takeAway_41 rfl (lv_at hl 3 rfl) ?_
              refine pw_get (ci := 0) (C := R_W) (T := T_W) (N := 2) hx hb hq i_W hown hw (by omega) hO_t rfl 0 (by decide) (hq _ fl_W_17) (fun _ h9 => h9) rfl d_W_takeAway_42 ?_
              refine lv_iload hx hb d_W_takeAway_45 (lv_at hl 6 rfl) ?_
              refine lv_iload hx hb d_W_takeAway_47 (lv_at hl 0 rfl) ?_
              refine wz_iadd (z := ((al + i : Nat) : Int)) hx hb d_W_takeAway_49 (by omega) ?_
              refine pw_iald (k := al + i) hx hb hw 0 (by omega) hA_t rfl (iI_in (by omega) (by omega) (by omega)) ((iI_cl (by omega) (by omega)).trans (by omega)) d_W_takeAway_50 ?_
              refine lv_topi (fun x50 ex50 => ?_)
              obtain rfl : x50 = iI ((dl gt (al + i) : Int)) := ex50.trans ((hsame _ (Or.inr (Nat.le_refl _))).trans (dl_get hdti))
              refine wz_i2l hx hb d_W_takeAway_51 (by omega) (by omega) ?_
              refine lv_lload_n hx hb d_W_takeAway_52 rfl (lv_at hl 5 rfl) ?_
              refine lv_aload_n hx hb d_W_takeAway_53 rfl (lv_at hl 4 rfl) ?_
              refine pw_get (ci := 0) (C := R_W) (T := T_W) (N := 2) hx hb hq i_W hown hw (by omega) hO_d rfl 0 (by decide) (hq _ fl_W_17) (fun _ h9 => h9) rfl d_W_takeAway_54 ?_
              refine lv_iload hx hb d_W_takeAway_57 (lv_at hl 0 rfl) ?_
              refine pw_iald (k := i) hx hb hw 0 (by omega) hA_d rfl (iI_in (by omega) (by omega) (by omega)) ((iI_cl (by omega) (by omega)).trans (by omega)) d_W_takeAway_59 ?_
              refine lv_topi (fun x59 ex59 => ?_)
              obtain rfl : x59 = iI ((dl gd i : Int)) := ex59.trans (dl_get hddi)
              refine wz_i2l hx hb d_W_takeAway_60 (by omega) (by omega) ?_
              refine wz_lmul hx hb d_W_takeAway_61 rfl ?_
              refine wz_lsub hx hb d_W_takeAway_62 rfl ?_
              refine lv_lload hx hb d_W_takeAway_63 (lv_at hl 1 rfl) ?_
              refine wz_ladd (z := S) hx hb d_W_takeAway_65 (hS.symm) ?_
              refine lv_lstore (lv' := [(9, .long (iL (S))), (8, .int (iI ((i : Int)))), (6, .long (iL (cy))), (5, .int (iI (((al + nd : Nat) : Int)))), (0, .ref (ad (t))), (1, .ref (ad (d))), (2, .long (iL (qz))), (4, .int (iI ((al : Int))))]) hx hb d_W_takeAway_66 hl (by decide) rfl (fun ls hl => ?_)
              refine lv_aload_n hx hb d_W_takeAway_68 rfl (lv_at hl 4 rfl) ?_
              refine pw_get (ci := 0) (C := R_W) (T := T_W) (N := 2) hx hb hq i_W hown hw (by omega) hO_t rfl 0 (by decide) (hq _ fl_W_17) (fun _ h9 => h9) rfl d_W_takeAway_69 ?_
              refine lv_iload hx hb d_W_takeAway_72 (lv_at hl 7 rfl) ?_
              refine lv_iload hx hb d_W_takeAway_74 (lv_at hl 1 rfl) ?_
              refine wz_iadd (z := ((al + i : Nat) : Int)) hx hb d_W_takeAway_76 (by omega) ?_
              refine lv_lload hx hb d_W_takeAway_77 (lv_at hl 0 rfl) ?_
              refine lv_ldc2 (v := iL (2147483647)) hx hb hown (hq _ cj_W_43) d_W_takeAway_79 ?_
              refine lv_land hx hb d_W_takeAway_82 ?_
              refine lv_topl (fun x82 ex82 => ?_)
              obtain rfl : x82 = iL (((S % 2147483648).toNat : Int)) := ex82.trans ((iL_m31 _).trans (congrArg iL (by omega)))
              refine wz_l2i hx hb d_W_takeAway_83 ?_
              refine pw_iast (k := al + i) hx hb hw 0 (by omega) hA_t rfl (iI_in (by omega) (by omega) (by omega)) ((iI_cl (by omega) (by omega)).trans (by omega)) d_W_takeAway_84 (fun F84 H locs eF84 hw => ?_)
              obtain ⟨gy, egy⟩ : ∃ z, z = upd gx (al + i) (iI (((S % 2147483648).toNat : Int))) := ⟨_, rfl⟩
              rw [← egy] at eF84
              have m84_t1 : F84 (t + 1) = .inl (ty 0, N, .inl (gy)) := by rw [eF84]; exact va_up_self ..
              have hO_t_at_84 : F84 (t) = .inr (0, [.ref (ad (t + 1)), .int (iI ((nt : Int)))]) := (show F84 (t) = F32 (t) from by rw [eF84]; exact va_up_ne _ _ (by omega)).trans hO_t
              have hO_d_at_84 : F84 (d) = .inr (0, [.ref (ad (d + 1)), .int (iI ((nd : Int)))]) := (show F84 (d) = F32 (d) from by rw [eF84]; exact va_up_ne _ _ (by omega)).trans hO_d
              have hA_d_at_84 : F84 (d + 1) = .inl (ty 0, Nd, .inl (gd)) := (show F84 (d + 1) = F32 (d + 1) from by rw [eF84]; exact va_up_ne _ _ (by omega)).trans hA_d
              have hdy : dl gy (al + i) = (S % 2147483648).toNat := by rw [egy]; exact dl_us (by omega)
              refine lv_lload hx hb d_W_takeAway_85 (lv_at hl 0 rfl) ?_
              refine wz_bipush (n := 31) hx hb d_W_takeAway_87 (by decide) ?_
              refine lv_lshr (v := iL (S / 2147483648)) hx hb d_W_takeAway_89 (iL_shr (k := 31) (by decide) (by omega) (by omega)) ?_
              refine lv_lstore (lv' := [(6, .long (iL (S / 2147483648))), (9, .long (iL (S))), (8, .int (iI ((i : Int)))), (5, .int (iI (((al + nd : Nat) : Int)))), (0, .ref (ad (t))), (1, .ref (ad (d))), (2, .long (iL (qz))), (4, .int (iI ((al : Int))))]) hx hb d_W_takeAway_90 hl (by decide) rfl (fun ls hl => ?_)
              refine wz_iinc (z := ((i + 1 : Nat) : Int)) (lv' := [(8, .int (iI (((i + 1 : Nat) : Int)))), (6, .long (iL (S / 2147483648))), (9, .long (iL (S))), (5, .int (iI (((al + nd : Nat) : Int)))), (0, .ref (ad (t))), (1, .ref (ad (d))), (2, .long (iL (qz))), (4, .int (iI ((al : Int))))]) hx hb d_W_takeAway_92 hl (k := 2) rfl (by omega) (by decide) rfl (fun ls hl => ?_)
              refine lv_goto (tgt := 32) hx hb d_W_takeAway_95 (by decide) ?_
              exact ih32 (i + 1) (S / 2147483648) gy _ _ _ ls (by omega) (by omega) (ta_step (dx := fun k => dl gx (al + k)) (dy := fun k => dl gy (al + k)) (dt := fun k => dl gt (al + k)) hinv hS (by show ((dl gy (al + i) : Nat) : Int) = _; rw [hdy]; omega) (fun k hk => by show dl gy (al + k) = dl gx (al + k); rw [egy]; exact dl_un (by omega))) (by omega) (fun k h1 => by
                rcases Nat.lt_or_ge k i with h2 | h2
                · rw [egy, dl_un (by omega)]; exact hdig k h2
                · rw [show k = i by omega, hdy]; omega) (fun k h1 => by rw [egy, pk_un (by omega)]; exact hsame k (by omega)) (fun y h1 => by rw [eF84, va_up_ne _ _ h1]; exact hfr y h1) hO_t_at_84 m84_t1 hO_d_at_84 hA_d_at_84 hw (lv_sub hl [0, 1, 3, 4, 5, 6, 7] rfl)
        exact K32 _ 0 0 gt _ _ _ ls (Nat.lt_succ_self _) (Nat.zero_le _) (by simp [bv_0]) (by omega) (fun k h1 => absurd h1 (by omega)) (fun _ _ => rfl) (fun _ _ => rfl) hO_t hA_t hO_d hA_d hw hl
      · exact absurd c21 (by omega)
  rw [hH, hlo] at hgo
  exact hgo
