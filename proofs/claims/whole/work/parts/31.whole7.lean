/-! Whole: takeAway, leaveRest: by program -/
set_option maxHeartbeats 4000000 in
set_option maxRecDepth 100000 in
/-- Whole.takeAway(divisor, digit, at) -/
theorem c_W_takeAway (l : Launch) (D : va_G) (ty : Nat → ClassId) (ad : Nat → Nat) (M : Nat) (F : Nat → va_E) (sz : Nat) (t d N Nd nt nd al : Nat) (qz : Int) (gt gd : Nat → Int32) (hMt : t + 1 < M) (hMd : d + 1 < M) (hN : N < 1000) (hNd : Nd < 1000) (htd : d ≠ t ∧ d ≠ t + 1 ∧ d + 1 ≠ t) (hal : al + nd < N) (hnd : nd ≤ Nd) (hdt : ∀ i, i < al + nd + 1 → dl gt i < 2147483648) (hdd : ∀ i, i < nd → dl gd i < 2147483648) (hqz : -1 ≤ qz ∧ qz < 2147483648) (hO_t : F (t) = .inr (0, [.ref (ad (t + 1)), .int (iI ((nt : Int)))])) (hA_t : F (t + 1) = .inl (ty 0, N, .inl (gt))) (hO_d : F (d) = .inr (0, [.ref (ad (d + 1)), .int (iI ((nd : Int)))])) (hA_d : F (d + 1) = .inl (ty 0, Nd, .inl (gd))) :
    CI l y_W_takeAway w_W_takeAway ({ frames := 0, cells := 0, slots := 0, locals := 0 } : Room) [.ref (ad (t)), .ref (ad (d)), .long (iL (qz)), .int (iI ((al : Int)))] D ty ad M F sz (fun r F1 => ∃ (g : Nat → Int32) (cy : Int), F1 (t + 1) = .inl (ty 0, N, .inl (g)) ∧ (∀ y, y ≠ t + 1 → F1 y = F y) ∧ (∀ k, k < al ∨ al + nd ≤ k → g k = gt k) ∧ (∀ k, k < nd → dl g (al + k) < 2147483648) ∧ (bv 2147483648 (fun k => dl g (al + k)) nd : Int) + cy * 2147483648 ^ nd = (bv 2147483648 (fun k => dl gt (al + k)) nd : Int) - qz * (bv 2147483648 (dl gd) nd : Int) ∧ r = iI (if (dl gt (al + nd) : Int) + cy < 0 then 1 else 0)) := by
  refine Met.ofW (cc := b_W_takeAway) (maxL := 11) (ret := (some .boolean)) (by decide) rfl ?_
  intro p e s m args below meth c s₁ B hml hv
  obtain ⟨rfl, hsz, hP, hK, hD0⟩ := hv
  have hx := B.exec
  have hb := B.bytes
  have hr := B.returns
  have hts := atoms_spec (ws := w_W_takeAway) B.pre
  have hq : ∀ w ∈ wT, w.before _ s = true := fun w h => hts w (List.mem_cons_of_mem _ h)
  have hown : s.vm.findClass R_W = some m.cls := findClass_of_methodNamed B.named
  have hlocks := B.notSynchronized
  subst hsz
  have hw := pw_start hP hK hD0
  have hl := lv_entry ([.ref (ad (t)), .ref (ad (d)), .long (iL (qz)), .int (iI ((al : Int)))]) (n := 11) (Nat.le_of_ble_eq_true rfl)
  rw [lg_entry_eq]
  generalize (lg_sl ([.ref (ad (t)), .ref (ad (d)), .long (iL (qz)), .int (iI ((al : Int)))]) ++ List.replicate (11 - (lg_sl ([.ref (ad (t)), .ref (ad (d)), .long (iL (qz)), .int (iI ((al : Int)))])).length) Slot.unset).toArray = ls at hl ⊢
  have hl : lv_has ls 11 [(0, .ref (ad (t))), (1, .ref (ad (d))), (2, .long (iL (qz))), (4, .int (iI ((al : Int))))] := hl
  change W p l e ({ frames := 0, cells := 0, slots := 0, locals := 0 } : Room) s m ([.ref (ad (t)), .ref (ad (d)), .long (iL (qz)), .int (iI ((al : Int)))]).toArray below meth c s.heap [] 0 0 (MQ below (va_Qi (fun r F1 => ∃ (g : Nat → Int32) (cy : Int), F1 (t + 1) = .inl (ty 0, N, .inl (g)) ∧ (∀ y, y ≠ t + 1 → F1 y = F y) ∧ (∀ k, k < al ∨ al + nd ≤ k → g k = gt k) ∧ (∀ k, k < nd → dl g (al + k) < 2147483648) ∧ (bv 2147483648 (fun k => dl g (al + k)) nd : Int) + cy * 2147483648 ^ nd = (bv 2147483648 (fun k => dl gt (al + k)) nd : Int) - qz * (bv 2147483648 (dl gd) nd : Int) ∧ r = iI (if (dl gt (al + nd) : Int) + cy < 0 then 1 else 0)) (pAt D classes (tysL ty) ad M (pA ad M s.heap.size)) (pA ad M s.heap.size)) ([.ref (ad (t)), .ref (ad (d)), .long (iL (qz)), .int (iI ((al : Int)))]).toArray s 0 0 (pA ad M s.heap.size)) (F0 m 0 ls [])
  generalize hQ : MQ below (va_Qi (fun r F1 => ∃ (g : Nat → Int32) (cy : Int), F1 (t + 1) = .inl (ty 0, N, .inl (g)) ∧ (∀ y, y ≠ t + 1 → F1 y = F y) ∧ (∀ k, k < al ∨ al + nd ≤ k → g k = gt k) ∧ (∀ k, k < nd → dl g (al + k) < 2147483648) ∧ (bv 2147483648 (fun k => dl g (al + k)) nd : Int) + cy * 2147483648 ^ nd = (bv 2147483648 (fun k => dl gt (al + k)) nd : Int) - qz * (bv 2147483648 (dl gd) nd : Int) ∧ r = iI (if (dl gt (al + nd) : Int) + cy < 0 then 1 else 0)) (pAt D classes (tysL ty) ad M (pA ad M s.heap.size)) (pA ad M s.heap.size)) ([.ref (ad (t)), .ref (ad (d)), .long (iL (qz)), .int (iI ((al : Int)))]).toArray s 0 0 (pA ad M s.heap.size) = Q
  obtain ⟨H, hH⟩ : ∃ H, H = s.heap := ⟨_, rfl⟩
  obtain ⟨locs, hlo⟩ : ∃ z : List Loc, z = [] := ⟨_, rfl⟩
  have hw : pw D classes (tysL ty) ad M F (pA ad M s.heap.size) s H locs := by rw [hH, hlo]; exact hw
  have hgo : W p l e ({ frames := 0, cells := 0, slots := 0, locals := 0 } : Room) s m ([.ref (ad (t)), .ref (ad (d)), .long (iL (qz)), .int (iI ((al : Int)))]).toArray below meth c H locs 0 0 Q (F0 m 0 ls []) := by
    refine lv_iload hx hb d_W_takeAway_0 (lv_at hl 3 rfl) ?_
    refine lv_aload_n hx hb d_W_takeAway_2 rfl (lv_at hl 1 rfl) ?_
    refine pw_get (ci := 0) (C := R_W) (T := T_W) (N := 2) hx hb hq i_W hown hw (by omega) hO_d rfl 1 (by decide) (hq _ fl_W_21) (fun _ h9 => h9) rfl d_W_takeAway_3 ?_
    refine wz_iadd (z := ((al + nd : Nat) : Int)) hx hb d_W_takeAway_6 (by omega) ?_
    refine lv_istore (lv' := [(5, .int (iI (((al + nd : Nat) : Int)))), (0, .ref (ad (t))), (1, .ref (ad (d))), (2, .long (iL (qz))), (4, .int (iI ((al : Int))))]) hx hb d_W_takeAway_7 hl (by decide) rfl (fun ls hl => ?_)
    refine lv_iload hx hb d_W_takeAway_9 (lv_at hl 4 rfl) ?_
    refine wz_if_lt (tgt := 24) hx hb d_W_takeAway_11 (by decide) (by omega) (by omega) (fun c11 => ?_) (fun c11 => ?_)
    · exact absurd c11 (by omega)
    · refine lv_iload hx hb d_W_takeAway_14 (lv_at hl 0 rfl) ?_
      refine lv_aload_n hx hb d_W_takeAway_16 rfl (lv_at hl 1 rfl) ?_
      refine pw_get (ci := 0) (C := R_W) (T := T_W) (N := 2) hx hb hq i_W hown hw (by omega) hO_t rfl 0 (by decide) (hq _ fl_W_17) (fun _ h9 => h9) rfl d_W_takeAway_17 ?_
      refine pw_alen (v := iI ((N : Nat) : Int)) hx hb hw 0 (by omega) hA_t rfl (iI_nat _).symm d_W_takeAway_20 ?_
      refine wz_icmp_lt (tgt := 26) hx hb d_W_takeAway_21 (by decide) (by omega) (by omega) (by omega) (by omega) (fun c21 => ?_) (fun c21 => ?_)
      · refine lv_lconst (v := iL 0) hx hb d_W_takeAway_26 (by decide) ?_
        refine lv_lstore (lv' := [(6, .long (iL (0))), (5, .int (iI (((al + nd : Nat) : Int)))), (0, .ref (ad (t))), (1, .ref (ad (d))), (2, .long (iL (qz))), (4, .int (iI ((al : Int))))]) hx hb d_W_takeAway_27 hl (by decide) rfl (fun ls hl => ?_)
        refine wz_iconst (n := 0) hx hb d_W_takeAway_29 ?_
        refine lv_istore (lv' := [(8, .int (iI (0))), (6, .long (iL (0))), (5, .int (iI (((al + nd : Nat) : Int)))), (0, .ref (ad (t))), (1, .ref (ad (d))), (2, .long (iL (qz))), (4, .int (iI ((al : Int))))]) hx hb d_W_takeAway_30 hl (by decide) rfl (fun ls hl => ?_)
        have K32 : ∀ (fuel : Nat) (i : Nat) (cy : Int) (gx : Nat → Int32) (F32 : Nat → va_E) (H : Heap) (locs : List Loc) (ls : Array Slot), nd - i < fuel → (i ≤ nd) → ((bv 2147483648 (fun k => dl gx (al + k)) i : Int) + cy * 2147483648 ^ i = (bv 2147483648 (fun k => dl gt (al + k)) i : Int) - qz * (bv 2147483648 (dl gd) i : Int)) → (-2147483648 < cy ∧ cy ≤ 1) → (∀ k, k < i → dl gx (al + k) < 2147483648) → (∀ k, k < al ∨ al + i ≤ k → gx k = gt k) → (∀ y, y ≠ t + 1 → F32 y = F y) → F32 (t) = .inr (0, [.ref (ad (t + 1)), .int (iI ((nt : Int)))]) → F32 (t + 1) = .inl (ty 0, N, .inl (gx)) → F32 (d) = .inr (0, [.ref (ad (d + 1)), .int (iI ((nd : Int)))]) → F32 (d + 1) = .inl (ty 0, Nd, .inl (gd)) → pw D classes (tysL ty) ad M F32 (pA ad M s.heap.size) s H locs → lv_has ls 11 [(8, .int (iI ((i : Int)))), (6, .long (iL (cy))), (5, .int (iI (((al + nd : Nat) : Int)))), (0, .ref (ad (t))), (1, .ref (ad (d))), (2, .long (iL (qz))), (4, .int (iI ((al : Int))))] → W p l e ({ frames := 0, cells := 0, slots := 0, locals := 0 } : Room) s m ([.ref (ad (t)), .ref (ad (d)), .long (iL (qz)), .int (iI ((al : Int)))]).toArray below meth c H locs 0 0 Q (F0 m 32 ls []) := by
          intro fuel
          induction fuel with
          | zero => intro i cy gx F32 H locs ls hfuel hi hinv hc hdig hsame hfr hO_t hA_t hO_d hA_d hw hl; exact absurd hfuel (Nat.not_lt_zero _)
          | succ fuel ih32 =>
            intro i cy gx F32 H locs ls hfuel hi hinv hc hdig hsame hfr hO_t hA_t hO_d hA_d hw hl
            refine lv_iload hx hb d_W_takeAway_32 (lv_at hl 0 rfl) ?_
            refine lv_aload_n hx hb d_W_takeAway_34 rfl (lv_at hl 4 rfl) ?_
            refine pw_get (ci := 0) (C := R_W) (T := T_W) (N := 2) hx hb hq i_W hown hw (by omega) hO_d rfl 1 (by decide) (hq _ fl_W_21) (fun _ h9 => h9) rfl d_W_takeAway_35 ?_
            refine wz_icmp_ge (tgt := 98) hx hb d_W_takeAway_38 (by decide) (by omega) (by omega) (by omega) (by omega) (fun c38 => ?_) (fun c38 => ?_)
            · have hin : nd = i := by omega
              subst hin
              have hdtn := hdt (al + nd) (by omega)
              refine lv_aload_n hx hb d_W_takeAway_98 rfl (lv_at hl 3 rfl) ?_
              refine pw_get (ci := 0) (C := R_W) (T := T_W) (N := 2) hx hb hq i_W hown hw (by omega) hO_t rfl 0 (by decide) (hq _ fl_W_17) (fun _ h9 => h9) rfl d_W_takeAway_99 ?_
              refine lv_iload hx hb d_W_takeAway_102 (lv_at hl 2 rfl) ?_
              refine pw_iald (k := al + nd) hx hb hw 0 (by omega) hA_t rfl (iI_in (by omega) (by omega) (by omega)) ((iI_cl (by omega) (by omega)).trans (by omega)) d_W_takeAway_104 ?_
              refine lv_topi (fun x104 ex104 => ?_)
              obtain rfl : x104 = iI ((dl gt (al + nd) : Int)) := ex104.trans ((hsame _ (Or.inr (Nat.le_refl _))).trans (dl_get hdtn))
              refine wz_i2l hx hb d_W_takeAway_105 (by omega) (by omega) ?_
              refine lv_lload hx hb d_W_takeAway_106 (lv_at hl 1 rfl) ?_
              refine wz_ladd hx hb d_W_takeAway_108 rfl ?_
              refine lv_lconst (v := iL 0) hx hb d_W_takeAway_109 (by decide) ?_
              refine wz_lcmp_ge (tgt := 118) hx hb d_W_takeAway_110 d_W_takeAway_111 (by decide) (by omega) (by omega) (by omega) (by omega) (fun c110 => ?_) (fun c110 => ?_)
              · refine wz_iconst (n := 0) hx hb d_W_takeAway_118 ?_
                rw [← hQ]
                exact pw_zret hx hb hr (by decide) hlocks hw (⟨gx, cy, hA_t, hfr, hsame, hdig, hinv, by congr 1; split <;> omega⟩) d_W_takeAway_119
              · refine wz_iconst (n := 1) hx hb d_W_takeAway_114 ?_
                refine lv_goto (tgt := 119) hx hb d_W_takeAway_115 (by decide) ?_
                rw [← hQ]
                exact pw_zret hx hb hr (by decide) hlocks hw (⟨gx, cy, hA_t, hfr, hsame, hdig, hinv, by congr 1; split <;> omega⟩) d_W_takeAway_119
            · have hdti := hdt (al + i) (by omega)
              have hddi := hdd i (by omega)
              obtain ⟨S, hS⟩ : ∃ S : Int, S = (dl gt (al + i) : Int) - qz * (dl gd i : Int) + cy := ⟨_, rfl⟩
              have hSb := ta_bound (x := dl gt (al + i)) (y := dl gd i) hqz (by omega) (by omega) hc
              rw [← hS] at hSb
              refine lv_aload_n hx hb d_W_takeAway_41 rfl (lv_at hl 3 rfl) ?_
              refine pw_get (ci := 0) (C := R_W) (T := T_W) (N := 2) hx hb hq i_W hown hw (by omega) hO_t rfl 0 (by decide) (hq _ fl_W_17) (fun _ h9 => h9) rfl d_W_takeAway_42 ?_
              refine lv_iload hx hb d_W_takeAway_45 (lv_at hl 6 rfl) ?_
              refine lv_iload hx hb d_W_takeAway_47 (lv_at hl 0 rfl) ?_
              refine wz_iadd (z := ((al + i : Nat) : Int)) hx hb d_W_takeAway_49 (by omega) ?_
              refine pw_iald (k := al + i) hx hb hw 0 (by omega) hA_t rfl (iI_in (by omega) (by omega) (by omega)) ((iI_cl (by omega) (by omega)).trans (by omega)) d_W_takeAway_50 ?_
              refine lv_topi (fun x50 ex50 => ?_)
              obtain rfl : x50 = iI ((dl gt (al + i) : Int)) := ex50.trans ((hsame _ (Or.inr (Nat.le_refl _))).trans (dl_get hdti))
              refine wz_i2l hx hb d_W_takeAway_51 (by omega) (by omega) ?_
              refine lv_lload_n hx hb d_W_takeAway_52 rfl (lv_at hl 5 rfl) ?_
              refine lv_aload_n hx hb d_W_takeAway_53 rfl (lv_at hl 4 rfl) ?_
              refine pw_get (ci := 0) (C := R_W) (T := T_W) (N := 2) hx hb hq i_W hown hw (by omega) hO_d rfl 0 (by decide) (hq _ fl_W_17) (fun _ h9 => h9) rfl d_W_takeAway_54 ?_
              refine lv_iload hx hb d_W_takeAway_57 (lv_at hl 0 rfl) ?_
              refine pw_iald (k := i) hx hb hw 0 (by omega) hA_d rfl (iI_in (by omega) (by omega) (by omega)) ((iI_cl (by omega) (by omega)).trans (by omega)) d_W_takeAway_59 ?_
              refine lv_topi (fun x59 ex59 => ?_)
              obtain rfl : x59 = iI ((dl gd i : Int)) := ex59.trans (dl_get hddi)
              refine wz_i2l hx hb d_W_takeAway_60 (by omega) (by omega) ?_
              refine wz_lmul hx hb d_W_takeAway_61 rfl ?_
              refine wz_lsub hx hb d_W_takeAway_62 rfl ?_
              refine lv_lload hx hb d_W_takeAway_63 (lv_at hl 1 rfl) ?_
              refine wz_ladd (z := S) hx hb d_W_takeAway_65 (hS.symm) ?_
              refine lv_lstore (lv' := [(9, .long (iL (S))), (8, .int (iI ((i : Int)))), (6, .long (iL (cy))), (5, .int (iI (((al + nd : Nat) : Int)))), (0, .ref (ad (t))), (1, .ref (ad (d))), (2, .long (iL (qz))), (4, .int (iI ((al : Int))))]) hx hb d_W_takeAway_66 hl (by decide) rfl (fun ls hl => ?_)
              refine lv_aload_n hx hb d_W_takeAway_68 rfl (lv_at hl 4 rfl) ?_
              refine pw_get (ci := 0) (C := R_W) (T := T_W) (N := 2) hx hb hq i_W hown hw (by omega) hO_t rfl 0 (by decide) (hq _ fl_W_17) (fun _ h9 => h9) rfl d_W_takeAway_69 ?_
              refine lv_iload hx hb d_W_takeAway_72 (lv_at hl 7 rfl) ?_
              refine lv_iload hx hb d_W_takeAway_74 (lv_at hl 1 rfl) ?_
              refine wz_iadd (z := ((al + i : Nat) : Int)) hx hb d_W_takeAway_76 (by omega) ?_
              refine lv_lload hx hb d_W_takeAway_77 (lv_at hl 0 rfl) ?_
              refine lv_ldc2 (v := iL (2147483647)) hx hb hown (hq _ cj_W_43) d_W_takeAway_79 ?_
              refine lv_land hx hb d_W_takeAway_82 ?_
              refine lv_topl (fun x82 ex82 => ?_)
              obtain rfl : x82 = iL (((S % 2147483648).toNat : Int)) := ex82.trans ((iL_m31 _).trans (congrArg iL (by omega)))
              refine wz_l2i hx hb d_W_takeAway_83 ?_
              refine pw_iast (k := al + i) hx hb hw 0 (by omega) hA_t rfl (iI_in (by omega) (by omega) (by omega)) ((iI_cl (by omega) (by omega)).trans (by omega)) d_W_takeAway_84 (fun F84 H locs eF84 hw => ?_)
              obtain ⟨gy, egy⟩ : ∃ z, z = upd gx (al + i) (iI (((S % 2147483648).toNat : Int))) := ⟨_, rfl⟩
              rw [← egy] at eF84
              have m84_t1 : F84 (t + 1) = .inl (ty 0, N, .inl (gy)) := by rw [eF84]; exact va_up_self ..
              have hO_t_at_84 : F84 (t) = .inr (0, [.ref (ad (t + 1)), .int (iI ((nt : Int)))]) := (show F84 (t) = F32 (t) from by rw [eF84]; exact va_up_ne _ _ (by omega)).trans hO_t
              have hO_d_at_84 : F84 (d) = .inr (0, [.ref (ad (d + 1)), .int (iI ((nd : Int)))]) := (show F84 (d) = F32 (d) from by rw [eF84]; exact va_up_ne _ _ (by omega)).trans hO_d
              have hA_d_at_84 : F84 (d + 1) = .inl (ty 0, Nd, .inl (gd)) := (show F84 (d + 1) = F32 (d + 1) from by rw [eF84]; exact va_up_ne _ _ (by omega)).trans hA_d
              have hdy : dl gy (al + i) = (S % 2147483648).toNat := by rw [egy]; exact dl_us (by omega)
              refine lv_lload hx hb d_W_takeAway_85 (lv_at hl 0 rfl) ?_
              refine wz_bipush (n := 31) hx hb d_W_takeAway_87 (by decide) ?_
              refine lv_lshr (v := iL (S / 2147483648)) hx hb d_W_takeAway_89 (iL_shr (k := 31) (by decide) (by omega) (by omega)) ?_
              refine lv_lstore (lv' := [(6, .long (iL (S / 2147483648))), (9, .long (iL (S))), (8, .int (iI ((i : Int)))), (5, .int (iI (((al + nd : Nat) : Int)))), (0, .ref (ad (t))), (1, .ref (ad (d))), (2, .long (iL (qz))), (4, .int (iI ((al : Int))))]) hx hb d_W_takeAway_90 hl (by decide) rfl (fun ls hl => ?_)
              refine wz_iinc (z := ((i + 1 : Nat) : Int)) (lv' := [(8, .int (iI (((i + 1 : Nat) : Int)))), (6, .long (iL (S / 2147483648))), (9, .long (iL (S))), (5, .int (iI (((al + nd : Nat) : Int)))), (0, .ref (ad (t))), (1, .ref (ad (d))), (2, .long (iL (qz))), (4, .int (iI ((al : Int))))]) hx hb d_W_takeAway_92 hl (k := 2) rfl (by omega) (by decide) rfl (fun ls hl => ?_)
              refine lv_goto (tgt := 32) hx hb d_W_takeAway_95 (by decide) ?_
              exact ih32 (i + 1) (S / 2147483648) gy _ _ _ ls (by omega) (by omega) (ta_step (dx := fun k => dl gx (al + k)) (dy := fun k => dl gy (al + k)) (dt := fun k => dl gt (al + k)) hinv hS (by show ((dl gy (al + i) : Nat) : Int) = _; rw [hdy]; omega) (fun k hk => by show dl gy (al + k) = dl gx (al + k); rw [egy]; exact dl_un (by omega))) (by omega) (fun k h1 => by
                rcases Nat.lt_or_ge k i with h2 | h2
                · rw [egy, dl_un (by omega)]; exact hdig k h2
                · rw [show k = i by omega, hdy]; omega) (fun k h1 => by rw [egy, pk_un (by omega)]; exact hsame k (by omega)) (fun y h1 => by rw [eF84, va_up_ne _ _ h1]; exact hfr y h1) hO_t_at_84 m84_t1 hO_d_at_84 hA_d_at_84 hw (lv_sub hl [0, 1, 3, 4, 5, 6, 7] rfl)
        exact K32 _ 0 0 gt _ _ _ ls (Nat.lt_succ_self _) (Nat.zero_le _) (by simp [bv_0]) (by omega) (fun k h1 => absurd h1 (by omega)) (fun _ _ => rfl) (fun _ _ => rfl) hO_t hA_t hO_d hA_d hw hl
      · exact absurd c21 (by omega)
  rw [hH, hlo] at hgo
  exact hgo
set_option maxHeartbeats 4000000 in
set_option maxRecDepth 100000 in
/-- Whole.leaveRest(divisor, quotient) -/
theorem c_W_leaveRest (l : Launch) (D : va_G) (ty : Nat → ClassId) (ad : Nat → Nat) (M : Nat) (F : Nat → va_E) (sz : Nat) (t d q N Nd Nq u v : Nat) (hMt : t + 1 < M) (hMd : d + 1 < M) (hMq : q + 1 < M) (hN : N < 1000) (hNd : Nd < 1000) (hNq : Nq < 1000) (htd : d ≠ t ∧ d ≠ t + 1 ∧ d + 1 ≠ t) (htq : q ≠ t ∧ q ≠ t + 1 ∧ q + 1 ≠ t) (hdq0 : d ≠ q ∧ d ≠ q + 1 ∧ d + 1 ≠ q) (hN0 : 0 < N) (hu1 : u < 2147483648 ^ (N - 1)) (hu2 : u < 2147483648 ^ Nq) (ht0 : Wv ty ad F t N u) (hd0 : Wv ty ad F d Nd v) (hq0 : Wa ty ad F q Nq) :
    CV l y_W_leaveRest w_W_leaveRest ({ frames := 3, cells := 0, slots := 0, locals := 82 } : Room) [.ref (ad (t)), .ref (ad (d)), .ref (ad (q))] D ty ad M F sz (fun F1 => Wv ty ad F1 t N (u % v) ∧ Wv ty ad F1 q Nq (u / v) ∧ ∀ y, y ≠ t → y ≠ t + 1 → y ≠ q → y ≠ q + 1 → F1 y = F y) := by
  refine Met.ofW (cc := b_W_leaveRest) (maxL := 7) (ret := none) (by decide) rfl ?_
  intro p e s m args below meth c s₁ B hml hv
  obtain ⟨rfl, hsz, hP, hK, hD0⟩ := hv
  have hx := B.exec
  have hb := B.bytes
  have hr := B.returns
  have hts := atoms_spec (ws := w_W_leaveRest) B.pre
  have hq : ∀ w ∈ wT, w.before _ s = true := fun w h => hts w (List.mem_cons_of_mem _ h)
  have hown : s.vm.findClass R_W = some m.cls := findClass_of_methodNamed B.named
  have hlocks := B.notSynchronized
  subst hsz
  have hw := pw_start hP hK hD0
  have hl := lv_entry ([.ref (ad (t)), .ref (ad (d)), .ref (ad (q))]) (n := 7) (Nat.le_of_ble_eq_true rfl)
  rw [lg_entry_eq]
  generalize (lg_sl ([.ref (ad (t)), .ref (ad (d)), .ref (ad (q))]) ++ List.replicate (7 - (lg_sl ([.ref (ad (t)), .ref (ad (d)), .ref (ad (q))])).length) Slot.unset).toArray = ls at hl ⊢
  have hl : lv_has ls 7 [(0, .ref (ad (t))), (1, .ref (ad (d))), (2, .ref (ad (q)))] := hl
  change W p l e ({ frames := 3, cells := 0, slots := 0, locals := 82 } : Room) s m ([.ref (ad (t)), .ref (ad (d)), .ref (ad (q))]).toArray below meth c s.heap [] 0 0 (MQ below (va_Qv (fun F1 => Wv ty ad F1 t N (u % v) ∧ Wv ty ad F1 q Nq (u / v) ∧ ∀ y, y ≠ t → y ≠ t + 1 → y ≠ q → y ≠ q + 1 → F1 y = F y) (pAt D classes (tysL ty) ad M (pA ad M s.heap.size)) (pA ad M s.heap.size)) ([.ref (ad (t)), .ref (ad (d)), .ref (ad (q))]).toArray s 0 0 (pA ad M s.heap.size)) (F0 m 0 ls [])
  generalize hQ : MQ below (va_Qv (fun F1 => Wv ty ad F1 t N (u % v) ∧ Wv ty ad F1 q Nq (u / v) ∧ ∀ y, y ≠ t → y ≠ t + 1 → y ≠ q → y ≠ q + 1 → F1 y = F y) (pAt D classes (tysL ty) ad M (pA ad M s.heap.size)) (pA ad M s.heap.size)) ([.ref (ad (t)), .ref (ad (d)), .ref (ad (q))]).toArray s 0 0 (pA ad M s.heap.size) = Q
  obtain ⟨H, hH⟩ : ∃ H, H = s.heap := ⟨_, rfl⟩
  obtain ⟨locs, hlo⟩ : ∃ z : List Loc, z = [] := ⟨_, rfl⟩
  have hw : pw D classes (tysL ty) ad M F (pA ad M s.heap.size) s H locs := by rw [hH, hlo]; exact hw
  have hgo : W p l e ({ frames := 3, cells := 0, slots := 0, locals := 82 } : Room) s m ([.ref (ad (t)), .ref (ad (d)), .ref (ad (q))]).toArray below meth c H locs 0 0 Q (F0 m 0 ls []) := by
    obtain ⟨nt, gt, ⟨hO_t, hA_t⟩, hoku⟩ := ht0
    obtain ⟨nd, gd, ⟨hO_d, hA_d⟩, hokd⟩ := hd0
    obtain ⟨nq, gq, hO_q, hA_q⟩ := hq0
    have hnt := hoku.1
    have hnd := hokd.1
    have hdd := hokd.2.1
    have hnN := hoku.fits hu1
    have hnQ := hoku.fits hu2
    refine lv_aload_n hx hb d_W_leaveRest_0 rfl (lv_at hl 0 rfl) ?_
    refine pw_get (ci := 0) (C := R_W) (T := T_W) (N := 2) hx hb hq i_W hown hw (by omega) hO_t rfl 1 (by decide) (hq _ fl_W_21) (fun _ h9 => h9) rfl d_W_leaveRest_1 ?_
    refine lv_aload_n hx hb d_W_leaveRest_4 rfl (lv_at hl 1 rfl) ?_
    refine pw_get (ci := 0) (C := R_W) (T := T_W) (N := 2) hx hb hq i_W hown hw (by omega) hO_d rfl 1 (by decide) (hq _ fl_W_21) (fun _ h9 => h9) rfl d_W_leaveRest_5 ?_
    refine wz_isub hx hb d_W_leaveRest_8 rfl ?_
    refine wz_iconst (n := 1) hx hb d_W_leaveRest_9 ?_
    refine wz_iadd hx hb d_W_leaveRest_10 rfl ?_
    refine lv_istore_n (lv' := [(3, .int (iI (((nt : Int) - (nd : Int)) + 1))), (0, .ref (ad (t))), (1, .ref (ad (d))), (2, .ref (ad (q)))]) hx hb d_W_leaveRest_11 rfl hl (by decide) rfl (fun ls hl => ?_)
    refine lv_aload_n hx hb d_W_leaveRest_12 rfl (lv_at hl 3 rfl) ?_
    refine wz_iconst (n := 0) hx hb d_W_leaveRest_13 ?_
    refine pw_put (ci := 0) (C := R_W) (T := T_W) (N := 2) (ty := .int) (fs' := [.ref (ad (q + 1)), .int (iI (0))]) hx hb hq i_W ft_W ft_W_ok n_W hown hw (by omega) hO_q rfl 1 (by decide) (hq _ fl_W_21) (fun _ h9 => h9) rfl (by decide +kernel) rfl rfl (Nat.le_of_ble_eq_true rfl) rfl d_W_leaveRest_14 (fun F14 H locs eF14 hw => ?_)
    have m14_q : F14 (q) = .inr (0, [.ref (ad (q + 1)), .int (iI (0))]) := by rw [eF14]; exact va_up_self ..
    have hO_t_at_14 : F14 (t) = .inr (0, [.ref (ad (t + 1)), .int (iI ((nt : Int)))]) := (show F14 (t) = F (t) from by rw [eF14]; exact va_up_ne _ _ (by omega)).trans hO_t
    have hA_t_at_14 : F14 (t + 1) = .inl (ty 0, N, .inl (gt)) := (show F14 (t + 1) = F (t + 1) from by rw [eF14]; exact va_up_ne _ _ (by omega)).trans hA_t
    have hO_d_at_14 : F14 (d) = .inr (0, [.ref (ad (d + 1)), .int (iI ((nd : Int)))]) := (show F14 (d) = F (d) from by rw [eF14]; exact va_up_ne _ _ (by omega)).trans hO_d
    have hA_d_at_14 : F14 (d + 1) = .inl (ty 0, Nd, .inl (gd)) := (show F14 (d + 1) = F (d + 1) from by rw [eF14]; exact va_up_ne _ _ (by omega)).trans hA_d
    have hA_q_at_14 : F14 (q + 1) = .inl (ty 0, Nq, .inl (gq)) := (show F14 (q + 1) = F (q + 1) from by rw [eF14]; exact va_up_ne _ _ (by omega)).trans hA_q
    refine lv_aload_n hx hb d_W_leaveRest_17 rfl (lv_at hl 2 rfl) ?_
    refine pw_get (ci := 0) (C := R_W) (T := T_W) (N := 2) hx hb hq i_W hown hw (by omega) hO_d_at_14 rfl 1 (by decide) (hq _ fl_W_21) (fun _ h9 => h9) rfl d_W_leaveRest_18 ?_
    refine wz_if_eq (tgt := 49) hx hb d_W_leaveRest_21 (by decide) (by omega) (by omega) (fun c21 => ?_) (fun c21 => ?_)
    · rw [← hQ]
      exact pw_vret hx hb hr hlocks hw (⟨⟨nt, gt, ⟨hO_t_at_14, hA_t_at_14⟩, by rw [(hokd.zero).mpr (by omega), Nat.mod_zero]; exact hoku⟩, ⟨0, gq, ⟨m14_q, hA_q_at_14⟩, Nat.zero_le _, fun i hi => absurd hi (by omega), Or.inl rfl, by rw [(hokd.zero).mpr (by omega), Nat.div_zero]; rfl⟩, fun y h1 h2 h3 h4 => by rw [eF14, va_up_ne _ _ h3]⟩) d_W_leaveRest_49
    · refine lv_iload_n hx hb d_W_leaveRest_24 rfl (lv_at hl 0 rfl) ?_
      refine wz_if_le (tgt := 49) hx hb d_W_leaveRest_25 (by decide) (by omega) (by omega) (fun c25 => ?_) (fun c25 => ?_)
      · rw [← hQ]
        exact pw_vret hx hb hr hlocks hw (⟨⟨nt, gt, ⟨hO_t_at_14, hA_t_at_14⟩, by rw [Nat.mod_eq_of_lt (hoku.cmpS hokd (by omega))]; exact hoku⟩, ⟨0, gq, ⟨m14_q, hA_q_at_14⟩, Nat.zero_le _, fun i hi => absurd hi (by omega), Or.inl rfl, by rw [Nat.div_eq_of_lt (hoku.cmpS hokd (by omega))]; rfl⟩, fun y h1 h2 h3 h4 => by rw [eF14, va_up_ne _ _ h3]⟩) d_W_leaveRest_49
      · refine lv_iload_n hx hb d_W_leaveRest_28 rfl (lv_at hl 0 rfl) ?_
        refine lv_aload_n hx hb d_W_leaveRest_29 rfl (lv_at hl 3 rfl) ?_
        refine pw_get (ci := 0) (C := R_W) (T := T_W) (N := 2) hx hb hq i_W hown hw (by omega) m14_q rfl 0 (by decide) (hq _ fl_W_17) (fun _ h9 => h9) rfl d_W_leaveRest_30 ?_
        refine pw_alen (v := iI ((Nq : Nat) : Int)) hx hb hw 0 (by omega) hA_q_at_14 rfl (iI_nat _).symm d_W_leaveRest_33 ?_
        refine wz_icmp_gt (tgt := 49) hx hb d_W_leaveRest_34 (by decide) (by omega) (by omega) (by omega) (by omega) (fun c34 => ?_) (fun c34 => ?_)
        · exact absurd c34 (by omega)
        · refine lv_aload_n hx hb d_W_leaveRest_37 rfl (lv_at hl 1 rfl) ?_
          refine pw_get (ci := 0) (C := R_W) (T := T_W) (N := 2) hx hb hq i_W hown hw (by omega) hO_t_at_14 rfl 1 (by decide) (hq _ fl_W_21) (fun _ h9 => h9) rfl d_W_leaveRest_38 ?_
          refine lv_aload_n hx hb d_W_leaveRest_41 rfl (lv_at hl 1 rfl) ?_
          refine pw_get (ci := 0) (C := R_W) (T := T_W) (N := 2) hx hb hq i_W hown hw (by omega) hO_t_at_14 rfl 0 (by decide) (hq _ fl_W_17) (fun _ h9 => h9) rfl d_W_leaveRest_42 ?_
          refine pw_alen (v := iI ((N : Nat) : Int)) hx hb hw 0 (by omega) hA_t_at_14 rfl (iI_nat _).symm d_W_leaveRest_45 ?_
          refine wz_icmp_lt (tgt := 50) hx hb d_W_leaveRest_46 (by decide) (by omega) (by omega) (by omega) (by omega) (fun c46 => ?_) (fun c46 => ?_)
          · have hnd0 : 0 < nd := by omega
            have e3 : (nt : Int) - (nd : Int) + 1 = ((nt - nd + 1 : Nat) : Int) := by omega
            rw [e3] at hl
            have hv0 : 0 < v := by
              have := hokd.zero
              omega
            have hv1e : bv 2147483648 (dl gt) nt = u := hoku.2.2.2
            have hvlt := hokd.lt
            refine lv_aload_n hx hb d_W_leaveRest_50 rfl (lv_at hl 1 rfl) ?_
            refine pw_get (ci := 0) (C := R_W) (T := T_W) (N := 2) hx hb hq i_W hown hw (by omega) hO_t_at_14 rfl 0 (by decide) (hq _ fl_W_17) (fun _ h9 => h9) rfl d_W_leaveRest_51 ?_
            refine lv_aload_n hx hb d_W_leaveRest_54 rfl (lv_at hl 1 rfl) ?_
            refine pw_get (ci := 0) (C := R_W) (T := T_W) (N := 2) hx hb hq i_W hown hw (by omega) hO_t_at_14 rfl 1 (by decide) (hq _ fl_W_21) (fun _ h9 => h9) rfl d_W_leaveRest_55 ?_
            refine wz_iconst (n := 0) hx hb d_W_leaveRest_58 ?_
            refine pw_iast (k := nt) hx hb hw 0 (by omega) hA_t_at_14 rfl (iI_in (by omega) (by omega) (by omega)) ((iI_cl (by omega) (by omega)).trans (by omega)) d_W_leaveRest_59 (fun F59 H locs eF59 hw => ?_)
            obtain ⟨g1, eg1⟩ : ∃ z, z = upd gt (nt) (iI (0)) := ⟨_, rfl⟩
            rw [← eg1] at eF59
            have m59_t1 : F59 (t + 1) = .inl (ty 0, N, .inl (g1)) := by rw [eF59]; exact va_up_self ..
            have hO_t_at_59 : F59 (t) = .inr (0, [.ref (ad (t + 1)), .int (iI ((nt : Int)))]) := (show F59 (t) = F14 (t) from by rw [eF59]; exact va_up_ne _ _ (by omega)).trans hO_t_at_14
            have hO_d_at_59 : F59 (d) = .inr (0, [.ref (ad (d + 1)), .int (iI ((nd : Int)))]) := (show F59 (d) = F14 (d) from by rw [eF59]; exact va_up_ne _ _ (by omega)).trans hO_d_at_14
            have hA_d_at_59 : F59 (d + 1) = .inl (ty 0, Nd, .inl (gd)) := (show F59 (d + 1) = F14 (d + 1) from by rw [eF59]; exact va_up_ne _ _ (by omega)).trans hA_d_at_14
            have hA_q_at_59 : F59 (q + 1) = .inl (ty 0, Nq, .inl (gq)) := (show F59 (q + 1) = F14 (q + 1) from by rw [eF59]; exact va_up_ne _ _ (by omega)).trans hA_q_at_14
            have m14_q_at_59 : F59 (q) = .inr (0, [.ref (ad (q + 1)), .int (iI (0))]) := (show F59 (q) = F14 (q) from by rw [eF59]; exact va_up_ne _ _ (by omega)).trans m14_q
            have hg1n : dl g1 nt = 0 := by rw [eg1]; exact dl_us (n := 0) (by omega)
            have hg1s : ∀ i, i < nt → dl g1 i = dl gt i := fun i hi => by rw [eg1]; exact dl_un (by omega)
            have hg1d : ∀ i, i < nt + 1 → dl g1 i < 2147483648 := fun i hi => by
              rcases Nat.lt_or_ge i nt with h2 | h2
              · rw [hg1s i h2]; exact hoku.2.1 i h2
              · rw [show i = nt by omega, hg1n]; decide
            have hsum : bv 2147483648 (dl g1) (nt - nd + 1 + nd) = bv 2147483648 (dl gt) nt := by rw [show nt - nd + 1 + nd = nt + 1 by omega, bv_s, hg1n, bv_congr hg1s]; simp
            refine lv_iload_n hx hb d_W_leaveRest_60 rfl (lv_at hl 0 rfl) ?_
            refine wz_iconst (n := 1) hx hb d_W_leaveRest_61 ?_
            refine wz_isub (z := ((nt - nd + 1 : Nat) : Int) - 1) hx hb d_W_leaveRest_62 (by omega) ?_
            refine lv_istore (lv' := [(4, .int (iI (((nt - nd + 1 : Nat) : Int) - 1))), (3, .int (iI (((nt - nd + 1 : Nat) : Int)))), (0, .ref (ad (t))), (1, .ref (ad (d))), (2, .ref (ad (q)))]) hx hb d_W_leaveRest_63 hl (by decide) rfl (fun ls hl => ?_)
            have K65 : ∀ (fuel : Nat) (k : Nat) (gx gq : Nat → Int32) (F65 : Nat → va_E) (H : Heap) (locs : List Loc) (ls : Array Slot), k < fuel → (k ≤ nt - nd + 1) → (bv 2147483648 (dl gx) (k + nd) < v * 2147483648 ^ k) → (bv 2147483648 (dl gx) (k + nd) + v * 2147483648 ^ k * bv 2147483648 (fun j => dl gq (k + j)) (nt - nd + 1 - k) = u) → (k + nd = nt + 1 → dl gx nt = 0) → (∀ i, i < nt + 1 → dl gx i < 2147483648) → (∀ j, k ≤ j → j < nt - nd + 1 → dl gq j < 2147483648) → (∀ y, y ≠ t → y ≠ t + 1 → y ≠ q → y ≠ q + 1 → F65 y = F y) → F65 (t) = .inr (0, [.ref (ad (t + 1)), .int (iI ((nt : Int)))]) → F65 (t + 1) = .inl (ty 0, N, .inl (gx)) → F65 (d) = .inr (0, [.ref (ad (d + 1)), .int (iI ((nd : Int)))]) → F65 (d + 1) = .inl (ty 0, Nd, .inl (gd)) → F65 (q) = .inr (0, [.ref (ad (q + 1)), .int (iI (0))]) → F65 (q + 1) = .inl (ty 0, Nq, .inl (gq)) → pw D classes (tysL ty) ad M F65 (pA ad M s.heap.size) s H locs → lv_has ls 7 [(4, .int (iI ((k : Int) - 1))), (3, .int (iI (((nt - nd + 1 : Nat) : Int)))), (0, .ref (ad (t))), (1, .ref (ad (d))), (2, .ref (ad (q)))] → W p l e ({ frames := 3, cells := 0, slots := 0, locals := 82 } : Room) s m ([.ref (ad (t)), .ref (ad (d)), .ref (ad (q))]).toArray below meth c H locs 0 0 Q (F0 m 65 ls []) := by
              intro fuel
              induction fuel with
              | zero => intro k gx gq F65 H locs ls hfuel hk hxk hu htop hdx hdq hfr hO_t hA_t hO_d hA_d hO_q hA_q hw hl; exact absurd hfuel (Nat.not_lt_zero _)
              | succ fuel ih65 =>
                intro k gx gq F65 H locs ls hfuel hk hxk hu htop hdx hdq hfr hO_t hA_t hO_d hA_d hO_q hA_q hw hl
                refine lv_iload hx hb d_W_leaveRest_65 (lv_at hl 0 rfl) ?_
                refine wz_if_lt (tgt := 124) hx hb d_W_leaveRest_67 (by decide) (by omega) (by omega) (fun c67 => ?_) (fun c67 => ?_)
                · have hk0 : k = 0 := by omega
                  subst hk0
                  rw [Nat.zero_add] at hxk hu
                  rw [Nat.pow_zero, Nat.mul_one] at hxk
                  rw [Nat.pow_zero, Nat.mul_one] at hu
                  have hu9 : bv 2147483648 (dl gx) nd + v * bv 2147483648 (dl gq) (nt - nd + 1) = u := by
                    rw [← hu]
                    congr 2
                    exact bv_congr (fun i _ => by show dl gq i = dl gq (0 + i); rw [Nat.zero_add])
                  have hmod : u % v = bv 2147483648 (dl gx) nd := by rw [← hu9, Nat.add_mul_mod_self_left, Nat.mod_eq_of_lt hxk]
                  have hdiv : u / v = bv 2147483648 (dl gq) (nt - nd + 1) := by rw [← hu9, Nat.add_mul_div_left _ _ hv0, Nat.div_eq_of_lt hxk, Nat.zero_add]
                  refine lv_aload_n hx hb d_W_leaveRest_124 rfl (lv_at hl 4 rfl) ?_
                  refine lv_iload_n hx hb d_W_leaveRest_125 rfl (lv_at hl 1 rfl) ?_
                  refine pw_callv hw (va_runV (As := [.int (iI (((nt - nd + 1 : Nat) : Int)))]) (rest := []) ⟨hx, hb, hml, hown, hq⟩ (c_W_trim l D ty ad M F65 H.size q Nq (nt - nd + 1) 0 gq hMq hNq (by omega) hO_q hA_q) (cwV 1 hq (gV ml_W_48 im_W_trim se_W_trim in_W m_W_trim) rfl rfl rfl (by decide +kernel) ⟨Nat.le_of_ble_eq_true rfl, Nat.le_of_ble_eq_true rfl⟩) (pw_preV hw (by omega) hO_q rfl) rfl rfl hl.1 rfl (lv_room (Nat.le_of_ble_eq_true rfl)) d_W_leaveRest_126 ⟨Nat.le_of_ble_eq_true rfl, Nat.le_of_ble_eq_true rfl⟩) (fun F126 H locs q126 hw => ?_)
                  obtain ⟨k1, hk1, hk2, hk3, eF126⟩ := q126
                  have m126_q : F126 (q) = .inr (0, [.ref (ad (q + 1)), .int (iI ((k1 : Int)))]) := by rw [eF126]; exact va_up_self ..
                  have hO_t_at_126 : F126 (t) = .inr (0, [.ref (ad (t + 1)), .int (iI ((nt : Int)))]) := (show F126 (t) = F65 (t) from by rw [eF126]; exact va_up_ne _ _ (by omega)).trans hO_t
                  have hA_t_at_126 : F126 (t + 1) = .inl (ty 0, N, .inl (gx)) := (show F126 (t + 1) = F65 (t + 1) from by rw [eF126]; exact va_up_ne _ _ (by omega)).trans hA_t
                  have hO_d_at_126 : F126 (d) = .inr (0, [.ref (ad (d + 1)), .int (iI ((nd : Int)))]) := (show F126 (d) = F65 (d) from by rw [eF126]; exact va_up_ne _ _ (by omega)).trans hO_d
                  have hA_d_at_126 : F126 (d + 1) = .inl (ty 0, Nd, .inl (gd)) := (show F126 (d + 1) = F65 (d + 1) from by rw [eF126]; exact va_up_ne _ _ (by omega)).trans hA_d
                  have hA_q_at_126 : F126 (q + 1) = .inl (ty 0, Nq, .inl (gq)) := (show F126 (q + 1) = F65 (q + 1) from by rw [eF126]; exact va_up_ne _ _ (by omega)).trans hA_q
                  refine lv_aload_n hx hb d_W_leaveRest_129 rfl (lv_at hl 2 rfl) ?_
                  refine lv_aload_n hx hb d_W_leaveRest_130 rfl (lv_at hl 3 rfl) ?_
                  refine pw_get (ci := 0) (C := R_W) (T := T_W) (N := 2) hx hb hq i_W hown hw (by omega) hO_d_at_126 rfl 1 (by decide) (hq _ fl_W_21) (fun _ h9 => h9) rfl d_W_leaveRest_131 ?_
                  refine pw_callv hw (va_runV (As := [.int (iI ((nd : Int)))]) (rest := []) ⟨hx, hb, hml, hown, hq⟩ (c_W_trim l D ty ad M F126 H.size t N nd nt gx hMt hN (by omega) hO_t_at_126 hA_t_at_126) (cwV 1 hq (gV ml_W_48 im_W_trim se_W_trim in_W m_W_trim) rfl rfl rfl (by decide +kernel) ⟨Nat.le_of_ble_eq_true rfl, Nat.le_of_ble_eq_true rfl⟩) (pw_preV hw (by omega) hO_t_at_126 rfl) rfl rfl hl.1 rfl (lv_room (Nat.le_of_ble_eq_true rfl)) d_W_leaveRest_134 ⟨Nat.le_of_ble_eq_true rfl, Nat.le_of_ble_eq_true rfl⟩) (fun F134 H locs q134 hw => ?_)
                  obtain ⟨k2, hj1, hj2, hj3, eF134⟩ := q134
                  have m134_t : F134 (t) = .inr (0, [.ref (ad (t + 1)), .int (iI ((k2 : Int)))]) := by rw [eF134]; exact va_up_self ..
                  have hA_t_at_134 : F134 (t + 1) = .inl (ty 0, N, .inl (gx)) := (show F134 (t + 1) = F126 (t + 1) from by rw [eF134]; exact va_up_ne _ _ (by omega)).trans hA_t_at_126
                  have hO_d_at_134 : F134 (d) = .inr (0, [.ref (ad (d + 1)), .int (iI ((nd : Int)))]) := (show F134 (d) = F126 (d) from by rw [eF134]; exact va_up_ne _ _ (by omega)).trans hO_d_at_126
                  have hA_d_at_134 : F134 (d + 1) = .inl (ty 0, Nd, .inl (gd)) := (show F134 (d + 1) = F126 (d + 1) from by rw [eF134]; exact va_up_ne _ _ (by omega)).trans hA_d_at_126
                  have hA_q_at_134 : F134 (q + 1) = .inl (ty 0, Nq, .inl (gq)) := (show F134 (q + 1) = F126 (q + 1) from by rw [eF134]; exact va_up_ne _ _ (by omega)).trans hA_q_at_126
                  have m126_q_at_134 : F134 (q) = .inr (0, [.ref (ad (q + 1)), .int (iI ((k1 : Int)))]) := (show F134 (q) = F126 (q) from by rw [eF134]; exact va_up_ne _ _ (by omega)).trans m126_q
                  rw [← hQ]
                  exact pw_vret hx hb hr hlocks hw (⟨⟨k2, gx, ⟨m134_t, hA_t_at_134⟩, by rw [hmod]; exact Wok.trim (by omega) hj1 (fun i hi => hdx i (by omega)) hj2 hj3⟩, ⟨k1, gq, ⟨m126_q_at_134, hA_q_at_134⟩, by rw [hdiv]; exact Wok.trim (by omega) hk1 (fun i hi => hdq i (Nat.zero_le _) hi) hk2 hk3⟩, fun y h1 h2 h3 h4 => by rw [eF134, va_up_ne _ _ h1, eF126, va_up_ne _ _ h3]; exact hfr y h1 h2 h3 h4⟩) d_W_leaveRest_137
                · have ek : (k : Int) - 1 = ((k - 1 : Nat) : Int) := by omega
                  rw [ek] at hl
                  have hX9 : bv 2147483648 (dl gx) nt % 2147483648 ^ (k - 1 + nd + 1) = bv 2147483648 (dl gx) (k + nd) := by rw [show k - 1 + nd + 1 = k + nd by omega]; exact lr_X hdx (by omega) htop
                  have K108 : ∀ (qd : Nat) (gz : Nat → Int32) (F108 : Nat → va_E) (H : Heap) (locs : List Loc) (ls : Array Slot), (qd ≤ 2147483647) → (bv 2147483648 (dl gz) (k - 1 + nd) + qd * (v * 2147483648 ^ (k - 1)) = bv 2147483648 (dl gx) (k + nd)) → (bv 2147483648 (dl gz) (k - 1 + nd) < v * 2147483648 ^ (k - 1)) → (∀ i, i < nt + 1 → dl gz i < 2147483648) → (∀ y, y ≠ t → y ≠ t + 1 → y ≠ q → y ≠ q + 1 → F108 y = F y) → F108 (t) = .inr (0, [.ref (ad (t + 1)), .int (iI ((nt : Int)))]) → F108 (t + 1) = .inl (ty 0, N, .inl (gz)) → F108 (d) = .inr (0, [.ref (ad (d + 1)), .int (iI ((nd : Int)))]) → F108 (d + 1) = .inl (ty 0, Nd, .inl (gd)) → F108 (q) = .inr (0, [.ref (ad (q + 1)), .int (iI (0))]) → F108 (q + 1) = .inl (ty 0, Nq, .inl (gq)) → pw D classes (tysL ty) ad M F108 (pA ad M s.heap.size) s H locs → lv_has ls 7 [(5, .long (iL ((qd : Int)))), (4, .int (iI (((k - 1 : Nat) : Int)))), (3, .int (iI (((nt - nd + 1 : Nat) : Int)))), (0, .ref (ad (t))), (1, .ref (ad (d))), (2, .ref (ad (q)))] → W p l e ({ frames := 3, cells := 0, slots := 0, locals := 82 } : Room) s m ([.ref (ad (t)), .ref (ad (d)), .ref (ad (q))]).toArray below meth c H locs 0 0 Q (F0 m 108 ls []) := by
                    intro qd gz F108 H locs ls hqd hz1 hz2 hdz hfr2 hO_t hA_t hO_d hA_d hO_q hA_q hw hl
                    refine lv_aload_n hx hb d_W_leaveRest_108 rfl (lv_at hl 5 rfl) ?_
                    refine pw_get (ci := 0) (C := R_W) (T := T_W) (N := 2) hx hb hq i_W hown hw (by omega) hO_q rfl 0 (by decide) (hq _ fl_W_17) (fun _ h9 => h9) rfl d_W_leaveRest_109 ?_
                    refine lv_iload hx hb d_W_leaveRest_112 (lv_at hl 1 rfl) ?_
                    refine lv_lload hx hb d_W_leaveRest_114 (lv_at hl 0 rfl) ?_
                    refine wz_l2i hx hb d_W_leaveRest_116 ?_
                    refine pw_iast (k := k - 1) hx hb hw 0 (by omega) hA_q rfl (iI_in (by omega) (by omega) (by omega)) ((iI_cl (by omega) (by omega)).trans (by omega)) d_W_leaveRest_117 (fun F117 H locs eF117 hw => ?_)
                    obtain ⟨gw, egw⟩ : ∃ z, z = upd gq (k - 1) (iI ((qd : Int))) := ⟨_, rfl⟩
                    rw [← egw] at eF117
                    have m117_q1 : F117 (q + 1) = .inl (ty 0, Nq, .inl (gw)) := by rw [eF117]; exact va_up_self ..
                    have hO_t_at_117 : F117 (t) = .inr (0, [.ref (ad (t + 1)), .int (iI ((nt : Int)))]) := (show F117 (t) = F108 (t) from by rw [eF117]; exact va_up_ne _ _ (by omega)).trans hO_t
                    have hA_t_at_117 : F117 (t + 1) = .inl (ty 0, N, .inl (gz)) := (show F117 (t + 1) = F108 (t + 1) from by rw [eF117]; exact va_up_ne _ _ (by omega)).trans hA_t
                    have hO_d_at_117 : F117 (d) = .inr (0, [.ref (ad (d + 1)), .int (iI ((nd : Int)))]) := (show F117 (d) = F108 (d) from by rw [eF117]; exact va_up_ne _ _ (by omega)).trans hO_d
                    have hA_d_at_117 : F117 (d + 1) = .inl (ty 0, Nd, .inl (gd)) := (show F117 (d + 1) = F108 (d + 1) from by rw [eF117]; exact va_up_ne _ _ (by omega)).trans hA_d
                    have hO_q_at_117 : F117 (q) = .inr (0, [.ref (ad (q + 1)), .int (iI (0))]) := (show F117 (q) = F108 (q) from by rw [eF117]; exact va_up_ne _ _ (by omega)).trans hO_q
                    have hdw : dl gw (k - 1) = qd := by rw [egw]; exact dl_us (by omega)
                    refine wz_iinc (z := ((k - 1 : Nat) : Int) - 1) (lv' := [(4, .int (iI (((k - 1 : Nat) : Int) - 1))), (5, .long (iL ((qd : Int)))), (3, .int (iI (((nt - nd + 1 : Nat) : Int)))), (0, .ref (ad (t))), (1, .ref (ad (d))), (2, .ref (ad (q)))]) hx hb d_W_leaveRest_118 hl (k := 1) rfl (by omega) (by decide) rfl (fun ls hl => ?_)
                    refine lv_goto (tgt := 65) hx hb d_W_leaveRest_121 (by decide) ?_
                    exact ih65 (k - 1) gz gw _ _ _ ls (by omega) (by omega) (hz2) (lr_Q (by omega) hk hz1 hu hdw (fun j h1 => by rw [egw]; exact dl_un (by omega))) (fun h9 => absurd h9 (by omega)) (hdz) (fun j h1 h2 => by
                      rcases Nat.lt_or_ge j k with h3 | h3
                      · rw [show j = k - 1 by omega, hdw]; omega
                      · rw [egw, dl_un (by omega)]; exact hdq j h3 h2) (fun y h1 h2 h3 h4 => by rw [eF117, va_up_ne _ _ h4]; exact hfr2 y h1 h2 h3 h4) hO_t_at_117 hA_t_at_117 hO_d_at_117 hA_d_at_117 hO_q_at_117 m117_q1 hw (lv_sub hl [0, 2, 3, 4, 5] rfl)
                  refine lv_aload_n hx hb d_W_leaveRest_70 rfl (lv_at hl 2 rfl) ?_
                  refine lv_aload_n hx hb d_W_leaveRest_71 rfl (lv_at hl 3 rfl) ?_
                  refine lv_iload hx hb d_W_leaveRest_72 (lv_at hl 0 rfl) ?_
                  refine pw_calll hw (va_runV (As := [.ref (ad (d)), .int (iI (((k - 1 : Nat) : Int)))]) (rest := []) ⟨hx, hb, hml, hown, hq⟩ (c_W_trialDigit l D ty ad M F65 H.size t d N Nd nt nd v (k - 1) gx gd hMt hMd hN hNd hnt (fun i hi => hdx i (by omega)) hokd hnd0 (by omega) (by rw [hX9, show k - 1 + 1 = k by omega]; exact hxk) hO_t hA_t hO_d hA_d) (cwV 2 hq (gV ml_W_58 im_W_trialDigit se_W_trialDigit in_W m_W_trialDigit) rfl rfl rfl (by decide +kernel) ⟨Nat.le_of_ble_eq_true rfl, Nat.le_of_ble_eq_true rfl⟩) (pw_preV hw (by omega) hO_t rfl) rfl rfl hl.1 rfl (lv_room (Nat.le_of_ble_eq_true rfl)) d_W_leaveRest_74 ⟨Nat.le_of_ble_eq_true rfl, Nat.le_of_ble_eq_true rfl⟩) (fun r74 F74 H locs q74 hw => ?_)
                  obtain ⟨⟨dg, er74, hg1, hg2, hg3⟩, eF74⟩ := q74
                  rw [eF74] at hw
                  clear eF74
                  subst er74
                  rw [hX9] at hg2 hg3
                  refine lv_lstore (lv' := [(5, .long (iL ((dg : Int)))), (4, .int (iI (((k - 1 : Nat) : Int)))), (3, .int (iI (((nt - nd + 1 : Nat) : Int)))), (0, .ref (ad (t))), (1, .ref (ad (d))), (2, .ref (ad (q)))]) hx hb d_W_leaveRest_77 hl (by decide) rfl (fun ls hl => ?_)
                  refine lv_aload_n hx hb d_W_leaveRest_79 rfl (lv_at hl 3 rfl) ?_
                  refine lv_aload_n hx hb d_W_leaveRest_80 rfl (lv_at hl 4 rfl) ?_
                  refine lv_lload hx hb d_W_leaveRest_81 (lv_at hl 0 rfl) ?_
                  refine lv_iload hx hb d_W_leaveRest_83 (lv_at hl 1 rfl) ?_
                  refine pw_calli hw (va_runV (As := [.ref (ad (d)), .long (iL ((dg : Int))), .int (iI (((k - 1 : Nat) : Int)))]) (rest := []) ⟨hx, hb, hml, hown, hq⟩ (c_W_takeAway l D ty ad M F65 H.size t d N Nd nt nd (k - 1) (dg : Int) gx gd hMt hMd hN hNd htd (by omega) hnd (fun i hi => hdx i (by omega)) hdd (by omega) hO_t hA_t hO_d hA_d) (cwV 3 hq (gV ml_W_62 im_W_takeAway se_W_takeAway in_W m_W_takeAway) rfl rfl rfl (by decide +kernel) ⟨Nat.le_of_ble_eq_true rfl, Nat.le_of_ble_eq_true rfl⟩) (pw_preV hw (by omega) hO_t rfl) rfl rfl hl.1 rfl (lv_room (Nat.le_of_ble_eq_true rfl)) d_W_leaveRest_85 ⟨Nat.le_of_ble_eq_true rfl, Nat.le_of_ble_eq_true rfl⟩) (fun r85 F85 H locs q85 hw => ?_)
                  obtain ⟨gy, cy, ha85, hf85, hsm, hdy2, hP, er85⟩ := q85
                  subst er85
                  have hdgy : ∀ i, i < nt + 1 → dl gy i < 2147483648 := fun i hi => by
                    by_cases h2 : i < k - 1 ∨ k - 1 + nd ≤ i
                    · show (gy i).toBitVec.toNat < _
                      rw [hsm i h2]; exact hdx i hi
                    · rw [show i = k - 1 + (i - (k - 1)) by omega]; exact hdy2 _ (by omega)
                  have hO_t_at_85 : F85 (t) = .inr (0, [.ref (ad (t + 1)), .int (iI ((nt : Int)))]) := (hf85 (t) (by omega)).trans hO_t
                  have hO_d_at_85 : F85 (d) = .inr (0, [.ref (ad (d + 1)), .int (iI ((nd : Int)))]) := (hf85 (d) (by omega)).trans hO_d
                  have hA_d_at_85 : F85 (d + 1) = .inl (ty 0, Nd, .inl (gd)) := (hf85 (d + 1) (by omega)).trans hA_d
                  have hO_q_at_85 : F85 (q) = .inr (0, [.ref (ad (q + 1)), .int (iI (0))]) := (hf85 (q) (by omega)).trans hO_q
                  have hA_q_at_85 : F85 (q + 1) = .inl (ty 0, Nq, .inl (gq)) := (hf85 (q + 1) (by omega)).trans hA_q
                  refine wz_if_eq (tgt := 108) hx hb d_W_leaveRest_88 (by decide) (by split <;> omega) (by split <;> omega) (fun c88 => ?_) (fun c88 => ?_)
                  · have hnn : 0 ≤ (dl gx (k - 1 + nd) : Int) + cy := by
                      apply Int.not_lt.mp
                      intro h9
                      rw [if_pos h9] at c88
                      omega
                    obtain ⟨hz1, hz2⟩ := lr_A (X := bv 2147483648 (dl gx) (k + nd)) (by rw [show k - 1 + nd + 1 = k + nd by omega]) (fun i hi => hdx i (by omega)) hokd.2.2.2 hv0 hvlt hg2 hg3 hsm hdy2 hP hnn
                    exact K108 dg gy _ _ _ ls (hg1) (hz1) (hz2) (hdgy) (fun y h1 h2 h3 h4 => by rw [hf85 y h2]; exact hfr y h1 h2 h3 h4) hO_t_at_85 ha85 hO_d_at_85 hA_d_at_85 hO_q_at_85 hA_q_at_85 hw hl
                  · have hnn : (dl gx (k - 1 + nd) : Int) + cy < 0 := by
                      apply Int.not_le.mp
                      intro h9
                      rw [if_neg (by omega)] at c88
                      omega
                    have hlrB := fun gz cy2 => lr_B (gz := gz) (cy2 := cy2) (X := bv 2147483648 (dl gx) (k + nd)) (by rw [show k - 1 + nd + 1 = k + nd by omega]) (fun i hi => hdx i (by omega)) hokd.2.2.2 hv0 hvlt hg2 hg3 hsm hdy2 hP hnn
                    have hdg1 := (hlrB gy 0).1
                    refine lv_lload hx hb d_W_leaveRest_91 (lv_at hl 0 rfl) ?_
                    refine lv_lconst (v := iL 1) hx hb d_W_leaveRest_93 (by decide) ?_
                    refine wz_lsub (z := ((dg - 1 : Nat) : Int)) hx hb d_W_leaveRest_94 (by omega) ?_
                    refine lv_lstore (lv' := [(5, .long (iL (((dg - 1 : Nat) : Int)))), (4, .int (iI (((k - 1 : Nat) : Int)))), (3, .int (iI (((nt - nd + 1 : Nat) : Int)))), (0, .ref (ad (t))), (1, .ref (ad (d))), (2, .ref (ad (q)))]) hx hb d_W_leaveRest_95 hl (by decide) rfl (fun ls hl => ?_)
                    refine lv_aload_n hx hb d_W_leaveRest_97 rfl (lv_at hl 3 rfl) ?_
                    refine lv_aload_n hx hb d_W_leaveRest_98 rfl (lv_at hl 4 rfl) ?_
                    refine lv_ldc2 (v := iL (-1)) hx hb hown (hq _ cj_W_66) d_W_leaveRest_99 ?_
                    refine lv_iload hx hb d_W_leaveRest_102 (lv_at hl 1 rfl) ?_
                    refine pw_calli hw (va_runV (As := [.ref (ad (d)), .long (iL (-1)), .int (iI (((k - 1 : Nat) : Int)))]) (rest := []) ⟨hx, hb, hml, hown, hq⟩ (c_W_takeAway l D ty ad M F85 H.size t d N Nd nt nd (k - 1) (-1) gy gd hMt hMd hN hNd htd (by omega) hnd (fun i hi => hdgy i (by omega)) hdd (by omega) hO_t_at_85 ha85 hO_d_at_85 hA_d_at_85) (cwV 3 hq (gV ml_W_62 im_W_takeAway se_W_takeAway in_W m_W_takeAway) rfl rfl rfl (by decide +kernel) ⟨Nat.le_of_ble_eq_true rfl, Nat.le_of_ble_eq_true rfl⟩) (pw_preV hw (by omega) hO_t_at_85 rfl) rfl rfl hl.1 rfl (lv_room (Nat.le_of_ble_eq_true rfl)) d_W_leaveRest_104 ⟨Nat.le_of_ble_eq_true rfl, Nat.le_of_ble_eq_true rfl⟩) (fun r104 F104 H locs q104 hw => ?_)
                    obtain ⟨gz, cy2, ha104, hf104, hsm2, hdz2, hP2, -⟩ := q104
                    obtain ⟨hz1, hz2⟩ := (hlrB gz cy2).2 hsm2 hdz2 hP2
                    have hdgz : ∀ i, i < nt + 1 → dl gz i < 2147483648 := fun i hi => by
                      by_cases h2 : i < k - 1 ∨ k - 1 + nd ≤ i
                      · show (gz i).toBitVec.toNat < _
                        rw [hsm2 i h2]; exact hdgy i hi
                      · rw [show i = k - 1 + (i - (k - 1)) by omega]; exact hdz2 _ (by omega)
                    have hO_t_at_104 : F104 (t) = .inr (0, [.ref (ad (t + 1)), .int (iI ((nt : Int)))]) := (hf104 (t) (by omega)).trans hO_t_at_85
                    have hO_d_at_104 : F104 (d) = .inr (0, [.ref (ad (d + 1)), .int (iI ((nd : Int)))]) := (hf104 (d) (by omega)).trans hO_d_at_85
                    have hA_d_at_104 : F104 (d + 1) = .inl (ty 0, Nd, .inl (gd)) := (hf104 (d + 1) (by omega)).trans hA_d_at_85
                    have hO_q_at_104 : F104 (q) = .inr (0, [.ref (ad (q + 1)), .int (iI (0))]) := (hf104 (q) (by omega)).trans hO_q_at_85
                    have hA_q_at_104 : F104 (q + 1) = .inl (ty 0, Nq, .inl (gq)) := (hf104 (q + 1) (by omega)).trans hA_q_at_85
                    refine lv_pop hx hb d_W_leaveRest_107 rfl ?_
                    exact K108 (dg - 1) gz _ _ _ ls (by omega) (hz1) (hz2) (hdgz) (fun y h1 h2 h3 h4 => by rw [hf104 y h2, hf85 y h2]; exact hfr y h1 h2 h3 h4) hO_t_at_104 ha104 hO_d_at_104 hA_d_at_104 hO_q_at_104 hA_q_at_104 hw hl
            exact K65 _ (nt - nd + 1) g1 gq _ _ _ ls (Nat.lt_succ_self _) (by omega) (by rw [hsum, hv1e]; exact lr_0 hoku hokd (by omega) (by omega)) (by rw [hsum, hv1e, Nat.sub_self, bv_0, Nat.mul_zero, Nat.add_zero]) (fun _ => hg1n) (hg1d) (fun j h1 h2 => absurd h2 (by omega)) (fun y h1 h2 h3 h4 => by rw [eF59, va_up_ne _ _ h2, eF14, va_up_ne _ _ h3]) hO_t_at_59 m59_t1 hO_d_at_59 hA_d_at_59 m14_q_at_59 hA_q_at_59 hw hl
          · exact absurd c46 (by omega)
  rw [hH, hlo] at hgo
  exact hgo
