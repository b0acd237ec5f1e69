/-! Whole: timesPlus, divideSmall, compare: by program -/
set_option maxHeartbeats 4000000 in
set_option maxRecDepth 100000 in
/-- Whole.timesPlus(fa, pl) -/
theorem c_W_timesPlus (l : Launch) (D : va_G) (ty : Nat → ClassId) (ad : Nat → Nat) (M : Nat) (F : Nat → va_E) (sz : Nat) (w N v fa pl : Nat) (hM : w + 1 < M) (hN : N < 1000) (h : Wv ty ad F w N v) (hf1 : 1 ≤ fa) (hf2 : fa < 2147483648) (hp2 : pl < 2147483648) (hfit : fa * v + pl < 2147483648 ^ N) :
    CV l y_W_timesPlus w_W_timesPlus ({ frames := 0, cells := 0, slots := 0, locals := 0 } : Room) [.ref (ad (w)), .int (iI ((fa : Int))), .int (iI ((pl : Int)))] D ty ad M F sz (fun F1 => Wv ty ad F1 w N (fa * v + pl) ∧ fr2 F F1 w) := by
  refine Met.ofW (cc := b_W_timesPlus) (maxL := 8) (ret := none) (by decide) rfl ?_
  intro p e s m args below meth c s₁ B hml hv
  obtain ⟨rfl, hsz, hP, hK, hD0⟩ := hv
  have hx := B.exec
  have hb := B.bytes
  have hr := B.returns
  have hts := atoms_spec (ws := w_W_timesPlus) B.pre
  have hq : ∀ w ∈ wT, w.before _ s = true := fun w h => hts w (List.mem_cons_of_mem _ h)
  have hown : s.vm.findClass R_W = some m.cls := findClass_of_methodNamed B.named
  have hlocks := B.notSynchronized
  subst hsz
  have hw := pw_start hP hK hD0
  have hl := lv_entry ([.ref (ad (w)), .int (iI ((fa : Int))), .int (iI ((pl : Int)))]) (n := 8) (Nat.le_of_ble_eq_true rfl)
  rw [lg_entry_eq]
  generalize (lg_sl ([.ref (ad (w)), .int (iI ((fa : Int))), .int (iI ((pl : Int)))]) ++ List.replicate (8 - (lg_sl ([.ref (ad (w)), .int (iI ((fa : Int))), .int (iI ((pl : Int)))])).length) Slot.unset).toArray = ls at hl ⊢
  have hl : lv_has ls 8 [(0, .ref (ad (w))), (1, .int (iI ((fa : Int)))), (2, .int (iI ((pl : Int))))] := hl
  change W p l e ({ frames := 0, cells := 0, slots := 0, locals := 0 } : Room) s m ([.ref (ad (w)), .int (iI ((fa : Int))), .int (iI ((pl : Int)))]).toArray below meth c s.heap [] 0 0 (MQ below (va_Qv (fun F1 => Wv ty ad F1 w N (fa * v + pl) ∧ fr2 F F1 w) (pAt D classes (tysL ty) ad M (pA ad M s.heap.size)) (pA ad M s.heap.size)) ([.ref (ad (w)), .int (iI ((fa : Int))), .int (iI ((pl : Int)))]).toArray s 0 0 (pA ad M s.heap.size)) (F0 m 0 ls [])
  generalize hQ : MQ below (va_Qv (fun F1 => Wv ty ad F1 w N (fa * v + pl) ∧ fr2 F F1 w) (pAt D classes (tysL ty) ad M (pA ad M s.heap.size)) (pA ad M s.heap.size)) ([.ref (ad (w)), .int (iI ((fa : Int))), .int (iI ((pl : Int)))]).toArray s 0 0 (pA ad M s.heap.size) = Q
  obtain ⟨H, hH⟩ : ∃ H, H = s.heap := ⟨_, rfl⟩
  obtain ⟨locs, hlo⟩ : ∃ z : List Loc, z = [] := ⟨_, rfl⟩
  have hw : pw D classes (tysL ty) ad M F (pA ad M s.heap.size) s H locs := by rw [hH, hlo]; exact hw
  have hgo : W p l e ({ frames := 0, cells := 0, slots := 0, locals := 0 } : Room) s m ([.ref (ad (w)), .int (iI ((fa : Int))), .int (iI ((pl : Int)))]).toArray below meth c H locs 0 0 Q (F0 m 0 ls []) := by
    obtain ⟨n, g, ⟨hO_w, hA_w⟩, hok⟩ := h
    have hn := hok.1
    have hd := hok.2.1
    refine lv_iload_n hx hb d_W_timesPlus_0 rfl (lv_at hl 2 rfl) ?_
    refine wz_i2l hx hb d_W_timesPlus_1 (by omega) (by omega) ?_
    refine lv_lstore_n (lv' := [(3, .long (iL ((pl : Int)))), (0, .ref (ad (w))), (1, .int (iI ((fa : Int)))), (2, .int (iI ((pl : Int))))]) hx hb d_W_timesPlus_2 rfl hl (by decide) rfl (fun ls hl => ?_)
    refine wz_iconst (n := 0) hx hb d_W_timesPlus_3 ?_
    refine lv_istore (lv' := [(5, .int (iI (0))), (3, .long (iL ((pl : Int)))), (0, .ref (ad (w))), (1, .int (iI ((fa : Int)))), (2, .int (iI ((pl : Int))))]) hx hb d_W_timesPlus_4 hl (by decide) rfl (fun ls hl => ?_)
    have K6 : ∀ (fuel : Nat) (i cy : Nat) (gx : Nat → Int32) (F6 : Nat → va_E) (H : Heap) (locs : List Loc) (ls : Array Slot), n - i < fuel → (i ≤ n) → (bv 2147483648 (dl gx) i + cy * 2147483648 ^ i = fa * bv 2147483648 (dl g) i + pl) → (∀ j, j < i → dl gx j < 2147483648) → (∀ j, i ≤ j → gx j = g j) → (cy < 2147483648) → (fr2 F F6 w) → F6 (w) = .inr (0, [.ref (ad (w + 1)), .int (iI ((n : Int)))]) → F6 (w + 1) = .inl (ty 0, N, .inl (gx)) → pw D classes (tysL ty) ad M F6 (pA ad M s.heap.size) s H locs → lv_has ls 8 [(3, .long (iL ((cy : Int)))), (5, .int (iI ((i : Int)))), (0, .ref (ad (w))), (1, .int (iI ((fa : Int)))), (2, .int (iI ((pl : Int))))] → W p l e ({ frames := 0, cells := 0, slots := 0, locals := 0 } : Room) s m ([.ref (ad (w)), .int (iI ((fa : Int))), .int (iI ((pl : Int)))]).toArray below meth c H locs 0 0 Q (F0 m 6 ls []) := by
      intro fuel
      induction fuel with
      | zero => intro i cy gx F6 H locs ls hfuel hi hinv hdig hsame hc hfr hO_w hA_w hw hl; exact absurd hfuel (Nat.not_lt_zero _)
      | succ fuel ih6 =>
        intro i cy gx F6 H locs ls hfuel hi hinv hdig hsame hc hfr hO_w hA_w hw hl
        refine lv_iload hx hb d_W_timesPlus_6 (lv_at hl 1 rfl) ?_
        refine lv_aload_n hx hb d_W_timesPlus_8 rfl (lv_at hl 2 rfl) ?_
        refine pw_get (ci := 0) (C := R_W) (T := T_W) (N := 2) hx hb hq i_W hown hw (by omega) hO_w rfl 1 (by decide) (hq _ fl_W_21) (fun _ h9 => h9) rfl d_W_timesPlus_9 ?_
        refine wz_icmp_ge (tgt := 56) hx hb d_W_timesPlus_12 (by decide) (by omega) (by omega) (by omega) (by omega) (fun c12 => ?_) (fun c12 => ?_)
        · have hin : n = i := by omega
          subst hin
          rw [hok.2.2.2] at hinv
          have hvn : 0 < n → 2147483648 ^ (n - 1) ≤ fa * v + pl := fun h0 => by
            have h1 := hok.ge h0
            have h2 : 1 * v ≤ fa * v := Nat.mul_le_mul_right _ hf1
            omega
          refine lv_lload_n hx hb d_W_timesPlus_56 rfl (lv_at hl 0 rfl) ?_
          refine lv_lconst (v := iL 0) hx hb d_W_timesPlus_57 (by decide) ?_
          refine wz_lcmp_eq (tgt := 95) hx hb d_W_timesPlus_58 d_W_timesPlus_59 (by decide) (by omega) (by omega) (by omega) (by omega) (fun c58 => ?_) (fun c58 => ?_)
          · rw [← hQ]
            exact pw_vret hx hb hr hlocks hw (⟨⟨n, gx, ⟨hO_w, hA_w⟩, by omega, hdig, top_ne hdig hvn (by rw [← hinv, show cy = 0 by omega]; simp), by rw [← hinv, show cy = 0 by omega]; simp⟩, hfr⟩) d_W_timesPlus_95
          · refine lv_aload_n hx hb d_W_timesPlus_62 rfl (lv_at hl 2 rfl) ?_
            refine pw_get (ci := 0) (C := R_W) (T := T_W) (N := 2) hx hb hq i_W hown hw (by omega) hO_w rfl 1 (by decide) (hq _ fl_W_21) (fun _ h9 => h9) rfl d_W_timesPlus_63 ?_
            refine lv_aload_n hx hb d_W_timesPlus_66 rfl (lv_at hl 2 rfl) ?_
            refine pw_get (ci := 0) (C := R_W) (T := T_W) (N := 2) hx hb hq i_W hown hw (by omega) hO_w rfl 0 (by decide) (hq _ fl_W_17) (fun _ h9 => h9) rfl d_W_timesPlus_67 ?_
            refine pw_alen (v := iI ((N : Nat) : Int)) hx hb hw 0 (by omega) hA_w rfl (iI_nat _).symm d_W_timesPlus_70 ?_
            refine wz_icmp_ge (tgt := 95) hx hb d_W_timesPlus_71 (by decide) (by omega) (by omega) (by omega) (by omega) (fun c71 => ?_) (fun c71 => ?_)
            · exact absurd hfit (by
                have hNi : N = n := by omega
                have h1 : 1 * 2147483648 ^ n ≤ cy * 2147483648 ^ n := Nat.mul_le_mul_right _ (by omega)
                rw [hNi]; omega)
            · refine lv_aload_n hx hb d_W_timesPlus_74 rfl (lv_at hl 2 rfl) ?_
              refine pw_get (ci := 0) (C := R_W) (T := T_W) (N := 2) hx hb hq i_W hown hw (by omega) hO_w rfl 0 (by decide) (hq _ fl_W_17) (fun _ h9 => h9) rfl d_W_timesPlus_75 ?_
              refine lv_aload_n hx hb d_W_timesPlus_78 rfl (lv_at hl 2 rfl) ?_
              refine pw_get (ci := 0) (C := R_W) (T := T_W) (N := 2) hx hb hq i_W hown hw (by omega) hO_w rfl 1 (by decide) (hq _ fl_W_21) (fun _ h9 => h9) rfl d_W_timesPlus_79 ?_
              refine lv_lload_n hx hb d_W_timesPlus_82 rfl (lv_at hl 0 rfl) ?_
              refine wz_l2i hx hb d_W_timesPlus_83 ?_
              refine pw_iast (k := n) hx hb hw 0 (by omega) hA_w rfl (iI_in (by omega) (by omega) (by omega)) ((iI_cl (by omega) (by omega)).trans (by omega)) d_W_timesPlus_84 (fun F84 H locs eF84 hw => ?_)
              obtain ⟨gz, egz⟩ : ∃ z, z = upd gx (n) (iI ((cy : Int))) := ⟨_, rfl⟩
              rw [← egz] at eF84
              have m84_w1 : F84 (w + 1) = .inl (ty 0, N, .inl (gz)) := by rw [eF84]; exact va_up_self ..
              have hO_w_at_84 : F84 (w) = .inr (0, [.ref (ad (w + 1)), .int (iI ((n : Int)))]) := (show F84 (w) = F6 (w) from by rw [eF84]; exact va_up_ne _ _ (by omega)).trans hO_w
              refine lv_aload_n hx hb d_W_timesPlus_85 rfl (lv_at hl 2 rfl) ?_
              refine lv_dup hx hb d_W_timesPlus_86 rfl ?_
              refine pw_get (ci := 0) (C := R_W) (T := T_W) (N := 2) hx hb hq i_W hown hw (by omega) hO_w_at_84 rfl 1 (by decide) (hq _ fl_W_21) (fun _ h9 => h9) rfl d_W_timesPlus_87 ?_
              refine wz_iconst (n := 1) hx hb d_W_timesPlus_90 ?_
              refine wz_iadd (z := ((n + 1 : Nat) : Int)) hx hb d_W_timesPlus_91 (by omega) ?_
              refine pw_put (ci := 0) (C := R_W) (T := T_W) (N := 2) (ty := .int) (fs' := [.ref (ad (w + 1)), .int (iI (((n + 1 : Nat) : Int)))]) hx hb hq i_W ft_W ft_W_ok n_W hown hw (by omega) hO_w_at_84 rfl 1 (by decide) (hq _ fl_W_21) (fun _ h9 => h9) rfl (by decide +kernel) rfl rfl (Nat.le_of_ble_eq_true rfl) rfl d_W_timesPlus_92 (fun F92 H locs eF92 hw => ?_)
              have m92_w : F92 (w) = .inr (0, [.ref (ad (w + 1)), .int (iI (((n + 1 : Nat) : Int)))]) := by rw [eF92]; exact va_up_self ..
              have m84_w1_at_92 : F92 (w + 1) = .inl (ty 0, N, .inl (gz)) := (show F92 (w + 1) = F84 (w + 1) from by rw [eF92]; exact va_up_ne _ _ (by omega)).trans m84_w1
              rw [← hQ]
              exact pw_vret hx hb hr hlocks hw (⟨⟨n + 1, gz, ⟨m92_w, m84_w1_at_92⟩, by omega, fun j hj => by
                rcases Nat.lt_or_ge j n with h2 | h2
                · rw [egz, dl_un (by omega)]; exact hdig j h2
                · rw [show j = n by omega, egz, dl_us (by omega)]; exact hc, Or.inr (by rw [Nat.add_sub_cancel, egz, dl_us (by omega)]; omega), by rw [bv_s, egz, dl_us (by omega), ← hinv]; congr 1; exact bv_congr (fun j hj => dl_un (by omega))⟩, fun y h1 h2 => by rw [eF92, va_up_ne _ _ h1, eF84, va_up_ne _ _ h2]; exact hfr y h1 h2⟩) d_W_timesPlus_95
        · have hdi := hd i (by omega)
          have hm1 : fa * dl g i ≤ 2147483647 * 2147483647 := Nat.mul_le_mul (by omega) (by omega)
          refine lv_iload_n hx hb d_W_timesPlus_15 rfl (lv_at hl 3 rfl) ?_
          refine wz_i2l hx hb d_W_timesPlus_16 (by omega) (by omega) ?_
          refine lv_aload_n hx hb d_W_timesPlus_17 rfl (lv_at hl 2 rfl) ?_
          refine pw_get (ci := 0) (C := R_W) (T := T_W) (N := 2) hx hb hq i_W hown hw (by omega) hO_w rfl 0 (by decide) (hq _ fl_W_17) (fun _ h9 => h9) rfl d_W_timesPlus_18 ?_
          refine lv_iload hx hb d_W_timesPlus_21 (lv_at hl 1 rfl) ?_
          refine pw_iald (k := i) hx hb hw 0 (by omega) hA_w rfl (iI_in (by omega) (by omega) (by omega)) ((iI_cl (by omega) (by omega)).trans (by omega)) d_W_timesPlus_23 ?_
          refine lv_topi (fun x23 ex23 => ?_)
          obtain rfl : x23 = iI ((dl g i : Int)) := ex23.trans ((hsame i (Nat.le_refl _)).trans (dl_get (hd i (by omega))))
          refine wz_i2l hx hb d_W_timesPlus_24 (by omega) (by omega) ?_
          refine wz_lmul (z := ((fa * dl g i : Nat) : Int)) hx hb d_W_timesPlus_25 ((Int.natCast_mul _ _).symm) ?_
          refine lv_lload_n hx hb d_W_timesPlus_26 rfl (lv_at hl 0 rfl) ?_
          refine wz_ladd (z := ((fa * dl g i + cy : Nat) : Int)) hx hb d_W_timesPlus_27 (rfl) ?_
          refine lv_lstore (lv' := [(6, .long (iL (((fa * dl g i + cy : Nat) : Int)))), (3, .long (iL ((cy : Int)))), (5, .int (iI ((i : Int)))), (0, .ref (ad (w))), (1, .int (iI ((fa : Int)))), (2, .int (iI ((pl : Int))))]) hx hb d_W_timesPlus_28 hl (by decide) rfl (fun ls hl => ?_)
          refine lv_aload_n hx hb d_W_timesPlus_30 rfl (lv_at hl 3 rfl) ?_
          refine pw_get (ci := 0) (C := R_W) (T := T_W) (N := 2) hx hb hq i_W hown hw (by omega) hO_w rfl 0 (by decide) (hq _ fl_W_17) (fun _ h9 => h9) rfl d_W_timesPlus_31 ?_
          refine lv_iload hx hb d_W_timesPlus_34 (lv_at hl 2 rfl) ?_
          refine lv_lload hx hb d_W_timesPlus_36 (lv_at hl 0 rfl) ?_
          refine lv_ldc2 (v := iL (2147483647)) hx hb hown (hq _ cj_W_43) d_W_timesPlus_38 ?_
          refine lv_land hx hb d_W_timesPlus_41 ?_
          refine lv_topl (fun x41 ex41 => ?_)
          obtain rfl : x41 = iL ((((fa * dl g i + cy) % 2147483648 : Nat) : Int)) := ex41.trans (iL_m31 _)
          refine wz_l2i hx hb d_W_timesPlus_42 ?_
          refine pw_iast (k := i) hx hb hw 0 (by omega) hA_w rfl (iI_in (by omega) (by omega) (by omega)) ((iI_cl (by omega) (by omega)).trans (by omega)) d_W_timesPlus_43 (fun F43 H locs eF43 hw => ?_)
          obtain ⟨gy, egy⟩ : ∃ z, z = upd gx (i) (iI ((((fa * dl g i + cy) % 2147483648 : Nat) : Int))) := ⟨_, rfl⟩
          rw [← egy] at eF43
          have m43_w1 : F43 (w + 1) = .inl (ty 0, N, .inl (gy)) := by rw [eF43]; exact va_up_self ..
          have hO_w_at_43 : F43 (w) = .inr (0, [.ref (ad (w + 1)), .int (iI ((n : Int)))]) := (show F43 (w) = F6 (w) from by rw [eF43]; exact va_up_ne _ _ (by omega)).trans hO_w
          have hdy : dl gy i = (fa * dl g i + cy) % 2147483648 := by rw [egy]; exact dl_us (by omega)
          have hgy2 : ∀ j, j < i → dl gy j = dl gx j := fun j hj => by rw [egy]; exact dl_un (by omega)
          have hgy : bv 2147483648 (dl gy) i = bv 2147483648 (dl gx) i := bv_congr hgy2
          refine lv_lload hx hb d_W_timesPlus_44 (lv_at hl 0 rfl) ?_
          refine wz_bipush (n := 31) hx hb d_W_timesPlus_46 (by decide) ?_
          refine lv_lushr (v := iL ((((fa * dl g i + cy) / 2147483648 : Nat) : Int))) hx hb d_W_timesPlus_48 (iL_ushr (k := 31) (by decide) (by omega)) ?_
          refine lv_lstore_n (lv' := [(3, .long (iL ((((fa * dl g i + cy) / 2147483648 : Nat) : Int)))), (6, .long (iL (((fa * dl g i + cy : Nat) : Int)))), (5, .int (iI ((i : Int)))), (0, .ref (ad (w))), (1, .int (iI ((fa : Int)))), (2, .int (iI ((pl : Int))))]) hx hb d_W_timesPlus_49 rfl hl (by decide) rfl (fun ls hl => ?_)
          refine wz_iinc (z := ((i + 1 : Nat) : Int)) (lv' := [(5, .int (iI (((i + 1 : Nat) : Int)))), (3, .long (iL ((((fa * dl g i + cy) / 2147483648 : Nat) : Int)))), (6, .long (iL (((fa * dl g i + cy : Nat) : Int)))), (0, .ref (ad (w))), (1, .int (iI ((fa : Int)))), (2, .int (iI ((pl : Int))))]) hx hb d_W_timesPlus_50 hl (k := 2) rfl (by omega) (by decide) rfl (fun ls hl => ?_)
          refine lv_goto (tgt := 6) hx hb d_W_timesPlus_53 (by decide) ?_
          exact ih6 (i + 1) ((fa * dl g i + cy) / 2147483648) gy _ _ _ ls (by omega) (by omega) (by rw [bv_s, bv_s, hgy]; exact tp_step hinv hdy) (fun j h1 => by
            rcases Nat.lt_or_ge j i with h2 | h2
            · rw [hgy2 j h2]; exact hdig j h2
            · rw [show j = i by omega, hdy]; exact Nat.mod_lt _ (by decide)) (fun j h1 => by rw [egy, pk_un (by omega)]; exact hsame j (by omega)) (Nat.div_lt_of_lt_mul (by omega)) (fun y h1 h2 => by rw [eF43, va_up_ne _ _ h2]; exact hfr y h1 h2) hO_w_at_43 m43_w1 hw (lv_sub hl [1, 0, 3, 4, 5] rfl)
    exact K6 _ 0 pl g _ _ _ ls (Nat.lt_succ_self _) (Nat.zero_le _) (by simp [bv_0]) (fun j h1 => absurd h1 (by omega)) (fun _ _ => rfl) (by omega) (fun _ _ _ => rfl) hO_w hA_w hw (lv_sub hl [1, 0, 2, 3, 4] rfl)
  rw [hH, hlo] at hgo
  exact hgo
set_option maxHeartbeats 4000000 in
set_option maxRecDepth 100000 in
/-- Whole.divideSmall(dv) -/
theorem c_W_divideSmall (l : Launch) (D : va_G) (ty : Nat → ClassId) (ad : Nat → Nat) (M : Nat) (F : Nat → va_E) (sz : Nat) (w N v dv : Nat) (hM : w + 1 < M) (hN : N < 1000) (h : Wv ty ad F w N v) (hdv0 : 0 < dv) (hdv : dv < 2147483648) :
    CI l y_W_divideSmall w_W_divideSmall ({ frames := 2, cells := 0, slots := 0, locals := 46 } : Room) [.ref (ad (w)), .int (iI ((dv : Int)))] D ty ad M F sz (fun r F1 => r = iI ((v % dv : Nat) : Int) ∧ Wv ty ad F1 w N (v / dv) ∧ fr2 F F1 w) := by
  refine Met.ofW (cc := b_W_divideSmall) (maxL := 7) (ret := (some .int)) (by decide) rfl ?_
  intro p e s m args below meth c s₁ B hml hv
  obtain ⟨rfl, hsz, hP, hK, hD0⟩ := hv
  have hx := B.exec
  have hb := B.bytes
  have hr := B.returns
  have hts := atoms_spec (ws := w_W_divideSmall) B.pre
  have hq : ∀ w ∈ wT, w.before _ s = true := fun w h => hts w (List.mem_cons_of_mem _ h)
  have hown : s.vm.findClass R_W = some m.cls := findClass_of_methodNamed B.named
  have hlocks := B.notSynchronized
  subst hsz
  have hw := pw_start hP hK hD0
  have hl := lv_entry ([.ref (ad (w)), .int (iI ((dv : Int)))]) (n := 7) (Nat.le_of_ble_eq_true rfl)
  rw [lg_entry_eq]
  generalize (lg_sl ([.ref (ad (w)), .int (iI ((dv : Int)))]) ++ List.replicate (7 - (lg_sl ([.ref (ad (w)), .int (iI ((dv : Int)))])).length) Slot.unset).toArray = ls at hl ⊢
  have hl : lv_has ls 7 [(0, .ref (ad (w))), (1, .int (iI ((dv : Int))))] := hl
  change W p l e ({ frames := 2, cells := 0, slots := 0, locals := 46 } : Room) s m ([.ref (ad (w)), .int (iI ((dv : Int)))]).toArray below meth c s.heap [] 0 0 (MQ below (va_Qi (fun r F1 => r = iI ((v % dv : Nat) : Int) ∧ Wv ty ad F1 w N (v / dv) ∧ fr2 F F1 w) (pAt D classes (tysL ty) ad M (pA ad M s.heap.size)) (pA ad M s.heap.size)) ([.ref (ad (w)), .int (iI ((dv : Int)))]).toArray s 0 0 (pA ad M s.heap.size)) (F0 m 0 ls [])
  generalize hQ : MQ below (va_Qi (fun r F1 => r = iI ((v % dv : Nat) : Int) ∧ Wv ty ad F1 w N (v / dv) ∧ fr2 F F1 w) (pAt D classes (tysL ty) ad M (pA ad M s.heap.size)) (pA ad M s.heap.size)) ([.ref (ad (w)), .int (iI ((dv : Int)))]).toArray s 0 0 (pA ad M s.heap.size) = Q
  obtain ⟨H, hH⟩ : ∃ H, H = s.heap := ⟨_, rfl⟩
  obtain ⟨locs, hlo⟩ : ∃ z : List Loc, z = [] := ⟨_, rfl⟩
  have hw : pw D classes (tysL ty) ad M F (pA ad M s.heap.size) s H locs := by rw [hH, hlo]; exact hw
  have hgo : W p l e ({ frames := 2, cells := 0, slots := 0, locals := 46 } : Room) s m ([.ref (ad (w)), .int (iI ((dv : Int)))]).toArray below meth c H locs 0 0 Q (F0 m 0 ls []) := by
    obtain ⟨n, g, ⟨hO_w, hA_w⟩, hok⟩ := h
    have hn := hok.1
    have hd := hok.2.1
    refine lv_iload_n hx hb d_W_divideSmall_0 rfl (lv_at hl 1 rfl) ?_
    refine wz_if_gt (tgt := 6) hx hb d_W_divideSmall_1 (by decide) (by omega) (by omega) (fun c1 => ?_) (fun c1 => ?_)
    · refine lv_lconst (v := iL 0) hx hb d_W_divideSmall_6 (by decide) ?_
      refine lv_lstore_n (lv' := [(2, .long (iL (0))), (0, .ref (ad (w))), (1, .int (iI ((dv : Int))))]) hx hb d_W_divideSmall_7 rfl hl (by decide) rfl (fun ls hl => ?_)
      refine lv_aload_n hx hb d_W_divideSmall_8 rfl (lv_at hl 1 rfl) ?_
      refine pw_get (ci := 0) (C := R_W) (T := T_W) (N := 2) hx hb hq i_W hown hw (by omega) hO_w rfl 1 (by decide) (hq _ fl_W_21) (fun _ h9 => h9) rfl d_W_divideSmall_9 ?_
      refine wz_iconst (n := 1) hx hb d_W_divideSmall_12 ?_
      refine wz_isub hx hb d_W_divideSmall_13 rfl ?_
      refine lv_istore (lv' := [(4, .int (iI ((n : Int) - 1))), (2, .long (iL (0))), (0, .ref (ad (w))), (1, .int (iI ((dv : Int))))]) hx hb d_W_divideSmall_14 hl (by decide) rfl (fun ls hl => ?_)
      have K16 : ∀ (fuel : Nat) (j r : Nat) (gx : Nat → Int32) (F16 : Nat → va_E) (H : Heap) (locs : List Loc) (ls : Array Slot), j < fuel → (j ≤ n) → (r < dv) → (bv 2147483648 (fun t => dl g (j + t)) (n - j) = bv 2147483648 (fun t => dl gx (j + t)) (n - j) * dv + r) → (∀ t, j ≤ t → t < n → dl gx t < 2147483648) → (∀ t, t < j → gx t = g t) → (fr2 F F16 w) → F16 (w) = .inr (0, [.ref (ad (w + 1)), .int (iI ((n : Int)))]) → F16 (w + 1) = .inl (ty 0, N, .inl (gx)) → pw D classes (tysL ty) ad M F16 (pA ad M s.heap.size) s H locs → lv_has ls 7 [(4, .int (iI ((j : Int) - 1))), (2, .long (iL ((r : Int)))), (0, .ref (ad (w))), (1, .int (iI ((dv : Int))))] → W p l e ({ frames := 2, cells := 0, slots := 0, locals := 46 } : Room) s m ([.ref (ad (w)), .int (iI ((dv : Int)))]).toArray below meth c H locs 0 0 Q (F0 m 16 ls []) := by
        intro fuel
        induction fuel with
        | zero => intro j r gx F16 H locs ls hfuel hj hr1 hinv hdig hsame hfr hO_w hA_w hw hl; exact absurd hfuel (Nat.not_lt_zero _)
        | succ fuel ih16 =>
          intro j r gx F16 H locs ls hfuel hj hr1 hinv hdig hsame hfr hO_w hA_w hw hl
          refine lv_iload hx hb d_W_divideSmall_16 (lv_at hl 0 rfl) ?_
          refine wz_if_lt (tgt := 61) hx hb d_W_divideSmall_18 (by decide) (by omega) (by omega) (fun c18 => ?_) (fun c18 => ?_)
          · have hj0 : j = 0 := by omega
            subst hj0
            have hinv2 : v = bv 2147483648 (dl gx) n * dv + r := by
              rw [← hok.2.2.2]
              simpa using hinv
            have hq4 : v / dv = bv 2147483648 (dl gx) n := by rw [hinv2, Nat.add_comm, Nat.add_mul_div_right _ _ hdv0, Nat.div_eq_of_lt hr1, Nat.zero_add]
            have hq5 : v % dv = r := by rw [hinv2, Nat.add_comm, Nat.add_mul_mod_self_right, Nat.mod_eq_of_lt hr1]
            refine lv_aload_n hx hb d_W_divideSmall_61 rfl (lv_at hl 2 rfl) ?_
            refine lv_aload_n hx hb d_W_divideSmall_62 rfl (lv_at hl 2 rfl) ?_
            refine pw_get (ci := 0) (C := R_W) (T := T_W) (N := 2) hx hb hq i_W hown hw (by omega) hO_w rfl 1 (by decide) (hq _ fl_W_21) (fun _ h9 => h9) rfl d_W_divideSmall_63 ?_
            refine pw_callv hw (va_runV (As := [.int (iI ((n : Int)))]) (rest := []) ⟨hx, hb, hml, hown, hq⟩ (c_W_trim l D ty ad M F16 H.size w N n n gx hM hN hn hO_w hA_w) (cwV 1 hq (gV ml_W_48 im_W_trim se_W_trim in_W m_W_trim) rfl rfl rfl (by decide +kernel) ⟨Nat.le_of_ble_eq_true rfl, Nat.le_of_ble_eq_true rfl⟩) (pw_preV hw (by omega) hO_w rfl) rfl rfl hl.1 rfl (lv_room (Nat.le_of_ble_eq_true rfl)) d_W_divideSmall_66 ⟨Nat.le_of_ble_eq_true rfl, Nat.le_of_ble_eq_true rfl⟩) (fun F66 H locs q66 hw => ?_)
            obtain ⟨k, hk1, hk2, hk3, eF66⟩ := q66
            have hA_w_at_66 : F66 (w + 1) = .inl (ty 0, N, .inl (gx)) := (show F66 (w + 1) = F16 (w + 1) from by rw [eF66]; exact va_up_ne _ _ (by omega)).trans hA_w
            refine lv_lload_n hx hb d_W_divideSmall_69 rfl (lv_at hl 1 rfl) ?_
            refine wz_l2i hx hb d_W_divideSmall_70 ?_
            rw [← hQ]
            exact pw_iret hx hb hr hlocks hw (⟨by rw [hq5], ⟨k, gx, ⟨by rw [eF66]; exact va_up_self .., hA_w_at_66⟩, by rw [hq4]; exact Wok.trim hn hk1 (fun i hi => hdig i (Nat.zero_le _) hi) hk2 hk3⟩, fun y h1 h2 => by rw [eF66, va_up_ne _ _ h1]; exact hfr y h1 h2⟩) d_W_divideSmall_71
          · have hdi := hd (j - 1) (by omega)
            have hm1 : r * 2 ^ 31 + dl g (j - 1) < dv * 2147483648 := by
              have : (r + 1) * 2147483648 ≤ dv * 2147483648 := Nat.mul_le_mul_right _ hr1
              omega
            have hm2 : dv * 2147483648 ≤ 2147483648 * 2147483648 := Nat.mul_le_mul_right _ (by omega)
            have hq2 : (r * 2 ^ 31 + dl g (j - 1)) / dv < 2147483648 := Nat.div_lt_of_lt_mul hm1
            have hq3 : (r * 2 ^ 31 + dl g (j - 1)) % dv < dv := Nat.mod_lt _ hdv0
            refine lv_lload_n hx hb d_W_divideSmall_21 rfl (lv_at hl 1 rfl) ?_
            refine wz_bipush (n := 31) hx hb d_W_divideSmall_22 (by decide) ?_
            refine lv_lshl (v := iL (((r * 2 ^ 31 : Nat) : Int))) hx hb d_W_divideSmall_24 (iL_shl (k := 31) (by decide)) ?_
            refine lv_aload_n hx hb d_W_divideSmall_25 rfl (lv_at hl 2 rfl) ?_
            refine pw_get (ci := 0) (C := R_W) (T := T_W) (N := 2) hx hb hq i_W hown hw (by omega) hO_w rfl 0 (by decide) (hq _ fl_W_17) (fun _ h9 => h9) rfl d_W_divideSmall_26 ?_
            refine lv_iload hx hb d_W_divideSmall_29 (lv_at hl 0 rfl) ?_
            refine pw_iald (k := j - 1) hx hb hw 0 (by omega) hA_w rfl (iI_in (by omega) (by omega) (by omega)) ((iI_cl (by omega) (by omega)).trans (by omega)) d_W_divideSmall_31 ?_
            refine lv_topi (fun x31 ex31 => ?_)
            obtain rfl : x31 = iI ((dl g (j - 1) : Int)) := ex31.trans ((hsame _ (by omega)).trans (dl_get hdi))
            refine wz_i2l hx hb d_W_divideSmall_32 (by omega) (by omega) ?_
            refine lv_lor hx hb d_W_divideSmall_33 ?_
            refine lv_topl (fun x33 ex33 => ?_)
            obtain rfl : x33 = iL (((r * 2 ^ 31 + dl g (j - 1) : Nat) : Int)) := ex33.trans (iL_or (k := 31) hdi (by omega))
            refine lv_lstore (lv' := [(5, .long (iL (((r * 2 ^ 31 + dl g (j - 1) : Nat) : Int)))), (4, .int (iI ((j : Int) - 1))), (2, .long (iL ((r : Int)))), (0, .ref (ad (w))), (1, .int (iI ((dv : Int))))]) hx hb d_W_divideSmall_34 hl (by decide) rfl (fun ls hl => ?_)
            refine lv_aload_n hx hb d_W_divideSmall_36 rfl (lv_at hl 3 rfl) ?_
            refine pw_get (ci := 0) (C := R_W) (T := T_W) (N := 2) hx hb hq i_W hown hw (by omega) hO_w rfl 0 (by decide) (hq _ fl_W_17) (fun _ h9 => h9) rfl d_W_divideSmall_37 ?_
            refine lv_iload hx hb d_W_divideSmall_40 (lv_at hl 1 rfl) ?_
            refine lv_lload hx hb d_W_divideSmall_42 (lv_at hl 0 rfl) ?_
            refine lv_iload_n hx hb d_W_divideSmall_44 rfl (lv_at hl 4 rfl) ?_
            refine wz_i2l hx hb d_W_divideSmall_45 (by omega) (by omega) ?_
            refine wz_ldiv (a := r * 2 ^ 31 + dl g (j - 1)) (b := dv) (z := (r * 2 ^ 31 + dl g (j - 1)) / dv) hx hb d_W_divideSmall_46 (by omega) (by omega) (by omega) (rfl) ?_
            refine wz_l2i hx hb d_W_divideSmall_47 ?_
            refine pw_iast (k := j - 1) hx hb hw 0 (by omega) hA_w rfl (iI_in (by omega) (by omega) (by omega)) ((iI_cl (by omega) (by omega)).trans (by omega)) d_W_divideSmall_48 (fun F48 H locs eF48 hw => ?_)
            obtain ⟨gy, egy⟩ : ∃ z, z = upd gx (j - 1) (iI ((((r * 2 ^ 31 + dl g (j - 1)) / dv : Nat) : Int))) := ⟨_, rfl⟩
            rw [← egy] at eF48
            have m48_w1 : F48 (w + 1) = .inl (ty 0, N, .inl (gy)) := by rw [eF48]; exact va_up_self ..
            have hO_w_at_48 : F48 (w) = .inr (0, [.ref (ad (w + 1)), .int (iI ((n : Int)))]) := (show F48 (w) = F16 (w) from by rw [eF48]; exact va_up_ne _ _ (by omega)).trans hO_w
            have hdy : dl gy (j - 1) = (r * 2 ^ 31 + dl g (j - 1)) / dv := by rw [egy]; exact dl_us (by omega)
            refine lv_lload hx hb d_W_divideSmall_49 (lv_at hl 0 rfl) ?_
            refine lv_iload_n hx hb d_W_divideSmall_51 rfl (lv_at hl 4 rfl) ?_
            refine wz_i2l hx hb d_W_divideSmall_52 (by omega) (by omega) ?_
            refine wz_lrem (a := r * 2 ^ 31 + dl g (j - 1)) (b := dv) (z := (r * 2 ^ 31 + dl g (j - 1)) % dv) hx hb d_W_divideSmall_53 (by omega) (by omega) (by omega) (rfl) ?_
            refine lv_lstore_n (lv' := [(2, .long (iL ((((r * 2 ^ 31 + dl g (j - 1)) % dv : Nat) : Int)))), (5, .long (iL (((r * 2 ^ 31 + dl g (j - 1) : Nat) : Int)))), (4, .int (iI ((j : Int) - 1))), (0, .ref (ad (w))), (1, .int (iI ((dv : Int))))]) hx hb d_W_divideSmall_54 rfl hl (by decide) rfl (fun ls hl => ?_)
            refine wz_iinc (z := ((j - 1 : Nat) : Int) - 1) (lv' := [(4, .int (iI (((j - 1 : Nat) : Int) - 1))), (2, .long (iL ((((r * 2 ^ 31 + dl g (j - 1)) % dv : Nat) : Int)))), (5, .long (iL (((r * 2 ^ 31 + dl g (j - 1) : Nat) : Int)))), (0, .ref (ad (w))), (1, .int (iI ((dv : Int))))]) hx hb d_W_divideSmall_55 hl (k := 2) rfl (by omega) (by decide) rfl (fun ls hl => ?_)
            refine lv_goto (tgt := 16) hx hb d_W_divideSmall_58 (by decide) ?_
            exact ih16 (j - 1) ((r * 2 ^ 31 + dl g (j - 1)) % dv) gy _ _ _ ls (by omega) (by omega) (Nat.mod_lt _ hdv0) (ds_step hj (by omega) hinv hdy (fun t h1 => by rw [egy]; exact dl_un (by omega))) (fun t h1 h2 => by
              rcases Nat.lt_or_ge t j with h3 | h3
              · rw [show t = j - 1 by omega, hdy]; exact hq2
              · rw [egy, dl_un (by omega)]; exact hdig t h3 h2) (fun t h1 => by rw [egy, pk_un (by omega)]; exact hsame t (by omega)) (fun y h1 h2 => by rw [eF48, va_up_ne _ _ h2]; exact hfr y h1 h2) hO_w_at_48 m48_w1 hw (lv_sub hl [0, 1, 3, 4] rfl)
      exact K16 _ n 0 g _ _ _ ls (Nat.lt_succ_self _) (Nat.le_refl _) (by omega) (by simp [bv_0]) (fun t h1 h2 => absurd h2 (by omega)) (fun _ _ => rfl) (fun _ _ _ => rfl) hO_w hA_w hw hl
    · exact absurd c1 (by omega)
  rw [hH, hlo] at hgo
  exact hgo
set_option maxHeartbeats 4000000 in
set_option maxRecDepth 100000 in
/-- Whole.compare(a, b) -/
theorem c_W_compare (l : Launch) (D : va_G) (ty : Nat → ClassId) (ad : Nat → Nat) (M : Nat) (F : Nat → va_E) (sz : Nat) (a b Na Nb va vb : Nat) (hMa : a + 1 < M) (hMb : b + 1 < M) (hNa : Na < 1000) (hNb : Nb < 1000) (ha : Wv ty ad F a Na va) (hb0 : Wv ty ad F b Nb vb) :
    CI l y_W_compare w_W_compare ({ frames := 0, cells := 0, slots := 0, locals := 0 } : Room) [.ref (ad (a)), .ref (ad (b))] D ty ad M F sz (fun r F1 => r = iI (cmpI va vb) ∧ F1 = F) := by
  refine Met.ofW (cc := b_W_compare) (maxL := 3) (ret := (some .int)) (by decide) rfl ?_
  intro p e s m args below meth c s₁ B hml hv
  obtain ⟨rfl, hsz, hP, hK, hD0⟩ := hv
  have hx := B.exec
  have hb := B.bytes
  have hr := B.returns
  have hts := atoms_spec (ws := w_W_compare) B.pre
  have hq : ∀ w ∈ wT, w.before _ s = true := fun w h => hts w (List.mem_cons_of_mem _ h)
  have hown : s.vm.findClass R_W = some m.cls := findClass_of_methodNamed B.named
  have hlocks := B.notSynchronized
  subst hsz
  have hw := pw_start hP hK hD0
  have hl := lv_entry ([.ref (ad (a)), .ref (ad (b))]) (n := 3) (Nat.le_of_ble_eq_true rfl)
  rw [lg_entry_eq]
  generalize (lg_sl ([.ref (ad (a)), .ref (ad (b))]) ++ List.replicate (3 - (lg_sl ([.ref (ad (a)), .ref (ad (b))])).length) Slot.unset).toArray = ls at hl ⊢
  have hl : lv_has ls 3 [(0, .ref (ad (a))), (1, .ref (ad (b)))] := hl
  change W p l e ({ frames := 0, cells := 0, slots := 0, locals := 0 } : Room) s m ([.ref (ad (a)), .ref (ad (b))]).toArray below meth c s.heap [] 0 0 (MQ below (va_Qi (fun r F1 => r = iI (cmpI va vb) ∧ F1 = F) (pAt D classes (tysL ty) ad M (pA ad M s.heap.size)) (pA ad M s.heap.size)) ([.ref (ad (a)), .ref (ad (b))]).toArray s 0 0 (pA ad M s.heap.size)) (F0 m 0 ls [])
  generalize hQ : MQ below (va_Qi (fun r F1 => r = iI (cmpI va vb) ∧ F1 = F) (pAt D classes (tysL ty) ad M (pA ad M s.heap.size)) (pA ad M s.heap.size)) ([.ref (ad (a)), .ref (ad (b))]).toArray s 0 0 (pA ad M s.heap.size) = Q
  obtain ⟨H, hH⟩ : ∃ H, H = s.heap := ⟨_, rfl⟩
  obtain ⟨locs, hlo⟩ : ∃ z : List Loc, z = [] := ⟨_, rfl⟩
  have hw : pw D classes (tysL ty) ad M F (pA ad M s.heap.size) s H locs := by rw [hH, hlo]; exact hw
  have hgo : W p l e ({ frames := 0, cells := 0, slots := 0, locals := 0 } : Room) s m ([.ref (ad (a)), .ref (ad (b))]).toArray below meth c H locs 0 0 Q (F0 m 0 ls []) := by
    obtain ⟨na, ga, ⟨hO_a, hA_a⟩, hoka⟩ := ha
    obtain ⟨nb, gb, ⟨hO_b, hA_b⟩, hokb⟩ := hb0
    have hna := hoka.1
    have hnb := hokb.1
    refine lv_aload_n hx hb d_W_compare_0 rfl (lv_at hl 0 rfl) ?_
    refine pw_get (ci := 0) (C := R_W) (T := T_W) (N := 2) hx hb hq i_W hown hw (by omega) hO_a rfl 1 (by decide) (hq _ fl_W_21) (fun _ h9 => h9) rfl d_W_compare_1 ?_
    refine lv_aload_n hx hb d_W_compare_4 rfl (lv_at hl 1 rfl) ?_
    refine pw_get (ci := 0) (C := R_W) (T := T_W) (N := 2) hx hb hq i_W hown hw (by omega) hO_b rfl 1 (by decide) (hq _ fl_W_21) (fun _ h9 => h9) rfl d_W_compare_5 ?_
    refine wz_icmp_eq (tgt := 28) hx hb d_W_compare_8 (by decide) (by omega) (by omega) (by omega) (by omega) (fun c8 => ?_) (fun c8 => ?_)
    · have hnn : na = nb := by omega
      subst hnn
      refine lv_aload_n hx hb d_W_compare_28 rfl (lv_at hl 0 rfl) ?_
      refine pw_get (ci := 0) (C := R_W) (T := T_W) (N := 2) hx hb hq i_W hown hw (by omega) hO_a rfl 1 (by decide) (hq _ fl_W_21) (fun _ h9 => h9) rfl d_W_compare_29 ?_
      refine wz_iconst (n := 1) hx hb d_W_compare_32 ?_
      refine wz_isub hx hb d_W_compare_33 rfl ?_
      refine lv_istore_n (lv' := [(2, .int (iI ((na : Int) - 1))), (0, .ref (ad (a))), (1, .ref (ad (b)))]) hx hb d_W_compare_34 rfl hl (by decide) rfl (fun ls hl => ?_)
      have K35 : ∀ (fuel : Nat) (i : Nat) (ls : Array Slot), i < fuel → (i ≤ na) → (∀ j, i ≤ j → j < na → ga j = gb j) → lv_has ls 3 [(2, .int (iI ((i : Int) - 1))), (0, .ref (ad (a))), (1, .ref (ad (b)))] → W p l e ({ frames := 0, cells := 0, slots := 0, locals := 0 } : Room) s m ([.ref (ad (a)), .ref (ad (b))]).toArray below meth c H locs 0 0 Q (F0 m 35 ls []) := by
        intro fuel
        induction fuel with
        | zero => intro i ls hfuel hi he hl; exact absurd hfuel (Nat.not_lt_zero _)
        | succ fuel ih35 =>
          intro i ls hfuel hi he hl
          refine lv_iload_n hx hb d_W_compare_35 rfl (lv_at hl 0 rfl) ?_
          refine wz_if_lt (tgt := 81) hx hb d_W_compare_36 (by decide) (by omega) (by omega) (fun c36 => ?_) (fun c36 => ?_)
          · refine wz_iconst (n := 0) hx hb d_W_compare_81 ?_
            rw [← hQ]
            exact pw_iret hx hb hr hlocks hw (⟨by have := hoka.cmpE hokb (fun j hj => he j (by omega) hj); rw [cmpI, if_neg (by omega), if_pos this], rfl⟩) d_W_compare_82
          · have hda := hoka.2.1 (i - 1) (by omega)
            have hdb := hokb.2.1 (i - 1) (by omega)
            refine lv_aload_n hx hb d_W_compare_39 rfl (lv_at hl 1 rfl) ?_
            refine pw_get (ci := 0) (C := R_W) (T := T_W) (N := 2) hx hb hq i_W hown hw (by omega) hO_a rfl 0 (by decide) (hq _ fl_W_17) (fun _ h9 => h9) rfl d_W_compare_40 ?_
            refine lv_iload_n hx hb d_W_compare_43 rfl (lv_at hl 0 rfl) ?_
            refine pw_iald (k := i - 1) hx hb hw 0 (by omega) hA_a rfl (iI_in (by omega) (by omega) (by omega)) ((iI_cl (by omega) (by omega)).trans (by omega)) d_W_compare_44 ?_
            refine lv_topi (fun x44 ex44 => ?_)
            obtain rfl : x44 = iI ((dl ga (i - 1) : Int)) := ex44.trans (dl_get hda)
            refine lv_aload_n hx hb d_W_compare_45 rfl (lv_at hl 2 rfl) ?_
            refine pw_get (ci := 0) (C := R_W) (T := T_W) (N := 2) hx hb hq i_W hown hw (by omega) hO_b rfl 0 (by decide) (hq _ fl_W_17) (fun _ h9 => h9) rfl d_W_compare_46 ?_
            refine lv_iload_n hx hb d_W_compare_49 rfl (lv_at hl 0 rfl) ?_
            refine pw_iald (k := i - 1) hx hb hw 0 (by omega) hA_b rfl (iI_in (by omega) (by omega) (by omega)) ((iI_cl (by omega) (by omega)).trans (by omega)) d_W_compare_50 ?_
            refine lv_topi (fun x50 ex50 => ?_)
            obtain rfl : x50 = iI ((dl gb (i - 1) : Int)) := ex50.trans (dl_get hdb)
            refine wz_icmp_eq (tgt := 75) hx hb d_W_compare_51 (by decide) (by omega) (by omega) (by omega) (by omega) (fun c51 => ?_) (fun c51 => ?_)
            · refine wz_iinc (z := ((i - 1 : Nat) : Int) - 1) (lv' := [(2, .int (iI (((i - 1 : Nat) : Int) - 1))), (0, .ref (ad (a))), (1, .ref (ad (b)))]) hx hb d_W_compare_75 hl (k := 0) rfl (by omega) (by decide) rfl (fun ls hl => ?_)
              refine lv_goto (tgt := 35) hx hb d_W_compare_78 (by decide) ?_
              exact ih35 (i - 1) ls (by omega) (by omega) (fun j h1 h2 => by
                rcases Nat.lt_or_ge j i with h3 | h3
                · rw [show j = i - 1 by omega, dl_get hda, dl_get hdb]; exact congrArg iI (by omega)
                · exact he j h3 h2) hl
            · refine lv_aload_n hx hb d_W_compare_54 rfl (lv_at hl 1 rfl) ?_
              refine pw_get (ci := 0) (C := R_W) (T := T_W) (N := 2) hx hb hq i_W hown hw (by omega) hO_a rfl 0 (by decide) (hq _ fl_W_17) (fun _ h9 => h9) rfl d_W_compare_55 ?_
              refine lv_iload_n hx hb d_W_compare_58 rfl (lv_at hl 0 rfl) ?_
              refine pw_iald (k := i - 1) hx hb hw 0 (by omega) hA_a rfl (iI_in (by omega) (by omega) (by omega)) ((iI_cl (by omega) (by omega)).trans (by omega)) d_W_compare_59 ?_
              refine lv_topi (fun x59 ex59 => ?_)
              obtain rfl : x59 = iI ((dl ga (i - 1) : Int)) := ex59.trans (dl_get hda)
              refine lv_aload_n hx hb d_W_compare_60 rfl (lv_at hl 2 rfl) ?_
              refine pw_get (ci := 0) (C := R_W) (T := T_W) (N := 2) hx hb hq i_W hown hw (by omega) hO_b rfl 0 (by decide) (hq _ fl_W_17) (fun _ h9 => h9) rfl d_W_compare_61 ?_
              refine lv_iload_n hx hb d_W_compare_64 rfl (lv_at hl 0 rfl) ?_
              refine pw_iald (k := i - 1) hx hb hw 0 (by omega) hA_b rfl (iI_in (by omega) (by omega) (by omega)) ((iI_cl (by omega) (by omega)).trans (by omega)) d_W_compare_65 ?_
              refine lv_topi (fun x65 ex65 => ?_)
              obtain rfl : x65 = iI ((dl gb (i - 1) : Int)) := ex65.trans (dl_get hdb)
              refine wz_icmp_ge (tgt := 73) hx hb d_W_compare_66 (by decide) (by omega) (by omega) (by omega) (by omega) (fun c66 => ?_) (fun c66 => ?_)
              · refine wz_iconst (n := 1) hx hb d_W_compare_73 ?_
                rw [← hQ]
                exact pw_iret hx hb hr hlocks hw (⟨by have := hokb.cmpL (i := i - 1) hoka (by omega) (fun j h1 h2 => (he j (by omega) h2).symm) (by omega); rw [cmpI, if_neg (by omega), if_neg (by omega)], rfl⟩) d_W_compare_74
              · refine wz_iconst (n := -1) hx hb d_W_compare_69 ?_
                refine lv_goto (tgt := 74) hx hb d_W_compare_70 (by decide) ?_
                rw [← hQ]
                exact pw_iret hx hb hr hlocks hw (⟨by have := hoka.cmpL (i := i - 1) hokb (by omega) (fun j h1 h2 => he j (by omega) h2) (by omega); rw [cmpI, if_pos this], rfl⟩) d_W_compare_74
      exact K35 _ na ls (Nat.lt_succ_self _) (Nat.le_refl _) (fun j h1 h2 => absurd h2 (by omega)) hl
    · refine lv_aload_n hx hb d_W_compare_11 rfl (lv_at hl 0 rfl) ?_
      refine pw_get (ci := 0) (C := R_W) (T := T_W) (N := 2) hx hb hq i_W hown hw (by omega) hO_a rfl 1 (by decide) (hq _ fl_W_21) (fun _ h9 => h9) rfl d_W_compare_12 ?_
      refine lv_aload_n hx hb d_W_compare_15 rfl (lv_at hl 1 rfl) ?_
      refine pw_get (ci := 0) (C := R_W) (T := T_W) (N := 2) hx hb hq i_W hown hw (by omega) hO_b rfl 1 (by decide) (hq _ fl_W_21) (fun _ h9 => h9) rfl d_W_compare_16 ?_
      refine wz_icmp_ge (tgt := 26) hx hb d_W_compare_19 (by decide) (by omega) (by omega) (by omega) (by omega) (fun c19 => ?_) (fun c19 => ?_)
      · refine wz_iconst (n := 1) hx hb d_W_compare_26 ?_
        rw [← hQ]
        exact pw_iret hx hb hr hlocks hw (⟨by have := hokb.cmpS hoka (by omega); rw [cmpI, if_neg (by omega), if_neg (by omega)], rfl⟩) d_W_compare_27
      · refine wz_iconst (n := -1) hx hb d_W_compare_22 ?_
        refine lv_goto (tgt := 27) hx hb d_W_compare_23 (by decide) ?_
        rw [← hQ]
        exact pw_iret hx hb hr hlocks hw (⟨by have := hoka.cmpS hokb (by omega); rw [cmpI, if_pos this], rfl⟩) d_W_compare_27
  rw [hH, hlo] at hgo
  exact hgo
