/-! the reference: set, order, sign, look: by program -/
set_option maxHeartbeats 4000000 in
set_option maxRecDepth 100000 in
/-- set(to, top, bottom) -/
theorem c_M_set (l : Launch) (D : va_G) (ty : Nat → ClassId) (ad : Nat → Nat) (M : Nat) (F : Nat → va_E) (sz : Nat) (hM : 103 < M) (g : Sg) (co : Int) (hMo : Mo ty ad F co g) (hok : okS g) (to : Int) (hto : -2147483648 ≤ to ∧ to < 2147483648) (tp : Int) (htp : -9223372036854775808 ≤ tp ∧ tp < 9223372036854775808) (bt : Int) (hbt : -9223372036854775808 ≤ bt ∧ bt < 9223372036854775808) :
    CV l y_M_set w_M_set ({ frames := 5, cells := 0, slots := 0, locals := 127 } : Room) [.ref (ad (98)), .int (iI (to)), .long (iL (tp)), .long (iL (bt))] D ty ad M F sz (fun F1 => Mo ty ad F1 (o_set g to tp bt).1 (o_set g to tp bt).2.2 ∧ frP F F1) := by
  refine Met.ofW (cc := b_M_set) (maxL := 6) (ret := none) (by decide) rfl ?_
  intro p e s m args below meth c s₁ B hml hv
  obtain ⟨rfl, hsz, hP, hK, hD0⟩ := hv
  have hx := B.exec
  have hb := B.bytes
  have hr := B.returns
  have hts := atoms_spec (ws := w_M_set) B.pre
  have hq : ∀ w ∈ wT, w.before _ s = true := fun w h => hts w (List.mem_cons_of_mem _ h)
  have hown : s.vm.findClass R_M = some m.cls := findClass_of_methodNamed B.named
  have hlocks := B.notSynchronized
  subst hsz
  have hw := pw_start hP hK hD0
  have hl := lv_entry ([.ref (ad (98)), .int (iI (to)), .long (iL (tp)), .long (iL (bt))]) (n := 6) (Nat.le_of_ble_eq_true rfl)
  rw [lg_entry_eq]
  generalize (lg_sl ([.ref (ad (98)), .int (iI (to)), .long (iL (tp)), .long (iL (bt))]) ++ List.replicate (6 - (lg_sl ([.ref (ad (98)), .int (iI (to)), .long (iL (tp)), .long (iL (bt))])).length) Slot.unset).toArray = ls at hl ⊢
  have hl : lv_has ls 6 [(0, .ref (ad (98))), (1, .int (iI (to))), (2, .long (iL (tp))), (4, .long (iL (bt)))] := hl
  change W p l e ({ frames := 5, cells := 0, slots := 0, locals := 127 } : Room) s m ([.ref (ad (98)), .int (iI (to)), .long (iL (tp)), .long (iL (bt))]).toArray below meth c s.heap [] 0 0 (MQ below (va_Qv (fun F1 => Mo ty ad F1 (o_set g to tp bt).1 (o_set g to tp bt).2.2 ∧ frP F F1) (pAt D classes (tysL ty) ad M (pA ad M s.heap.size)) (pA ad M s.heap.size)) ([.ref (ad (98)), .int (iI (to)), .long (iL (tp)), .long (iL (bt))]).toArray s 0 0 (pA ad M s.heap.size)) (F0 m 0 ls [])
  generalize hQ : MQ below (va_Qv (fun F1 => Mo ty ad F1 (o_set g to tp bt).1 (o_set g to tp bt).2.2 ∧ frP F F1) (pAt D classes (tysL ty) ad M (pA ad M s.heap.size)) (pA ad M s.heap.size)) ([.ref (ad (98)), .int (iI (to)), .long (iL (tp)), .long (iL (bt))]).toArray s 0 0 (pA ad M s.heap.size) = Q
  obtain ⟨H, hH⟩ : ∃ H, H = s.heap := ⟨_, rfl⟩
  obtain ⟨locs, hlo⟩ : ∃ z : List Loc, z = [] := ⟨_, rfl⟩
  have hw : pw D classes (tysL ty) ad M F (pA ad M s.heap.size) s H locs := by rw [hH, hlo]; exact hw
  have hgo : W p l e ({ frames := 5, cells := 0, slots := 0, locals := 127 } : Room) s m ([.ref (ad (98)), .int (iI (to)), .long (iL (tp)), .long (iL (bt))]).toArray below meth c H locs 0 0 Q (F0 m 0 ls []) := by
    obtain ⟨hO, hRn, tt, dd, h102, htt, h103⟩ := id hMo
    have N0 := (hRn 0 (by decide)).1
    have hn14 := hok.2.1
    refine lv_aload_n hx hb d_M_set_0 rfl (lv_at hl 0 rfl) ?_
    refine lv_iload_n hx hb d_M_set_1 rfl (lv_at hl 1 rfl) ?_
    refine pw_calli hw (va_runS (As := [.int (iI (to))]) (rest := [.ref (ad (98))]) ⟨hx, hb, hml, hown, hq⟩ (c_M_isRegister l D ty ad M F H.size (to) (by omega)) (va_cwS 1 hq (gS ml_M_86 st_M_isRegister in_M m_M_isRegister) rfl rfl rfl (by decide +kernel) ⟨Nat.le_of_ble_eq_true rfl, Nat.le_of_ble_eq_true rfl⟩) (pw_preS hw) rfl rfl hl.1 rfl (lv_room (Nat.le_of_ble_eq_true rfl)) d_M_set_2 ⟨Nat.le_of_ble_eq_true rfl, Nat.le_of_ble_eq_true rfl⟩) (fun r2 F2 H locs q2 hw => ?_)
    obtain ⟨er2, eF2⟩ := q2
    rw [eF2] at hw
    clear eF2
    subst er2
    have hrg5 := rg_le to
    refine wz_if_eq (tgt := 19) hx hb d_M_set_5 (by decide) (by omega) (by omega) (fun c5 => ?_) (fun c5 => ?_)
    · have hRe : ¬ isR to := rg_z c5
      refine wz_iconst (n := 1) hx hb d_M_set_19 ?_
      refine pw_put (ci := 6) (C := R_M) (T := T_M) (N := 8) (ty := .int) (fs' := [.int (iI (1)), .ref (ad (99)), .ref (ad (100)), .ref (ad (101)), .ref (ad (102)), .int (iI ((nS g : Int))), .int (iI (pS g)), .ref (ad (103))]) hx hb hq i_M ft_M ft_M_ok n_M hown hw (by omega) hO rfl 0 (by decide) (hq _ fl_M_34) (fun _ h9 => h9) rfl (by decide +kernel) rfl rfl (Nat.le_of_ble_eq_true rfl) rfl d_M_set_20 (fun F20 H locs eF20 hw => ?_)
      have m20_98 : F20 (98) = .inr (6, [.int (iI (1)), .ref (ad (99)), .ref (ad (100)), .ref (ad (101)), .ref (ad (102)), .int (iI ((nS g : Int))), .int (iI (pS g)), .ref (ad (103))]) := by rw [eF20]; exact va_up_self ..
      have hRn_at_20 : Rn ty F20 (g) := hRn.m3 (show F20 (99) = F (99) from by rw [eF20]; exact va_up_ne _ _ (by omega)) (show F20 (100) = F (100) from by rw [eF20]; exact va_up_ne _ _ (by omega)) (show F20 (101) = F (101) from by rw [eF20]; exact va_up_ne _ _ (by omega))
      have N0_at_20 : Nm ty F20 (0) (zS g 0) := N0.m3 (show F20 (99) = F (99) from by rw [eF20]; exact va_up_ne _ _ (by omega)) (show F20 (100) = F (100) from by rw [eF20]; exact va_up_ne _ _ (by omega)) (show F20 (101) = F (101) from by rw [eF20]; exact va_up_ne _ _ (by omega))
      have h102_at_20 : F20 (102) = .inl (ty 0, 1400, .inl (tt)) := (show F20 (102) = F (102) from by rw [eF20]; exact va_up_ne _ _ (by omega)).trans h102
      have h103_at_20 : F20 (103) = .inl (ty 0, 700, .inl (dd)) := (show F20 (103) = F (103) from by rw [eF20]; exact va_up_ne _ _ (by omega)).trans h103
      refine lv_aload_n hx hb d_M_set_23 rfl (lv_at hl 0 rfl) ?_
      refine pw_get (ci := 6) (C := R_M) (T := T_M) (N := 8) hx hb hq i_M hown hw (by omega) m20_98 rfl 0 (by decide) (hq _ fl_M_34) (fun _ h9 => h9) rfl d_M_set_24 ?_
      refine wz_if_ne (tgt := 51) hx hb d_M_set_27 (by decide) (by omega) (by omega) (fun c27 => ?_) (fun c27 => ?_)
      · rw [← hQ]
        exact pw_vret hx hb hr hlocks hw (by
          rw [o_set, cif_neg (fun h9 => by first | exact hRe h9.1 | exact h9.2 hb9)]
          exact ⟨Mo.mk' ⟨rfl, rfl, rfl⟩ m20_98 hRn_at_20 h102_at_20 htt h103_at_20, fun y9 h1 => show F20 (y9) = F (y9) from by rw [eF20]; exact va_up_ne _ _ (by omega)⟩) d_M_set_51
      · exact absurd c27 (by omega)
    · have hRto : isR to := rg_nz c5
      refine lv_lload hx hb d_M_set_8 (lv_at hl 3 rfl) ?_
      refine lv_lconst (v := iL 0) hx hb d_M_set_10 (by decide) ?_
      refine wz_lcmp_eq (tgt := 19) hx hb d_M_set_11 d_M_set_12 (by decide) (by omega) (by omega) (by omega) (by omega) (fun c11 => ?_) (fun c11 => ?_)
      · have hb9 : bt = 0 := by omega
        refine wz_iconst (n := 1) hx hb d_M_set_19 ?_
        refine pw_put (ci := 6) (C := R_M) (T := T_M) (N := 8) (ty := .int) (fs' := [.int (iI (1)), .ref (ad (99)), .ref (ad (100)), .ref (ad (101)), .ref (ad (102)), .int (iI ((nS g : Int))), .int (iI (pS g)), .ref (ad (103))]) hx hb hq i_M ft_M ft_M_ok n_M hown hw (by omega) hO rfl 0 (by decide) (hq _ fl_M_34) (fun _ h9 => h9) rfl (by decide +kernel) rfl rfl (Nat.le_of_ble_eq_true rfl) rfl d_M_set_20 (fun F20 H locs eF20 hw => ?_)
        have m20_98 : F20 (98) = .inr (6, [.int (iI (1)), .ref (ad (99)), .ref (ad (100)), .ref (ad (101)), .ref (ad (102)), .int (iI ((nS g : Int))), .int (iI (pS g)), .ref (ad (103))]) := by rw [eF20]; exact va_up_self ..
        have hRn_at_20 : Rn ty F20 (g) := hRn.m3 (show F20 (99) = F (99) from by rw [eF20]; exact va_up_ne _ _ (by omega)) (show F20 (100) = F (100) from by rw [eF20]; exact va_up_ne _ _ (by omega)) (show F20 (101) = F (101) from by rw [eF20]; exact va_up_ne _ _ (by omega))
        have N0_at_20 : Nm ty F20 (0) (zS g 0) := N0.m3 (show F20 (99) = F (99) from by rw [eF20]; exact va_up_ne _ _ (by omega)) (show F20 (100) = F (100) from by rw [eF20]; exact va_up_ne _ _ (by omega)) (show F20 (101) = F (101) from by rw [eF20]; exact va_up_ne _ _ (by omega))
        have h102_at_20 : F20 (102) = .inl (ty 0, 1400, .inl (tt)) := (show F20 (102) = F (102) from by rw [eF20]; exact va_up_ne _ _ (by omega)).trans h102
        have h103_at_20 : F20 (103) = .inl (ty 0, 700, .inl (dd)) := (show F20 (103) = F (103) from by rw [eF20]; exact va_up_ne _ _ (by omega)).trans h103
        refine lv_aload_n hx hb d_M_set_23 rfl (lv_at hl 0 rfl) ?_
        refine pw_get (ci := 6) (C := R_M) (T := T_M) (N := 8) hx hb hq i_M hown hw (by omega) m20_98 rfl 0 (by decide) (hq _ fl_M_34) (fun _ h9 => h9) rfl d_M_set_24 ?_
        refine wz_if_ne (tgt := 51) hx hb d_M_set_27 (by decide) (by omega) (by omega) (fun c27 => ?_) (fun c27 => ?_)
        · rw [← hQ]
          exact pw_vret hx hb hr hlocks hw (by
            rw [o_set, cif_neg (fun h9 => by first | exact hRe h9.1 | exact h9.2 hb9)]
            exact ⟨Mo.mk' ⟨rfl, rfl, rfl⟩ m20_98 hRn_at_20 h102_at_20 htt h103_at_20, fun y9 h1 => show F20 (y9) = F (y9) from by rw [eF20]; exact va_up_ne _ _ (by omega)⟩) d_M_set_51
        · exact absurd c27 (by omega)
      · have hb9 : bt ≠ 0 := by omega
        refine wz_iconst (n := 0) hx hb d_M_set_15 ?_
        refine lv_goto (tgt := 20) hx hb d_M_set_16 (by decide) ?_
        refine pw_put (ci := 6) (C := R_M) (T := T_M) (N := 8) (ty := .int) (fs' := [.int (iI (0)), .ref (ad (99)), .ref (ad (100)), .ref (ad (101)), .ref (ad (102)), .int (iI ((nS g : Int))), .int (iI (pS g)), .ref (ad (103))]) hx hb hq i_M ft_M ft_M_ok n_M hown hw (by omega) hO rfl 0 (by decide) (hq _ fl_M_34) (fun _ h9 => h9) rfl (by decide +kernel) rfl rfl (Nat.le_of_ble_eq_true rfl) rfl d_M_set_20 (fun F20 H locs eF20 hw => ?_)
        have m20_98 : F20 (98) = .inr (6, [.int (iI (0)), .ref (ad (99)), .ref (ad (100)), .ref (ad (101)), .ref (ad (102)), .int (iI ((nS g : Int))), .int (iI (pS g)), .ref (ad (103))]) := by rw [eF20]; exact va_up_self ..
        have hRn_at_20 : Rn ty F20 (g) := hRn.m3 (show F20 (99) = F (99) from by rw [eF20]; exact va_up_ne _ _ (by omega)) (show F20 (100) = F (100) from by rw [eF20]; exact va_up_ne _ _ (by omega)) (show F20 (101) = F (101) from by rw [eF20]; exact va_up_ne _ _ (by omega))
        have N0_at_20 : Nm ty F20 (0) (zS g 0) := N0.m3 (show F20 (99) = F (99) from by rw [eF20]; exact va_up_ne _ _ (by omega)) (show F20 (100) = F (100) from by rw [eF20]; exact va_up_ne _ _ (by omega)) (show F20 (101) = F (101) from by rw [eF20]; exact va_up_ne _ _ (by omega))
        have h102_at_20 : F20 (102) = .inl (ty 0, 1400, .inl (tt)) := (show F20 (102) = F (102) from by rw [eF20]; exact va_up_ne _ _ (by omega)).trans h102
        have h103_at_20 : F20 (103) = .inl (ty 0, 700, .inl (dd)) := (show F20 (103) = F (103) from by rw [eF20]; exact va_up_ne _ _ (by omega)).trans h103
        refine lv_aload_n hx hb d_M_set_23 rfl (lv_at hl 0 rfl) ?_
        refine pw_get (ci := 6) (C := R_M) (T := T_M) (N := 8) hx hb hq i_M hown hw (by omega) m20_98 rfl 0 (by decide) (hq _ fl_M_34) (fun _ h9 => h9) rfl d_M_set_24 ?_
        refine wz_if_ne (tgt := 51) hx hb d_M_set_27 (by decide) (by omega) (by omega) (fun c27 => ?_) (fun c27 => ?_)
        · exact absurd c27 (by omega)
        · obtain ⟨uto, huto⟩ : ∃ u : Nat, to = (u : Int) := ⟨(to).toNat, by have := hRto.1; omega⟩
          have h16to : uto < 16 := by have := hRto.2; omega
          rw [huto] at hl
          refine lv_aload_n hx hb d_M_set_30 rfl (lv_at hl 0 rfl) ?_
          refine wz_bipush (n := 32) hx hb d_M_set_31 (by decide) ?_
          refine lv_lload_n hx hb d_M_set_33 rfl (lv_at hl 2 rfl) ?_
          obtain ⟨_, _, _, hA34⟩ := (N0_at_20).ma
          refine pw_callv hw (va_runV (As := [.int (iI (32)), .long (iL (tp))]) (rest := []) ⟨hx, hb, hml, hown, hq⟩ (c_M_setLong l D ty ad M F20 H.size hM (0) ((nS g : Int)) (pS g) m20_98 _ _ _ hA34 (32) (by omega) (tp) (htp)) (cwV 2 hq (gV ml_M_30 im_M_setLong se_M_setLong in_M m_M_setLong) rfl rfl rfl (by decide +kernel) ⟨Nat.le_of_ble_eq_true rfl, Nat.le_of_ble_eq_true rfl⟩) (pw_preV hw (by omega) m20_98 rfl) rfl rfl hl.1 rfl (lv_room (Nat.le_of_ble_eq_true rfl)) d_M_set_34 ⟨Nat.le_of_ble_eq_true rfl, Nat.le_of_ble_eq_true rfl⟩) (fun F34 H locs q34 hw => ?_)
          obtain ⟨N32, hk34, hf34⟩ := q34
          have hRn_at_34 : Rn ty F34 (g) := hRn_at_20.kq hk34 (fun c9 h8 h9 => by first | omega | (dsimp only at h9; omega))
          have N0_at_34 : Nm ty F34 (0) (zS g 0) := hk34 _ _ (by omega) (by first | omega | (dsimp only; omega)) N0_at_20
          have h102_at_34 : F34 (102) = .inl (ty 0, 1400, .inl (tt)) := (hf34 (102) (by omega) (by omega) (by omega)).trans h102_at_20
          have h103_at_34 : F34 (103) = .inl (ty 0, 700, .inl (dd)) := (hf34 (103) (by omega) (by omega) (by omega)).trans h103_at_20
          have m20_98_at_34 : F34 (98) = .inr (6, [.int (iI (0)), .ref (ad (99)), .ref (ad (100)), .ref (ad (101)), .ref (ad (102)), .int (iI ((nS g : Int))), .int (iI (pS g)), .ref (ad (103))]) := (hf34 (98) (by omega) (by omega) (by omega)).trans m20_98
          refine lv_aload_n hx hb d_M_set_37 rfl (lv_at hl 0 rfl) ?_
          refine wz_bipush (n := 33) hx hb d_M_set_38 (by decide) ?_
          refine lv_lload hx hb d_M_set_40 (lv_at hl 3 rfl) ?_
          obtain ⟨_, _, _, hA42⟩ := (N32).ma
          refine pw_callv hw (va_runV (As := [.int (iI (33)), .long (iL (bt))]) (rest := []) ⟨hx, hb, hml, hown, hq⟩ (c_M_setLong l D ty ad M F34 H.size hM (0) ((nS g : Int)) (pS g) m20_98_at_34 _ _ _ hA42 (33) (by omega) (bt) (hbt)) (cwV 2 hq (gV ml_M_30 im_M_setLong se_M_setLong in_M m_M_setLong) rfl rfl rfl (by decide +kernel) ⟨Nat.le_of_ble_eq_true rfl, Nat.le_of_ble_eq_true rfl⟩) (pw_preV hw (by omega) m20_98_at_34 rfl) rfl rfl hl.1 rfl (lv_room (Nat.le_of_ble_eq_true rfl)) d_M_set_42 ⟨Nat.le_of_ble_eq_true rfl, Nat.le_of_ble_eq_true rfl⟩) (fun F42 H locs q42 hw => ?_)
          obtain ⟨N33, hk42, hf42⟩ := q42
          have hRn_at_42 : Rn ty F42 (g) := hRn_at_34.kq hk42 (fun c9 h8 h9 => by first | omega | (dsimp only at h9; omega))
          have N0_at_42 : Nm ty F42 (0) (zS g 0) := hk42 _ _ (by omega) (by first | omega | (dsimp only; omega)) N0_at_34
          have h102_at_42 : F42 (102) = .inl (ty 0, 1400, .inl (tt)) := (hf42 (102) (by omega) (by omega) (by omega)).trans h102_at_34
          have h103_at_42 : F42 (103) = .inl (ty 0, 700, .inl (dd)) := (hf42 (103) (by omega) (by omega) (by omega)).trans h103_at_34
          have m20_98_at_42 : F42 (98) = .inr (6, [.int (iI (0)), .ref (ad (99)), .ref (ad (100)), .ref (ad (101)), .ref (ad (102)), .int (iI ((nS g : Int))), .int (iI (pS g)), .ref (ad (103))]) := (hf42 (98) (by omega) (by omega) (by omega)).trans m20_98_at_34
          have N32_at_42 : Nm ty F42 (32) (tp) := hk42 _ _ (by omega) (by first | omega | (dsimp only; omega)) N32
          refine lv_aload_n hx hb d_M_set_45 rfl (lv_at hl 0 rfl) ?_
          refine lv_iload_n hx hb d_M_set_46 rfl (lv_at hl 1 rfl) ?_
          refine pw_calli hw (va_runV (As := [.int (iI ((uto : Int)))]) (rest := []) ⟨hx, hb, hml, hown, hq⟩ (c_M_lay l D ty ad M F42 H.size hM (0) ((nS g : Int)) (pS g) m20_98_at_42 (uto) (tp) (bt) (g) (by omega) (hb9) N32_at_42 N33 hRn_at_42 (md_long htp) (md_long hbt)) (cwV 1 hq (gV ml_M_89 im_M_lay se_M_lay in_M m_M_lay) rfl rfl rfl (by decide +kernel) ⟨Nat.le_of_ble_eq_true rfl, Nat.le_of_ble_eq_true rfl⟩) (pw_preV hw (by omega) m20_98_at_42 rfl) rfl rfl hl.1 rfl (lv_room (Nat.le_of_ble_eq_true rfl)) d_M_set_47 ⟨Nat.le_of_ble_eq_true rfl, Nat.le_of_ble_eq_true rfl⟩) (fun r47 F47 H locs q47 hw => ?_)
          obtain ⟨er47, hRn, hf47⟩ := q47
          have h102_at_47 : F47 (102) = .inl (ty 0, 1400, .inl (tt)) := (hf47 (102) (by omega) (by omega) (by omega)).trans h102_at_42
          have h103_at_47 : F47 (103) = .inl (ty 0, 700, .inl (dd)) := (hf47 (103) (by omega) (by omega) (by omega)).trans h103_at_42
          have m20_98_at_47 : F47 (98) = .inr (6, [.int (iI (0)), .ref (ad (99)), .ref (ad (100)), .ref (ad (101)), .ref (ad (102)), .int (iI ((nS g : Int))), .int (iI (pS g)), .ref (ad (103))]) := (hf47 (98) (by omega) (by omega) (by omega)).trans m20_98_at_42
          refine lv_pop hx hb d_M_set_50 rfl ?_
          rw [← hQ]
          exact pw_vret hx hb hr hlocks hw (by
            rw [o_set, cif_pos ⟨hRto, hb9⟩, show to.toNat = uto by omega]
            exact ⟨Mo.mk' (s_lay_t ..) m20_98_at_47 hRn h102_at_47 htt h103_at_47, fun y9 h1 => (hf47 (y9) (by omega) (by omega) (by omega)).trans ((hf42 (y9) (by omega) (by omega) (by omega)).trans ((hf34 (y9) (by omega) (by omega) (by omega)).trans (show F20 (y9) = F (y9) from by rw [eF20]; exact va_up_ne _ _ (by omega))))⟩) d_M_set_51
  rw [hH, hlo] at hgo
  exact hgo
set_option maxHeartbeats 4000000 in
set_option maxRecDepth 100000 in
/-- order(a, b) -/
theorem c_M_order (l : Launch) (D : va_G) (ty : Nat → ClassId) (ad : Nat → Nat) (M : Nat) (F : Nat → va_E) (sz : Nat) (hM : 103 < M) (g : Sg) (co : Int) (hMo : Mo ty ad F co g) (hok : okS g) (a : Int) (ha : -2147483648 ≤ a ∧ a < 2147483648) (b1 : Int) (hb1 : -2147483648 ≤ b1 ∧ b1 < 2147483648) :
    CI l y_M_order w_M_order ({ frames := 3, cells := 0, slots := 0, locals := 75 } : Room) [.ref (ad (98)), .int (iI (a)), .int (iI (b1))] D ty ad M F sz (fun r F1 => r = iI (o_order g a b1).2.1 ∧ Mo ty ad F1 (o_order g a b1).1 (o_order g a b1).2.2 ∧ frP F F1) := by
  refine Met.ofW (cc := b_M_order) (maxL := 3) (ret := (some .int)) (by decide) rfl ?_
  intro p e s m args below meth c s₁ B hml hv
  obtain ⟨rfl, hsz, hP, hK, hD0⟩ := hv
  have hx := B.exec
  have hb := B.bytes
  have hr := B.returns
  have hts := atoms_spec (ws := w_M_order) B.pre
  have hq : ∀ w ∈ wT, w.before _ s = true := fun w h => hts w (List.mem_cons_of_mem _ h)
  have hown : s.vm.findClass R_M = some m.cls := findClass_of_methodNamed B.named
  have hlocks := B.notSynchronized
  subst hsz
  have hw := pw_start hP hK hD0
  have hl := lv_entry ([.ref (ad (98)), .int (iI (a)), .int (iI (b1))]) (n := 3) (Nat.le_of_ble_eq_true rfl)
  rw [lg_entry_eq]
  generalize (lg_sl ([.ref (ad (98)), .int (iI (a)), .int (iI (b1))]) ++ List.replicate (3 - (lg_sl ([.ref (ad (98)), .int (iI (a)), .int (iI (b1))])).length) Slot.unset).toArray = ls at hl ⊢
  have hl : lv_has ls 3 [(0, .ref (ad (98))), (1, .int (iI (a))), (2, .int (iI (b1)))] := hl
  change W p l e ({ frames := 3, cells := 0, slots := 0, locals := 75 } : Room) s m ([.ref (ad (98)), .int (iI (a)), .int (iI (b1))]).toArray below meth c s.heap [] 0 0 (MQ below (va_Qi (fun r F1 => r = iI (o_order g a b1).2.1 ∧ Mo ty ad F1 (o_order g a b1).1 (o_order g a b1).2.2 ∧ frP F F1) (pAt D classes (tysL ty) ad M (pA ad M s.heap.size)) (pA ad M s.heap.size)) ([.ref (ad (98)), .int (iI (a)), .int (iI (b1))]).toArray s 0 0 (pA ad M s.heap.size)) (F0 m 0 ls [])
  generalize hQ : MQ below (va_Qi (fun r F1 => r = iI (o_order g a b1).2.1 ∧ Mo ty ad F1 (o_order g a b1).1 (o_order g a b1).2.2 ∧ frP F F1) (pAt D classes (tysL ty) ad M (pA ad M s.heap.size)) (pA ad M s.heap.size)) ([.ref (ad (98)), .int (iI (a)), .int (iI (b1))]).toArray s 0 0 (pA ad M s.heap.size) = Q
  obtain ⟨H, hH⟩ : ∃ H, H = s.heap := ⟨_, rfl⟩
  obtain ⟨locs, hlo⟩ : ∃ z : List Loc, z = [] := ⟨_, rfl⟩
  have hw : pw D classes (tysL ty) ad M F (pA ad M s.heap.size) s H locs := by rw [hH, hlo]; exact hw
  have hgo : W p l e ({ frames := 3, cells := 0, slots := 0, locals := 75 } : Room) s m ([.ref (ad (98)), .int (iI (a)), .int (iI (b1))]).toArray below meth c H locs 0 0 Q (F0 m 0 ls []) := by
    obtain ⟨hO, hRn, tt, dd, h102, htt, h103⟩ := id hMo
    have N0 := (hRn 0 (by decide)).1
    have hn14 := hok.2.1
    refine lv_aload_n hx hb d_M_order_0 rfl (lv_at hl 0 rfl) ?_
    refine lv_iload_n hx hb d_M_order_1 rfl (lv_at hl 1 rfl) ?_
    refine pw_calli hw (va_runS (As := [.int (iI (a))]) (rest := [.ref (ad (98))]) ⟨hx, hb, hml, hown, hq⟩ (c_M_isRegister l D ty ad M F H.size (a) (by omega)) (va_cwS 1 hq (gS ml_M_86 st_M_isRegister in_M m_M_isRegister) rfl rfl rfl (by decide +kernel) ⟨Nat.le_of_ble_eq_true rfl, Nat.le_of_ble_eq_true rfl⟩) (pw_preS hw) rfl rfl hl.1 rfl (lv_room (Nat.le_of_ble_eq_true rfl)) d_M_order_2 ⟨Nat.le_of_ble_eq_true rfl, Nat.le_of_ble_eq_true rfl⟩) (fun r2 F2 H locs q2 hw => ?_)
    obtain ⟨er2, eF2⟩ := q2
    rw [eF2] at hw
    clear eF2
    subst er2
    have hrg5 := rg_le a
    refine wz_if_eq (tgt := 19) hx hb d_M_order_5 (by decide) (by omega) (by omega) (fun c5 => ?_) (fun c5 => ?_)
    · have hRe : ¬ isR a := rg_z c5
      refine wz_iconst (n := 1) hx hb d_M_order_19 ?_
      refine pw_put (ci := 6) (C := R_M) (T := T_M) (N := 8) (ty := .int) (fs' := [.int (iI (1)), .ref (ad (99)), .ref (ad (100)), .ref (ad (101)), .ref (ad (102)), .int (iI ((nS g : Int))), .int (iI (pS g)), .ref (ad (103))]) hx hb hq i_M ft_M ft_M_ok n_M hown hw (by omega) hO rfl 0 (by decide) (hq _ fl_M_34) (fun _ h9 => h9) rfl (by decide +kernel) rfl rfl (Nat.le_of_ble_eq_true rfl) rfl d_M_order_20 (fun F20 H locs eF20 hw => ?_)
      have m20_98 : F20 (98) = .inr (6, [.int (iI (1)), .ref (ad (99)), .ref (ad (100)), .ref (ad (101)), .ref (ad (102)), .int (iI ((nS g : Int))), .int (iI (pS g)), .ref (ad (103))]) := by rw [eF20]; exact va_up_self ..
      have hRn_at_20 : Rn ty F20 (g) := hRn.m3 (show F20 (99) = F (99) from by rw [eF20]; exact va_up_ne _ _ (by omega)) (show F20 (100) = F (100) from by rw [eF20]; exact va_up_ne _ _ (by omega)) (show F20 (101) = F (101) from by rw [eF20]; exact va_up_ne _ _ (by omega))
      have N0_at_20 : Nm ty F20 (0) (zS g 0) := N0.m3 (show F20 (99) = F (99) from by rw [eF20]; exact va_up_ne _ _ (by omega)) (show F20 (100) = F (100) from by rw [eF20]; exact va_up_ne _ _ (by omega)) (show F20 (101) = F (101) from by rw [eF20]; exact va_up_ne _ _ (by omega))
      have h102_at_20 : F20 (102) = .inl (ty 0, 1400, .inl (tt)) := (show F20 (102) = F (102) from by rw [eF20]; exact va_up_ne _ _ (by omega)).trans h102
      have h103_at_20 : F20 (103) = .inl (ty 0, 700, .inl (dd)) := (show F20 (103) = F (103) from by rw [eF20]; exact va_up_ne _ _ (by omega)).trans h103
      refine lv_aload_n hx hb d_M_order_23 rfl (lv_at hl 0 rfl) ?_
      refine pw_get (ci := 6) (C := R_M) (T := T_M) (N := 8) hx hb hq i_M hown hw (by omega) m20_98 rfl 0 (by decide) (hq _ fl_M_34) (fun _ h9 => h9) rfl d_M_order_24 ?_
      refine wz_if_le (tgt := 34) hx hb d_M_order_27 (by decide) (by omega) (by omega) (fun c27 => ?_) (fun c27 => ?_)
      · exact absurd c27 (by omega)
      · refine wz_iconst (n := 0) hx hb d_M_order_30 ?_
        refine lv_goto (tgt := 40) hx hb d_M_order_31 (by decide) ?_
        rw [← hQ]
        exact pw_iret hx hb hr hlocks hw (by
          rw [o_order, cif_neg (fun h9 => by first | exact hRe h9.1 | exact hRe h9.2)]
          exact ⟨rfl, Mo.mk' ⟨rfl, rfl, rfl⟩ m20_98 hRn_at_20 h102_at_20 htt h103_at_20, fun y9 h1 => show F20 (y9) = F (y9) from by rw [eF20]; exact va_up_ne _ _ (by omega)⟩) d_M_order_40
    · have hRa : isR a := rg_nz c5
      refine lv_iload_n hx hb d_M_order_8 rfl (lv_at hl 2 rfl) ?_
      refine pw_calli hw (va_runS (As := [.int (iI (b1))]) (rest := [.ref (ad (98))]) ⟨hx, hb, hml, hown, hq⟩ (c_M_isRegister l D ty ad M F H.size (b1) (by omega)) (va_cwS 1 hq (gS ml_M_86 st_M_isRegister in_M m_M_isRegister) rfl rfl rfl (by decide +kernel) ⟨Nat.le_of_ble_eq_true rfl, Nat.le_of_ble_eq_true rfl⟩) (pw_preS hw) rfl rfl hl.1 rfl (lv_room (Nat.le_of_ble_eq_true rfl)) d_M_order_9 ⟨Nat.le_of_ble_eq_true rfl, Nat.le_of_ble_eq_true rfl⟩) (fun r9 F9 H locs q9 hw => ?_)
      obtain ⟨er9, eF9⟩ := q9
      rw [eF9] at hw
      clear eF9
      subst er9
      have hrg12 := rg_le b1
      refine wz_if_eq (tgt := 19) hx hb d_M_order_12 (by decide) (by omega) (by omega) (fun c12 => ?_) (fun c12 => ?_)
      · have hRe : ¬ isR b1 := rg_z c12
        refine wz_iconst (n := 1) hx hb d_M_order_19 ?_
        refine pw_put (ci := 6) (C := R_M) (T := T_M) (N := 8) (ty := .int) (fs' := [.int (iI (1)), .ref (ad (99)), .ref (ad (100)), .ref (ad (101)), .ref (ad (102)), .int (iI ((nS g : Int))), .int (iI (pS g)), .ref (ad (103))]) hx hb hq i_M ft_M ft_M_ok n_M hown hw (by omega) hO rfl 0 (by decide) (hq _ fl_M_34) (fun _ h9 => h9) rfl (by decide +kernel) rfl rfl (Nat.le_of_ble_eq_true rfl) rfl d_M_order_20 (fun F20 H locs eF20 hw => ?_)
        have m20_98 : F20 (98) = .inr (6, [.int (iI (1)), .ref (ad (99)), .ref (ad (100)), .ref (ad (101)), .ref (ad (102)), .int (iI ((nS g : Int))), .int (iI (pS g)), .ref (ad (103))]) := by rw [eF20]; exact va_up_self ..
        have hRn_at_20 : Rn ty F20 (g) := hRn.m3 (show F20 (99) = F (99) from by rw [eF20]; exact va_up_ne _ _ (by omega)) (show F20 (100) = F (100) from by rw [eF20]; exact va_up_ne _ _ (by omega)) (show F20 (101) = F (101) from by rw [eF20]; exact va_up_ne _ _ (by omega))
        have N0_at_20 : Nm ty F20 (0) (zS g 0) := N0.m3 (show F20 (99) = F (99) from by rw [eF20]; exact va_up_ne _ _ (by omega)) (show F20 (100) = F (100) from by rw [eF20]; exact va_up_ne _ _ (by omega)) (show F20 (101) = F (101) from by rw [eF20]; exact va_up_ne _ _ (by omega))
        have h102_at_20 : F20 (102) = .inl (ty 0, 1400, .inl (tt)) := (show F20 (102) = F (102) from by rw [eF20]; exact va_up_ne _ _ (by omega)).trans h102
        have h103_at_20 : F20 (103) = .inl (ty 0, 700, .inl (dd)) := (show F20 (103) = F (103) from by rw [eF20]; exact va_up_ne _ _ (by omega)).trans h103
        refine lv_aload_n hx hb d_M_order_23 rfl (lv_at hl 0 rfl) ?_
        refine pw_get (ci := 6) (C := R_M) (T := T_M) (N := 8) hx hb hq i_M hown hw (by omega) m20_98 rfl 0 (by decide) (hq _ fl_M_34) (fun _ h9 => h9) rfl d_M_order_24 ?_
        refine wz_if_le (tgt := 34) hx hb d_M_order_27 (by decide) (by omega) (by omega) (fun c27 => ?_) (fun c27 => ?_)
        · exact absurd c27 (by omega)
        · refine wz_iconst (n := 0) hx hb d_M_order_30 ?_
          refine lv_goto (tgt := 40) hx hb d_M_order_31 (by decide) ?_
          rw [← hQ]
          exact pw_iret hx hb hr hlocks hw (by
            rw [o_order, cif_neg (fun h9 => by first | exact hRe h9.1 | exact hRe h9.2)]
            exact ⟨rfl, Mo.mk' ⟨rfl, rfl, rfl⟩ m20_98 hRn_at_20 h102_at_20 htt h103_at_20, fun y9 h1 => show F20 (y9) = F (y9) from by rw [eF20]; exact va_up_ne _ _ (by omega)⟩) d_M_order_40
      · have hRb1 : isR b1 := rg_nz c12
        refine wz_iconst (n := 0) hx hb d_M_order_15 ?_
        refine lv_goto (tgt := 20) hx hb d_M_order_16 (by decide) ?_
        refine pw_put (ci := 6) (C := R_M) (T := T_M) (N := 8) (ty := .int) (fs' := [.int (iI (0)), .ref (ad (99)), .ref (ad (100)), .ref (ad (101)), .ref (ad (102)), .int (iI ((nS g : Int))), .int (iI (pS g)), .ref (ad (103))]) hx hb hq i_M ft_M ft_M_ok n_M hown hw (by omega) hO rfl 0 (by decide) (hq _ fl_M_34) (fun _ h9 => h9) rfl (by decide +kernel) rfl rfl (Nat.le_of_ble_eq_true rfl) rfl d_M_order_20 (fun F20 H locs eF20 hw => ?_)
        have m20_98 : F20 (98) = .inr (6, [.int (iI (0)), .ref (ad (99)), .ref (ad (100)), .ref (ad (101)), .ref (ad (102)), .int (iI ((nS g : Int))), .int (iI (pS g)), .ref (ad (103))]) := by rw [eF20]; exact va_up_self ..
        have hRn_at_20 : Rn ty F20 (g) := hRn.m3 (show F20 (99) = F (99) from by rw [eF20]; exact va_up_ne _ _ (by omega)) (show F20 (100) = F (100) from by rw [eF20]; exact va_up_ne _ _ (by omega)) (show F20 (101) = F (101) from by rw [eF20]; exact va_up_ne _ _ (by omega))
        have N0_at_20 : Nm ty F20 (0) (zS g 0) := N0.m3 (show F20 (99) = F (99) from by rw [eF20]; exact va_up_ne _ _ (by omega)) (show F20 (100) = F (100) from by rw [eF20]; exact va_up_ne _ _ (by omega)) (show F20 (101) = F (101) from by rw [eF20]; exact va_up_ne _ _ (by omega))
        have h102_at_20 : F20 (102) = .inl (ty 0, 1400, .inl (tt)) := (show F20 (102) = F (102) from by rw [eF20]; exact va_up_ne _ _ (by omega)).trans h102
        have h103_at_20 : F20 (103) = .inl (ty 0, 700, .inl (dd)) := (show F20 (103) = F (103) from by rw [eF20]; exact va_up_ne _ _ (by omega)).trans h103
        refine lv_aload_n hx hb d_M_order_23 rfl (lv_at hl 0 rfl) ?_
        refine pw_get (ci := 6) (C := R_M) (T := T_M) (N := 8) hx hb hq i_M hown hw (by omega) m20_98 rfl 0 (by decide) (hq _ fl_M_34) (fun _ h9 => h9) rfl d_M_order_24 ?_
        refine wz_if_le (tgt := 34) hx hb d_M_order_27 (by decide) (by omega) (by omega) (fun c27 => ?_) (fun c27 => ?_)
        · obtain ⟨ua, hua⟩ : ∃ u : Nat, a = (u : Int) := ⟨(a).toNat, by have := hRa.1; omega⟩
          have h16a : ua < 16 := by have := hRa.2; omega
          obtain ⟨ub1, hub1⟩ : ∃ u : Nat, b1 = (u : Int) := ⟨(b1).toNat, by have := hRb1.1; omega⟩
          have h16b1 : ub1 < 16 := by have := hRb1.2; omega
          rw [hua, hub1] at hl
          refine lv_aload_n hx hb d_M_order_34 rfl (lv_at hl 0 rfl) ?_
          refine lv_iload_n hx hb d_M_order_35 rfl (lv_at hl 1 rfl) ?_
          refine lv_iload_n hx hb d_M_order_36 rfl (lv_at hl 2 rfl) ?_
          refine pw_calli hw (va_runV (As := [.int (iI ((ua : Int))), .int (iI ((ub1 : Int)))]) (rest := []) ⟨hx, hb, hml, hown, hq⟩ (c_M_compare l D ty ad M F20 H.size hM (0) ((nS g : Int)) (pS g) m20_98 g ua ub1 h16a h16b1 hRn_at_20 hok) (cwV 2 hq (gV ml_M_101 im_M_compare se_M_compare in_M m_M_compare) rfl rfl rfl (by decide +kernel) ⟨Nat.le_of_ble_eq_true rfl, Nat.le_of_ble_eq_true rfl⟩) (pw_preV hw (by omega) m20_98 rfl) rfl rfl hl.1 rfl (lv_room (Nat.le_of_ble_eq_true rfl)) d_M_order_37 ⟨Nat.le_of_ble_eq_true rfl, Nat.le_of_ble_eq_true rfl⟩) (fun r37 F37 H locs q37 hw => ?_)
          obtain ⟨er37, hk37, hf37⟩ := q37
          have hRn_at_37 : Rn ty F37 (g) := hRn_at_20.kq hk37 (fun c9 h8 h9 => by first | omega | (dsimp only at h9; omega))
          have N0_at_37 : Nm ty F37 (0) (zS g 0) := hk37 _ _ (by omega) (by first | omega | (dsimp only; omega)) N0_at_20
          have h102_at_37 : F37 (102) = .inl (ty 0, 1400, .inl (tt)) := (hf37 (102) (by omega) (by omega) (by omega)).trans h102_at_20
          have h103_at_37 : F37 (103) = .inl (ty 0, 700, .inl (dd)) := (hf37 (103) (by omega) (by omega) (by omega)).trans h103_at_20
          have m20_98_at_37 : F37 (98) = .inr (6, [.int (iI (0)), .ref (ad (99)), .ref (ad (100)), .ref (ad (101)), .ref (ad (102)), .int (iI ((nS g : Int))), .int (iI (pS g)), .ref (ad (103))]) := (hf37 (98) (by omega) (by omega) (by omega)).trans m20_98
          rw [← hQ]
          exact pw_iret hx hb hr hlocks hw (by
            rw [o_order, cif_pos ⟨hRa, hRb1⟩, show a.toNat = ua by omega, show b1.toNat = ub1 by omega]
            exact ⟨er37, Mo.mk' ⟨rfl, rfl, rfl⟩ m20_98_at_37 hRn_at_37 h102_at_37 htt h103_at_37, fun y9 h1 => (hf37 (y9) (by omega) (by omega) (by omega)).trans (show F20 (y9) = F (y9) from by rw [eF20]; exact va_up_ne _ _ (by omega))⟩) d_M_order_40
        · exact absurd c27 (by omega)
  rw [hH, hlo] at hgo
  exact hgo
set_option maxHeartbeats 4000000 in
set_option maxRecDepth 100000 in
/-- sign(a) -/
theorem c_M_sign (l : Launch) (D : va_G) (ty : Nat → ClassId) (ad : Nat → Nat) (M : Nat) (F : Nat → va_E) (sz : Nat) (hM : 103 < M) (g : Sg) (co : Int) (hMo : Mo ty ad F co g) (hok : okS g) (a : Int) (ha : -2147483648 ≤ a ∧ a < 2147483648) :
    CI l y_M_sign w_M_sign ({ frames := 1, cells := 0, slots := 0, locals := 20 } : Room) [.ref (ad (98)), .int (iI (a))] D ty ad M F sz (fun r F1 => r = iI (o_sign g a).2.1 ∧ Mo ty ad F1 (o_sign g a).1 (o_sign g a).2.2 ∧ frP F F1) := by
  refine Met.ofW (cc := b_M_sign) (maxL := 2) (ret := (some .int)) (by decide) rfl ?_
  intro p e s m args below meth c s₁ B hml hv
  obtain ⟨rfl, hsz, hP, hK, hD0⟩ := hv
  have hx := B.exec
  have hb := B.bytes
  have hr := B.returns
  have hts := atoms_spec (ws := w_M_sign) B.pre
  have hq : ∀ w ∈ wT, w.before _ s = true := fun w h => hts w (List.mem_cons_of_mem _ h)
  have hown : s.vm.findClass R_M = some m.cls := findClass_of_methodNamed B.named
  have hlocks := B.notSynchronized
  subst hsz
  have hw := pw_start hP hK hD0
  have hl := lv_entry ([.ref (ad (98)), .int (iI (a))]) (n := 2) (Nat.le_of_ble_eq_true rfl)
  rw [lg_entry_eq]
  generalize (lg_sl ([.ref (ad (98)), .int (iI (a))]) ++ List.replicate (2 - (lg_sl ([.ref (ad (98)), .int (iI (a))])).length) Slot.unset).toArray = ls at hl ⊢
  have hl : lv_has ls 2 [(0, .ref (ad (98))), (1, .int (iI (a)))] := hl
  change W p l e ({ frames := 1, cells := 0, slots := 0, locals := 20 } : Room) s m ([.ref (ad (98)), .int (iI (a))]).toArray below meth c s.heap [] 0 0 (MQ below (va_Qi (fun r F1 => r = iI (o_sign g a).2.1 ∧ Mo ty ad F1 (o_sign g a).1 (o_sign g a).2.2 ∧ frP F F1) (pAt D classes (tysL ty) ad M (pA ad M s.heap.size)) (pA ad M s.heap.size)) ([.ref (ad (98)), .int (iI (a))]).toArray s 0 0 (pA ad M s.heap.size)) (F0 m 0 ls [])
  generalize hQ : MQ below (va_Qi (fun r F1 => r = iI (o_sign g a).2.1 ∧ Mo ty ad F1 (o_sign g a).1 (o_sign g a).2.2 ∧ frP F F1) (pAt D classes (tysL ty) ad M (pA ad M s.heap.size)) (pA ad M s.heap.size)) ([.ref (ad (98)), .int (iI (a))]).toArray s 0 0 (pA ad M s.heap.size) = Q
  obtain ⟨H, hH⟩ : ∃ H, H = s.heap := ⟨_, rfl⟩
  obtain ⟨locs, hlo⟩ : ∃ z : List Loc, z = [] := ⟨_, rfl⟩
  have hw : pw D classes (tysL ty) ad M F (pA ad M s.heap.size) s H locs := by rw [hH, hlo]; exact hw
  have hgo : W p l e ({ frames := 1, cells := 0, slots := 0, locals := 20 } : Room) s m ([.ref (ad (98)), .int (iI (a))]).toArray below meth c H locs 0 0 Q (F0 m 0 ls []) := by
    obtain ⟨hO, hRn, tt, dd, h102, htt, h103⟩ := id hMo
    have N0 := (hRn 0 (by decide)).1
    have hn14 := hok.2.1
    refine lv_aload_n hx hb d_M_sign_0 rfl (lv_at hl 0 rfl) ?_
    refine lv_iload_n hx hb d_M_sign_1 rfl (lv_at hl 1 rfl) ?_
    refine pw_calli hw (va_runS (As := [.int (iI (a))]) (rest := [.ref (ad (98))]) ⟨hx, hb, hml, hown, hq⟩ (c_M_isRegister l D ty ad M F H.size (a) (by omega)) (va_cwS 1 hq (gS ml_M_86 st_M_isRegister in_M m_M_isRegister) rfl rfl rfl (by decide +kernel) ⟨Nat.le_of_ble_eq_true rfl, Nat.le_of_ble_eq_true rfl⟩) (pw_preS hw) rfl rfl hl.1 rfl (lv_room (Nat.le_of_ble_eq_true rfl)) d_M_sign_2 ⟨Nat.le_of_ble_eq_true rfl, Nat.le_of_ble_eq_true rfl⟩) (fun r2 F2 H locs q2 hw => ?_)
    obtain ⟨er2, eF2⟩ := q2
    rw [eF2] at hw
    clear eF2
    subst er2
    have hrg5 := rg_le a
    refine wz_if_eq (tgt := 12) hx hb d_M_sign_5 (by decide) (by omega) (by omega) (fun c5 => ?_) (fun c5 => ?_)
    · have hRe : ¬ isR a := rg_z c5
      refine wz_iconst (n := 1) hx hb d_M_sign_12 ?_
      refine pw_put (ci := 6) (C := R_M) (T := T_M) (N := 8) (ty := .int) (fs' := [.int (iI (1)), .ref (ad (99)), .ref (ad (100)), .ref (ad (101)), .ref (ad (102)), .int (iI ((nS g : Int))), .int (iI (pS g)), .ref (ad (103))]) hx hb hq i_M ft_M ft_M_ok n_M hown hw (by omega) hO rfl 0 (by decide) (hq _ fl_M_34) (fun _ h9 => h9) rfl (by decide +kernel) rfl rfl (Nat.le_of_ble_eq_true rfl) rfl d_M_sign_13 (fun F13 H locs eF13 hw => ?_)
      have m13_98 : F13 (98) = .inr (6, [.int (iI (1)), .ref (ad (99)), .ref (ad (100)), .ref (ad (101)), .ref (ad (102)), .int (iI ((nS g : Int))), .int (iI (pS g)), .ref (ad (103))]) := by rw [eF13]; exact va_up_self ..
      have hRn_at_13 : Rn ty F13 (g) := hRn.m3 (show F13 (99) = F (99) from by rw [eF13]; exact va_up_ne _ _ (by omega)) (show F13 (100) = F (100) from by rw [eF13]; exact va_up_ne _ _ (by omega)) (show F13 (101) = F (101) from by rw [eF13]; exact va_up_ne _ _ (by omega))
      have N0_at_13 : Nm ty F13 (0) (zS g 0) := N0.m3 (show F13 (99) = F (99) from by rw [eF13]; exact va_up_ne _ _ (by omega)) (show F13 (100) = F (100) from by rw [eF13]; exact va_up_ne _ _ (by omega)) (show F13 (101) = F (101) from by rw [eF13]; exact va_up_ne _ _ (by omega))
      have h102_at_13 : F13 (102) = .inl (ty 0, 1400, .inl (tt)) := (show F13 (102) = F (102) from by rw [eF13]; exact va_up_ne _ _ (by omega)).trans h102
      have h103_at_13 : F13 (103) = .inl (ty 0, 700, .inl (dd)) := (show F13 (103) = F (103) from by rw [eF13]; exact va_up_ne _ _ (by omega)).trans h103
      refine lv_aload_n hx hb d_M_sign_16 rfl (lv_at hl 0 rfl) ?_
      refine pw_get (ci := 6) (C := R_M) (T := T_M) (N := 8) hx hb hq i_M hown hw (by omega) m13_98 rfl 0 (by decide) (hq _ fl_M_34) (fun _ h9 => h9) rfl d_M_sign_17 ?_
      refine wz_if_gt (tgt := 32) hx hb d_M_sign_20 (by decide) (by omega) (by omega) (fun c20 => ?_) (fun c20 => ?_)
      · refine wz_iconst (n := 0) hx hb d_M_sign_32 ?_
        refine lv_goto (tgt := 50) hx hb d_M_sign_33 (by decide) ?_
        rw [← hQ]
        exact pw_iret hx hb hr hlocks hw (by
          rw [o_sign, cif_neg hRe]
          exact ⟨rfl, Mo.mk' ⟨rfl, rfl, rfl⟩ m13_98 hRn_at_13 h102_at_13 htt h103_at_13, fun y9 h1 => show F13 (y9) = F (y9) from by rw [eF13]; exact va_up_ne _ _ (by omega)⟩) d_M_sign_50
      · exact absurd c20 (by omega)
    · have hRa : isR a := rg_nz c5
      refine wz_iconst (n := 0) hx hb d_M_sign_8 ?_
      refine lv_goto (tgt := 13) hx hb d_M_sign_9 (by decide) ?_
      refine pw_put (ci := 6) (C := R_M) (T := T_M) (N := 8) (ty := .int) (fs' := [.int (iI (0)), .ref (ad (99)), .ref (ad (100)), .ref (ad (101)), .ref (ad (102)), .int (iI ((nS g : Int))), .int (iI (pS g)), .ref (ad (103))]) hx hb hq i_M ft_M ft_M_ok n_M hown hw (by omega) hO rfl 0 (by decide) (hq _ fl_M_34) (fun _ h9 => h9) rfl (by decide +kernel) rfl rfl (Nat.le_of_ble_eq_true rfl) rfl d_M_sign_13 (fun F13 H locs eF13 hw => ?_)
      have m13_98 : F13 (98) = .inr (6, [.int (iI (0)), .ref (ad (99)), .ref (ad (100)), .ref (ad (101)), .ref (ad (102)), .int (iI ((nS g : Int))), .int (iI (pS g)), .ref (ad (103))]) := by rw [eF13]; exact va_up_self ..
      have hRn_at_13 : Rn ty F13 (g) := hRn.m3 (show F13 (99) = F (99) from by rw [eF13]; exact va_up_ne _ _ (by omega)) (show F13 (100) = F (100) from by rw [eF13]; exact va_up_ne _ _ (by omega)) (show F13 (101) = F (101) from by rw [eF13]; exact va_up_ne _ _ (by omega))
      have N0_at_13 : Nm ty F13 (0) (zS g 0) := N0.m3 (show F13 (99) = F (99) from by rw [eF13]; exact va_up_ne _ _ (by omega)) (show F13 (100) = F (100) from by rw [eF13]; exact va_up_ne _ _ (by omega)) (show F13 (101) = F (101) from by rw [eF13]; exact va_up_ne _ _ (by omega))
      have h102_at_13 : F13 (102) = .inl (ty 0, 1400, .inl (tt)) := (show F13 (102) = F (102) from by rw [eF13]; exact va_up_ne _ _ (by omega)).trans h102
      have h103_at_13 : F13 (103) = .inl (ty 0, 700, .inl (dd)) := (show F13 (103) = F (103) from by rw [eF13]; exact va_up_ne _ _ (by omega)).trans h103
      refine lv_aload_n hx hb d_M_sign_16 rfl (lv_at hl 0 rfl) ?_
      refine pw_get (ci := 6) (C := R_M) (T := T_M) (N := 8) hx hb hq i_M hown hw (by omega) m13_98 rfl 0 (by decide) (hq _ fl_M_34) (fun _ h9 => h9) rfl d_M_sign_17 ?_
      refine wz_if_gt (tgt := 32) hx hb d_M_sign_20 (by decide) (by omega) (by omega) (fun c20 => ?_) (fun c20 => ?_)
      · exact absurd c20 (by omega)
      · obtain ⟨ua, hua⟩ : ∃ u : Nat, a = (u : Int) := ⟨(a).toNat, by have := hRa.1; omega⟩
        have h16a : ua < 16 := by have := hRa.2; omega
        rw [hua] at hl
        have Nua := (hRn_at_13 ua h16a).1
        refine lv_aload_n hx hb d_M_sign_23 rfl (lv_at hl 0 rfl) ?_
        refine pw_get (ci := 6) (C := R_M) (T := T_M) (N := 8) hx hb hq i_M hown hw (by omega) m13_98 rfl 2 (by decide) (hq _ fl_M_13) (fun _ h9 => h9) rfl d_M_sign_24 ?_
        refine lv_iload_n hx hb d_M_sign_27 rfl (lv_at hl 1 rfl) ?_
        obtain ⟨P28, S28, G28, ⟨a28_99, a28_100, a28_101⟩, ⟨ns, hS28, h328, hD28, ht28, hv28⟩, hG28⟩ := id Nua
        have hz28 := bvP_z ht28
        rw [hv28] at hz28
        refine pw_iald (k := ua) hx hb hw 0 (by omega) a28_100 rfl (iI_in (by omega) (by omega) (by omega)) ((iI_cl (by omega) (by omega)).trans (by omega)) d_M_sign_28 ?_
        refine lv_topi (fun x28 ex28 => ?_)
        obtain rfl : x28 = iI ((ns : Int)) := ex28.trans (hS28)
        refine wz_if_ne (tgt := 36) hx hb d_M_sign_29 (by decide) (by omega) (by omega) (fun c29 => ?_) (fun c29 => ?_)
        · refine lv_aload_n hx hb d_M_sign_36 rfl (lv_at hl 0 rfl) ?_
          refine pw_get (ci := 6) (C := R_M) (T := T_M) (N := 8) hx hb hq i_M hown hw (by omega) m13_98 rfl 3 (by decide) (hq _ fl_M_16) (fun _ h9 => h9) rfl d_M_sign_37 ?_
          refine lv_iload_n hx hb d_M_sign_40 rfl (lv_at hl 1 rfl) ?_
          obtain ⟨P41, S41, G41, ⟨a41_99, a41_100, a41_101⟩, ⟨n41, hS41, h341, hD41, ht41, hv41⟩, hG41⟩ := id Nua
          have hs41 := sB_c (zS g ua)
          refine pw_zald (k := ua) hx hb hw 4 (by omega) a41_101 rfl (iI_in (by omega) (by omega) (by omega)) ((iI_cl (by omega) (by omega)).trans (by omega)) d_M_sign_41 ?_
          refine lv_topi (fun x41 ex41 => ?_)
          obtain rfl : x41 = iI ((sB (zS g ua) : Int)) := ex41.trans (hG41)
          refine wz_if_eq (tgt := 49) hx hb d_M_sign_42 (by decide) (by omega) (by omega) (fun c42 => ?_) (fun c42 => ?_)
          · refine wz_iconst (n := 1) hx hb d_M_sign_49 ?_
            rw [← hQ]
            exact pw_iret hx hb hr hlocks hw (by
              rw [o_sign, cif_pos hRa, show a.toNat = ua by omega]
              exact ⟨sign_p (by omega), Mo.mk' ⟨rfl, rfl, rfl⟩ m13_98 hRn_at_13 h102_at_13 htt h103_at_13, fun y9 h1 => show F13 (y9) = F (y9) from by rw [eF13]; exact va_up_ne _ _ (by omega)⟩) d_M_sign_50
          · refine wz_iconst (n := -1) hx hb d_M_sign_45 ?_
            refine lv_goto (tgt := 50) hx hb d_M_sign_46 (by decide) ?_
            rw [← hQ]
            exact pw_iret hx hb hr hlocks hw (by
              rw [o_sign, cif_pos hRa, show a.toNat = ua by omega]
              exact ⟨sign_m (by omega), Mo.mk' ⟨rfl, rfl, rfl⟩ m13_98 hRn_at_13 h102_at_13 htt h103_at_13, fun y9 h1 => show F13 (y9) = F (y9) from by rw [eF13]; exact va_up_ne _ _ (by omega)⟩) d_M_sign_50
        · refine wz_iconst (n := 0) hx hb d_M_sign_32 ?_
          refine lv_goto (tgt := 50) hx hb d_M_sign_33 (by decide) ?_
          rw [← hQ]
          exact pw_iret hx hb hr hlocks hw (by
            rw [o_sign, cif_pos hRa, show a.toNat = ua by omega]
            exact ⟨sign_0 (by omega), Mo.mk' ⟨rfl, rfl, rfl⟩ m13_98 hRn_at_13 h102_at_13 htt h103_at_13, fun y9 h1 => show F13 (y9) = F (y9) from by rw [eF13]; exact va_up_ne _ _ (by omega)⟩) d_M_sign_50
  rw [hH, hlo] at hgo
  exact hgo
set_option maxHeartbeats 4000000 in
set_option maxRecDepth 100000 in
/-- look(a, which) -/
theorem c_M_look (l : Launch) (D : va_G) (ty : Nat → ClassId) (ad : Nat → Nat) (M : Nat) (F : Nat → va_E) (sz : Nat) (hM : 103 < M) (g : Sg) (co : Int) (hMo : Mo ty ad F co g) (hok : okS g) (a : Int) (ha : -2147483648 ≤ a ∧ a < 2147483648) (w : Int) (hw : -2147483648 ≤ w ∧ w < 2147483648) :
    CV l y_M_look w_M_look ({ frames := 1, cells := 0, slots := 0, locals := 20 } : Room) [.ref (ad (98)), .int (iI (a)), .int (iI (w))] D ty ad M F sz (fun F1 => Mo ty ad F1 (lk a w) g ∧ frP F F1) := by
  refine Met.ofW (cc := b_M_look) (maxL := 3) (ret := none) (by decide) rfl ?_
  intro p e s m args below meth c s₁ B hml hv
  obtain ⟨rfl, hsz, hP, hK, hD0⟩ := hv
  have hx := B.exec
  have hb := B.bytes
  have hr := B.returns
  have hts := atoms_spec (ws := w_M_look) B.pre
  have hq : ∀ w ∈ wT, w.before _ s = true := fun w h => hts w (List.mem_cons_of_mem _ h)
  have hown : s.vm.findClass R_M = some m.cls := findClass_of_methodNamed B.named
  have hlocks := B.notSynchronized
  subst hsz
  have hw := pw_start hP hK hD0
  have hl := lv_entry ([.ref (ad (98)), .int (iI (a)), .int (iI (w))]) (n := 3) (Nat.le_of_ble_eq_true rfl)
  rw [lg_entry_eq]
  generalize (lg_sl ([.ref (ad (98)), .int (iI (a)), .int (iI (w))]) ++ List.replicate (3 - (lg_sl ([.ref (ad (98)), .int (iI (a)), .int (iI (w))])).length) Slot.unset).toArray = ls at hl ⊢
  have hl : lv_has ls 3 [(0, .ref (ad (98))), (1, .int (iI (a))), (2, .int (iI (w)))] := hl
  change W p l e ({ frames := 1, cells := 0, slots := 0, locals := 20 } : Room) s m ([.ref (ad (98)), .int (iI (a)), .int (iI (w))]).toArray below meth c s.heap [] 0 0 (MQ below (va_Qv (fun F1 => Mo ty ad F1 (lk a w) g ∧ frP F F1) (pAt D classes (tysL ty) ad M (pA ad M s.heap.size)) (pA ad M s.heap.size)) ([.ref (ad (98)), .int (iI (a)), .int (iI (w))]).toArray s 0 0 (pA ad M s.heap.size)) (F0 m 0 ls [])
  generalize hQ : MQ below (va_Qv (fun F1 => Mo ty ad F1 (lk a w) g ∧ frP F F1) (pAt D classes (tysL ty) ad M (pA ad M s.heap.size)) (pA ad M s.heap.size)) ([.ref (ad (98)), .int (iI (a)), .int (iI (w))]).toArray s 0 0 (pA ad M s.heap.size) = Q
  obtain ⟨H, hH⟩ : ∃ H, H = s.heap := ⟨_, rfl⟩
  obtain ⟨locs, hlo⟩ : ∃ z : List Loc, z = [] := ⟨_, rfl⟩
  have hw : pw D classes (tysL ty) ad M F (pA ad M s.heap.size) s H locs := by rw [hH, hlo]; exact hw
  have hgo : W p l e ({ frames := 1, cells := 0, slots := 0, locals := 20 } : Room) s m ([.ref (ad (98)), .int (iI (a)), .int (iI (w))]).toArray below meth c H locs 0 0 Q (F0 m 0 ls []) := by
    obtain ⟨hO, hRn, tt, dd, h102, htt, h103⟩ := id hMo
    have N0 := (hRn 0 (by decide)).1
    have hn14 := hok.2.1
    refine lv_aload_n hx hb d_M_look_0 rfl (lv_at hl 0 rfl) ?_
    refine lv_iload_n hx hb d_M_look_1 rfl (lv_at hl 1 rfl) ?_
    refine pw_calli hw (va_runS (As := [.int (iI (a))]) (rest := [.ref (ad (98))]) ⟨hx, hb, hml, hown, hq⟩ (c_M_isRegister l D ty ad M F H.size (a) (by omega)) (va_cwS 1 hq (gS ml_M_86 st_M_isRegister in_M m_M_isRegister) rfl rfl rfl (by decide +kernel) ⟨Nat.le_of_ble_eq_true rfl, Nat.le_of_ble_eq_true rfl⟩) (pw_preS hw) rfl rfl hl.1 rfl (lv_room (Nat.le_of_ble_eq_true rfl)) d_M_look_2 ⟨Nat.le_of_ble_eq_true rfl, Nat.le_of_ble_eq_true rfl⟩) (fun r2 F2 H locs q2 hw => ?_)
    obtain ⟨er2, eF2⟩ := q2
    rw [eF2] at hw
    clear eF2
    subst er2
    have hrg5 := rg_le a
    refine wz_if_eq (tgt := 21) hx hb d_M_look_5 (by decide) (by omega) (by omega) (fun c5 => ?_) (fun c5 => ?_)
    · have hRe : ¬ isR a := rg_z c5
      refine wz_iconst (n := 1) hx hb d_M_look_21 ?_
      refine pw_put (ci := 6) (C := R_M) (T := T_M) (N := 8) (ty := .int) (fs' := [.int (iI (1)), .ref (ad (99)), .ref (ad (100)), .ref (ad (101)), .ref (ad (102)), .int (iI ((nS g : Int))), .int (iI (pS g)), .ref (ad (103))]) hx hb hq i_M ft_M ft_M_ok n_M hown hw (by omega) hO rfl 0 (by decide) (hq _ fl_M_34) (fun _ h9 => h9) rfl (by decide +kernel) rfl rfl (Nat.le_of_ble_eq_true rfl) rfl d_M_look_22 (fun F22 H locs eF22 hw => ?_)
      have m22_98 : F22 (98) = .inr (6, [.int (iI (1)), .ref (ad (99)), .ref (ad (100)), .ref (ad (101)), .ref (ad (102)), .int (iI ((nS g : Int))), .int (iI (pS g)), .ref (ad (103))]) := by rw [eF22]; exact va_up_self ..
      have hRn_at_22 : Rn ty F22 (g) := hRn.m3 (show F22 (99) = F (99) from by rw [eF22]; exact va_up_ne _ _ (by omega)) (show F22 (100) = F (100) from by rw [eF22]; exact va_up_ne _ _ (by omega)) (show F22 (101) = F (101) from by rw [eF22]; exact va_up_ne _ _ (by omega))
      have N0_at_22 : Nm ty F22 (0) (zS g 0) := N0.m3 (show F22 (99) = F (99) from by rw [eF22]; exact va_up_ne _ _ (by omega)) (show F22 (100) = F (100) from by rw [eF22]; exact va_up_ne _ _ (by omega)) (show F22 (101) = F (101) from by rw [eF22]; exact va_up_ne _ _ (by omega))
      have h102_at_22 : F22 (102) = .inl (ty 0, 1400, .inl (tt)) := (show F22 (102) = F (102) from by rw [eF22]; exact va_up_ne _ _ (by omega)).trans h102
      have h103_at_22 : F22 (103) = .inl (ty 0, 700, .inl (dd)) := (show F22 (103) = F (103) from by rw [eF22]; exact va_up_ne _ _ (by omega)).trans h103
      rw [← hQ]
      exact pw_vret hx hb hr hlocks hw (by
        rw [lk, cif_neg (fun h9 => by first | exact hRe h9.1 | (have := h9.2; omega))]
        exact ⟨Mo.mk' ⟨rfl, rfl, rfl⟩ m22_98 hRn_at_22 h102_at_22 htt h103_at_22, fun y9 h1 => show F22 (y9) = F (y9) from by rw [eF22]; exact va_up_ne _ _ (by omega)⟩) d_M_look_25
    · have hRa : isR a := rg_nz c5
      refine lv_iload_n hx hb d_M_look_8 rfl (lv_at hl 2 rfl) ?_
      refine wz_if_lt (tgt := 21) hx hb d_M_look_9 (by decide) (by omega) (by omega) (fun c9 => ?_) (fun c9 => ?_)
      · refine wz_iconst (n := 1) hx hb d_M_look_21 ?_
        refine pw_put (ci := 6) (C := R_M) (T := T_M) (N := 8) (ty := .int) (fs' := [.int (iI (1)), .ref (ad (99)), .ref (ad (100)), .ref (ad (101)), .ref (ad (102)), .int (iI ((nS g : Int))), .int (iI (pS g)), .ref (ad (103))]) hx hb hq i_M ft_M ft_M_ok n_M hown hw (by omega) hO rfl 0 (by decide) (hq _ fl_M_34) (fun _ h9 => h9) rfl (by decide +kernel) rfl rfl (Nat.le_of_ble_eq_true rfl) rfl d_M_look_22 (fun F22 H locs eF22 hw => ?_)
        have m22_98 : F22 (98) = .inr (6, [.int (iI (1)), .ref (ad (99)), .ref (ad (100)), .ref (ad (101)), .ref (ad (102)), .int (iI ((nS g : Int))), .int (iI (pS g)), .ref (ad (103))]) := by rw [eF22]; exact va_up_self ..
        have hRn_at_22 : Rn ty F22 (g) := hRn.m3 (show F22 (99) = F (99) from by rw [eF22]; exact va_up_ne _ _ (by omega)) (show F22 (100) = F (100) from by rw [eF22]; exact va_up_ne _ _ (by omega)) (show F22 (101) = F (101) from by rw [eF22]; exact va_up_ne _ _ (by omega))
        have N0_at_22 : Nm ty F22 (0) (zS g 0) := N0.m3 (show F22 (99) = F (99) from by rw [eF22]; exact va_up_ne _ _ (by omega)) (show F22 (100) = F (100) from by rw [eF22]; exact va_up_ne _ _ (by omega)) (show F22 (101) = F (101) from by rw [eF22]; exact va_up_ne _ _ (by omega))
        have h102_at_22 : F22 (102) = .inl (ty 0, 1400, .inl (tt)) := (show F22 (102) = F (102) from by rw [eF22]; exact va_up_ne _ _ (by omega)).trans h102
        have h103_at_22 : F22 (103) = .inl (ty 0, 700, .inl (dd)) := (show F22 (103) = F (103) from by rw [eF22]; exact va_up_ne _ _ (by omega)).trans h103
        rw [← hQ]
        exact pw_vret hx hb hr hlocks hw (by
          rw [lk, cif_neg (fun h9 => by first | exact hRe h9.1 | (have := h9.2; omega))]
          exact ⟨Mo.mk' ⟨rfl, rfl, rfl⟩ m22_98 hRn_at_22 h102_at_22 htt h103_at_22, fun y9 h1 => show F22 (y9) = F (y9) from by rw [eF22]; exact va_up_ne _ _ (by omega)⟩) d_M_look_25
      · refine lv_iload_n hx hb d_M_look_12 rfl (lv_at hl 2 rfl) ?_
        refine wz_iconst (n := 1) hx hb d_M_look_13 ?_
        refine wz_icmp_gt (tgt := 21) hx hb d_M_look_14 (by decide) (by omega) (by omega) (by omega) (by omega) (fun c14 => ?_) (fun c14 => ?_)
        · refine wz_iconst (n := 1) hx hb d_M_look_21 ?_
          refine pw_put (ci := 6) (C := R_M) (T := T_M) (N := 8) (ty := .int) (fs' := [.int (iI (1)), .ref (ad (99)), .ref (ad (100)), .ref (ad (101)), .ref (ad (102)), .int (iI ((nS g : Int))), .int (iI (pS g)), .ref (ad (103))]) hx hb hq i_M ft_M ft_M_ok n_M hown hw (by omega) hO rfl 0 (by decide) (hq _ fl_M_34) (fun _ h9 => h9) rfl (by decide +kernel) rfl rfl (Nat.le_of_ble_eq_true rfl) rfl d_M_look_22 (fun F22 H locs eF22 hw => ?_)
          have m22_98 : F22 (98) = .inr (6, [.int (iI (1)), .ref (ad (99)), .ref (ad (100)), .ref (ad (101)), .ref (ad (102)), .int (iI ((nS g : Int))), .int (iI (pS g)), .ref (ad (103))]) := by rw [eF22]; exact va_up_self ..
          have hRn_at_22 : Rn ty F22 (g) := hRn.m3 (show F22 (99) = F (99) from by rw [eF22]; exact va_up_ne _ _ (by omega)) (show F22 (100) = F (100) from by rw [eF22]; exact va_up_ne _ _ (by omega)) (show F22 (101) = F (101) from by rw [eF22]; exact va_up_ne _ _ (by omega))
          have N0_at_22 : Nm ty F22 (0) (zS g 0) := N0.m3 (show F22 (99) = F (99) from by rw [eF22]; exact va_up_ne _ _ (by omega)) (show F22 (100) = F (100) from by rw [eF22]; exact va_up_ne _ _ (by omega)) (show F22 (101) = F (101) from by rw [eF22]; exact va_up_ne _ _ (by omega))
          have h102_at_22 : F22 (102) = .inl (ty 0, 1400, .inl (tt)) := (show F22 (102) = F (102) from by rw [eF22]; exact va_up_ne _ _ (by omega)).trans h102
          have h103_at_22 : F22 (103) = .inl (ty 0, 700, .inl (dd)) := (show F22 (103) = F (103) from by rw [eF22]; exact va_up_ne _ _ (by omega)).trans h103
          rw [← hQ]
          exact pw_vret hx hb hr hlocks hw (by
            rw [lk, cif_neg (fun h9 => by first | exact hRe h9.1 | (have := h9.2; omega))]
            exact ⟨Mo.mk' ⟨rfl, rfl, rfl⟩ m22_98 hRn_at_22 h102_at_22 htt h103_at_22, fun y9 h1 => show F22 (y9) = F (y9) from by rw [eF22]; exact va_up_ne _ _ (by omega)⟩) d_M_look_25
        · refine wz_iconst (n := 0) hx hb d_M_look_17 ?_
          refine lv_goto (tgt := 22) hx hb d_M_look_18 (by decide) ?_
          refine pw_put (ci := 6) (C := R_M) (T := T_M) (N := 8) (ty := .int) (fs' := [.int (iI (0)), .ref (ad (99)), .ref (ad (100)), .ref (ad (101)), .ref (ad (102)), .int (iI ((nS g : Int))), .int (iI (pS g)), .ref (ad (103))]) hx hb hq i_M ft_M ft_M_ok n_M hown hw (by omega) hO rfl 0 (by decide) (hq _ fl_M_34) (fun _ h9 => h9) rfl (by decide +kernel) rfl rfl (Nat.le_of_ble_eq_true rfl) rfl d_M_look_22 (fun F22 H locs eF22 hw => ?_)
          have m22_98 : F22 (98) = .inr (6, [.int (iI (0)), .ref (ad (99)), .ref (ad (100)), .ref (ad (101)), .ref (ad (102)), .int (iI ((nS g : Int))), .int (iI (pS g)), .ref (ad (103))]) := by rw [eF22]; exact va_up_self ..
          have hRn_at_22 : Rn ty F22 (g) := hRn.m3 (show F22 (99) = F (99) from by rw [eF22]; exact va_up_ne _ _ (by omega)) (show F22 (100) = F (100) from by rw [eF22]; exact va_up_ne _ _ (by omega)) (show F22 (101) = F (101) from by rw [eF22]; exact va_up_ne _ _ (by omega))
          have N0_at_22 : Nm ty F22 (0) (zS g 0) := N0.m3 (show F22 (99) = F (99) from by rw [eF22]; exact va_up_ne _ _ (by omega)) (show F22 (100) = F (100) from by rw [eF22]; exact va_up_ne _ _ (by omega)) (show F22 (101) = F (101) from by rw [eF22]; exact va_up_ne _ _ (by omega))
          have h102_at_22 : F22 (102) = .inl (ty 0, 1400, .inl (tt)) := (show F22 (102) = F (102) from by rw [eF22]; exact va_up_ne _ _ (by omega)).trans h102
          have h103_at_22 : F22 (103) = .inl (ty 0, 700, .inl (dd)) := (show F22 (103) = F (103) from by rw [eF22]; exact va_up_ne _ _ (by omega)).trans h103
          rw [← hQ]
          exact pw_vret hx hb hr hlocks hw (by
            rw [lk, cif_pos ⟨hRa, by omega⟩]
            exact ⟨Mo.mk' ⟨rfl, rfl, rfl⟩ m22_98 hRn_at_22 h102_at_22 htt h103_at_22, fun y9 h1 => show F22 (y9) = F (y9) from by rw [eF22]; exact va_up_ne _ _ (by omega)⟩) d_M_look_25
  rw [hH, hlo] at hgo
  exact hgo
set_option maxHeartbeats 4000000 in
set_option maxRecDepth 100000 in
/-- places(a, which) -/
theorem c_M_places (l : Launch) (D : va_G) (ty : Nat → ClassId) (ad : Nat → Nat) (M : Nat) (F : Nat → va_E) (sz : Nat) (hM : 103 < M) (g : Sg) (co : Int) (hMo : Mo ty ad F co g) (hok : okS g) (a : Int) (ha : -2147483648 ≤ a ∧ a < 2147483648) (w : Int) (hw0 : -2147483648 ≤ w ∧ w < 2147483648) :
    CI l y_M_places w_M_places ({ frames := 2, cells := 0, slots := 0, locals := 42 } : Room) [.ref (ad (98)), .int (iI (a)), .int (iI (w))] D ty ad M F sz (fun r F1 => r = iI (o_places g a w).2.1 ∧ Mo ty ad F1 (o_places g a w).1 (o_places g a w).2.2 ∧ frP F F1) := by
  refine Met.ofW (cc := b_M_places) (maxL := 6) (ret := (some .int)) (by decide) rfl ?_
  intro p e s m args below meth c s₁ B hml hv
  obtain ⟨rfl, hsz, hP, hK, hD0⟩ := hv
  have hx := B.exec
  have hb := B.bytes
  have hr := B.returns
  have hts := atoms_spec (ws := w_M_places) B.pre
  have hq : ∀ w ∈ wT, w.before _ s = true := fun w h => hts w (List.mem_cons_of_mem _ h)
  have hown : s.vm.findClass R_M = some m.cls := findClass_of_methodNamed B.named
  have hlocks := B.notSynchronized
  subst hsz
  have hw := pw_start hP hK hD0
  have hl := lv_entry ([.ref (ad (98)), .int (iI (a)), .int (iI (w))]) (n := 6) (Nat.le_of_ble_eq_true rfl)
  rw [lg_entry_eq]
  generalize (lg_sl ([.ref (ad (98)), .int (iI (a)), .int (iI (w))]) ++ List.replicate (6 - (lg_sl ([.ref (ad (98)), .int (iI (a)), .int (iI (w))])).length) Slot.unset).toArray = ls at hl ⊢
  have hl : lv_has ls 6 [(0, .ref (ad (98))), (1, .int (iI (a))), (2, .int (iI (w)))] := hl
  change W p l e ({ frames := 2, cells := 0, slots := 0, locals := 42 } : Room) s m ([.ref (ad (98)), .int (iI (a)), .int (iI (w))]).toArray below meth c s.heap [] 0 0 (MQ below (va_Qi (fun r F1 => r = iI (o_places g a w).2.1 ∧ Mo ty ad F1 (o_places g a w).1 (o_places g a w).2.2 ∧ frP F F1) (pAt D classes (tysL ty) ad M (pA ad M s.heap.size)) (pA ad M s.heap.size)) ([.ref (ad (98)), .int (iI (a)), .int (iI (w))]).toArray s 0 0 (pA ad M s.heap.size)) (F0 m 0 ls [])
  generalize hQ : MQ below (va_Qi (fun r F1 => r = iI (o_places g a w).2.1 ∧ Mo ty ad F1 (o_places g a w).1 (o_places g a w).2.2 ∧ frP F F1) (pAt D classes (tysL ty) ad M (pA ad M s.heap.size)) (pA ad M s.heap.size)) ([.ref (ad (98)), .int (iI (a)), .int (iI (w))]).toArray s 0 0 (pA ad M s.heap.size) = Q
  obtain ⟨H, hH⟩ : ∃ H, H = s.heap := ⟨_, rfl⟩
  obtain ⟨locs, hlo⟩ : ∃ z : List Loc, z = [] := ⟨_, rfl⟩
  have hw : pw D classes (tysL ty) ad M F (pA ad M s.heap.size) s H locs := by rw [hH, hlo]; exact hw
  have hgo : W p l e ({ frames := 2, cells := 0, slots := 0, locals := 42 } : Room) s m ([.ref (ad (98)), .int (iI (a)), .int (iI (w))]).toArray below meth c H locs 0 0 Q (F0 m 0 ls []) := by
    obtain ⟨hO, hRn, tt, dd, h102, htt, h103⟩ := id hMo
    have N0 := (hRn 0 (by decide)).1
    have hn14 := hok.2.1
    refine lv_aload_n hx hb d_M_places_0 rfl (lv_at hl 0 rfl) ?_
    refine lv_iload_n hx hb d_M_places_1 rfl (lv_at hl 1 rfl) ?_
    refine lv_iload_n hx hb d_M_places_2 rfl (lv_at hl 2 rfl) ?_
    refine pw_callv hw (va_runV (As := [.int (iI (a)), .int (iI (w))]) (rest := []) ⟨hx, hb, hml, hown, hq⟩ (c_M_look l D ty ad M F H.size hM g co hMo hok a ha w hw0) (cwV 2 hq (gV ml_M_118 im_M_look se_M_look in_M m_M_look) rfl rfl rfl (by decide +kernel) ⟨Nat.le_of_ble_eq_true rfl, Nat.le_of_ble_eq_true rfl⟩) (pw_preV hw (by omega) hO rfl) rfl rfl hl.1 rfl (lv_room (Nat.le_of_ble_eq_true rfl)) d_M_places_3 ⟨Nat.le_of_ble_eq_true rfl, Nat.le_of_ble_eq_true rfl⟩) (fun F3 H locs q3 hw => ?_)
    obtain ⟨⟨hO, hRn, tt, dd, h102, htt, h103⟩, hf3⟩ := q3
    have hlb := lk_b a w
    refine lv_aload_n hx hb d_M_places_6 rfl (lv_at hl 0 rfl) ?_
    refine pw_get (ci := 6) (C := R_M) (T := T_M) (N := 8) hx hb hq i_M hown hw (by omega) hO rfl 0 (by decide) (hq _ fl_M_34) (fun _ h9 => h9) rfl d_M_places_7 ?_
    refine wz_if_le (tgt := 15) hx hb d_M_places_10 (by decide) (by omega) (by omega) (fun c10 => ?_) (fun c10 => ?_)
    · have hlk := lk_z (a := a) (w := w) (by omega)
      have hRa := hlk.1
      have hw1 := hlk.2
      obtain ⟨ua, hua⟩ : ∃ u : Nat, a = (u : Int) := ⟨(a).toNat, by have := hRa.1; omega⟩
      have h16a : ua < 16 := by have := hRa.2; omega
      rw [hua] at hl
      refine lv_iload_n hx hb d_M_places_15 rfl (lv_at hl 2 rfl) ?_
      have K28 : ∀ (sl : Nat) (zz : Int) (F28 : Nat → va_E) (H : Heap) (locs : List Loc) (ls : Array Slot), (sl < 32) → (Nm ty F28 sl zz) → (zz.natAbs = (if w = 0 then (zS g ua).natAbs else bS g ua)) → (sm zz.natAbs) → (frP F F28) → F28 (98) = .inr (6, [.int (iI (lk a w)), .ref (ad (99)), .ref (ad (100)), .ref (ad (101)), .ref (ad (102)), .int (iI ((nS g : Int))), .int (iI (pS g)), .ref (ad (103))]) → Rn ty F28 (g) → F28 (102) = .inl (ty 0, 1400, .inl (tt)) → F28 (103) = .inl (ty 0, 700, .inl (dd)) → pw D classes (tysL ty) ad M F28 (pA ad M s.heap.size) s H locs → lv_has ls 6 [(0, .ref (ad (98))), (1, .int (iI ((ua : Int)))), (2, .int (iI (w))), (3, .int (iI ((sl : Int))))] → W p l e ({ frames := 2, cells := 0, slots := 0, locals := 42 } : Room) s m ([.ref (ad (98)), .int (iI (a)), .int (iI (w))]).toArray below meth c H locs 0 0 Q (F0 m 28 ls []) := by
        intro sl zz F28 H locs ls hsl Nsl hzz hsm hfr9 hO hRn h102 h103 hw hl
        refine lv_aload_n hx hb d_M_places_28 rfl (lv_at hl 0 rfl) ?_
        refine pw_get (ci := 6) (C := R_M) (T := T_M) (N := 8) hx hb hq i_M hown hw (by omega) hO rfl 2 (by decide) (hq _ fl_M_13) (fun _ h9 => h9) rfl d_M_places_29 ?_
        refine lv_iload_n hx hb d_M_places_32 rfl (lv_at hl 3 rfl) ?_
        obtain ⟨P33, S33, G33, ⟨a33_99, a33_100, a33_101⟩, ⟨n, hS33, h333, hD33, ht33, hv33⟩, hG33⟩ := id Nsl
        have hz33 := bvP_z ht33
        rw [hv33] at hz33
        refine pw_iald (k := sl) hx hb hw 0 (by omega) a33_100 rfl (iI_in (by omega) (by omega) (by omega)) ((iI_cl (by omega) (by omega)).trans (by omega)) d_M_places_33 ?_
        refine lv_topi (fun x33 ex33 => ?_)
        obtain rfl : x33 = iI ((n : Int)) := ex33.trans (hS33)
        have hn3 := (sm_n hD33 ht33 hv33).mpr hsm
        have hblB : bl zz.natAbs ≤ 2048 := bl_le.mpr hsm
        have K88 : ∀ (fuel : Nat) (c0 h : Nat) (ls : Array Slot), h < fuel → (h < 65536) → (bl zz.natAbs = c0 + bl h) → lv_has ls 6 [(0, .ref (ad (98))), (4, .int (iI ((c0 : Int)))), (5, .int (iI ((h : Int))))] → W p l e ({ frames := 2, cells := 0, slots := 0, locals := 42 } : Room) s m ([.ref (ad (98)), .int (iI (a)), .int (iI (w))]).toArray below meth c H locs 0 0 Q (F0 m 88 ls []) := by
          intro fuel
          induction fuel with
          | zero => intro c0 h ls hfuel hc0 hbl hl; exact absurd hfuel (Nat.not_lt_zero _)
          | succ fuel ih88 =>
            intro c0 h ls hfuel hc0 hbl hl
            refine lv_iload hx hb d_M_places_88 (lv_at hl 2 rfl) ?_
            refine wz_if_le (tgt := 105) hx hb d_M_places_90 (by decide) (by omega) (by omega) (fun c90 => ?_) (fun c90 => ?_)
            · refine lv_iload hx hb d_M_places_105 (lv_at hl 1 rfl) ?_
              rw [← hQ]
              exact pw_iret hx hb hr hlocks hw (by
                have hh0 : h = 0 := by omega
                rw [hh0, bl_0, Nat.add_zero, hzz] at hbl
                have h98 := hO
                rw [lk_y hlk] at h98
                rw [o_places, cif_pos hlk, show a.toNat = ua by omega]
                exact ⟨congrArg (fun t : Nat => iI (t : Int)) hbl.symm, Mo.mk' ⟨rfl, rfl, rfl⟩ h98 hRn h102 htt h103, hfr9⟩) d_M_places_107
            · refine wz_iinc (z := ((c0 + 1 : Nat) : Int)) (lv' := [(4, .int (iI (((c0 + 1 : Nat) : Int)))), (0, .ref (ad (98))), (5, .int (iI ((h : Int))))]) hx hb d_M_places_93 hl (k := 1) rfl (by omega) (by decide) rfl (fun ls hl => ?_)
              refine lv_iload hx hb d_M_places_96 (lv_at hl 2 rfl) ?_
              refine wz_iconst (n := 2) hx hb d_M_places_98 ?_
              refine wz_idiv (a := h) (b := 2) (z := h / 2) hx hb d_M_places_99 (by omega) (by omega) (by omega) (rfl) ?_
              refine lv_istore (lv' := [(5, .int (iI (((h / 2 : Nat) : Int)))), (4, .int (iI (((c0 + 1 : Nat) : Int)))), (0, .ref (ad (98)))]) hx hb d_M_places_100 hl (by decide) rfl (fun ls hl => ?_)
              refine lv_goto (tgt := 88) hx hb d_M_places_102 (by decide) ?_
              exact ih88 (c0 + 1) (h / 2) ls (by omega) (by omega) (by rw [hbl, bl_half (by omega)]; omega) (lv_sub hl [2, 1, 0] rfl)
        refine wz_if_ne (tgt := 41) hx hb d_M_places_34 (by decide) (by omega) (by omega) (fun c34 => ?_) (fun c34 => ?_)
        · refine wz_bipush (n := 16) hx hb d_M_places_41 (by decide) ?_
          refine lv_aload_n hx hb d_M_places_43 rfl (lv_at hl 0 rfl) ?_
          refine pw_get (ci := 6) (C := R_M) (T := T_M) (N := 8) hx hb hq i_M hown hw (by omega) hO rfl 2 (by decide) (hq _ fl_M_13) (fun _ h9 => h9) rfl d_M_places_44 ?_
          refine lv_iload_n hx hb d_M_places_47 rfl (lv_at hl 3 rfl) ?_
          refine pw_iald (k := sl) hx hb hw 0 (by omega) a33_100 rfl (iI_in (by omega) (by omega) (by omega)) ((iI_cl (by omega) (by omega)).trans (by omega)) d_M_places_48 ?_
          refine lv_topi (fun x48 ex48 => ?_)
          obtain rfl : x48 = iI ((n : Int)) := ex48.trans (hS33)
          refine wz_iconst (n := 1) hx hb d_M_places_49 ?_
          refine wz_isub hx hb d_M_places_50 rfl ?_
          refine wz_imul (z := ((16 * (n - 1) : Nat) : Int)) hx hb d_M_places_51 (by omega) ?_
          refine lv_istore (lv' := [(4, .int (iI (((16 * (n - 1) : Nat) : Int)))), (0, .ref (ad (98))), (1, .int (iI ((ua : Int)))), (2, .int (iI (w))), (3, .int (iI ((sl : Int))))]) hx hb d_M_places_52 hl (by decide) rfl (fun ls hl => ?_)
          refine lv_aload_n hx hb d_M_places_54 rfl (lv_at hl 1 rfl) ?_
          refine pw_get (ci := 6) (C := R_M) (T := T_M) (N := 8) hx hb hq i_M hown hw (by omega) hO rfl 2 (by decide) (hq _ fl_M_13) (fun _ h9 => h9) rfl d_M_places_55 ?_
          refine lv_iload_n hx hb d_M_places_58 rfl (lv_at hl 4 rfl) ?_
          refine pw_iald (k := sl) hx hb hw 0 (by omega) a33_100 rfl (iI_in (by omega) (by omega) (by omega)) ((iI_cl (by omega) (by omega)).trans (by omega)) d_M_places_59 ?_
          refine lv_topi (fun x59 ex59 => ?_)
          obtain rfl : x59 = iI ((n : Int)) := ex59.trans (hS33)
          refine wz_if_ne (tgt := 67) hx hb d_M_places_60 (by decide) (by omega) (by omega) (fun c60 => ?_) (fun c60 => ?_)
          · refine lv_aload_n hx hb d_M_places_67 rfl (lv_at hl 1 rfl) ?_
            refine pw_get (ci := 6) (C := R_M) (T := T_M) (N := 8) hx hb hq i_M hown hw (by omega) hO rfl 1 (by decide) (hq _ fl_M_7) (fun _ h9 => h9) rfl d_M_places_68 ?_
            refine wz_sipush (n := 300) hx hb d_M_places_71 (by decide) ?_
            refine lv_iload_n hx hb d_M_places_74 rfl (lv_at hl 4 rfl) ?_
            refine wz_imul hx hb d_M_places_75 rfl ?_
            refine lv_aload_n hx hb d_M_places_76 rfl (lv_at hl 1 rfl) ?_
            refine pw_get (ci := 6) (C := R_M) (T := T_M) (N := 8) hx hb hq i_M hown hw (by omega) hO rfl 2 (by decide) (hq _ fl_M_13) (fun _ h9 => h9) rfl d_M_places_77 ?_
            refine lv_iload_n hx hb d_M_places_80 rfl (lv_at hl 4 rfl) ?_
            refine pw_iald (k := sl) hx hb hw 0 (by omega) a33_100 rfl (iI_in (by omega) (by omega) (by omega)) ((iI_cl (by omega) (by omega)).trans (by omega)) d_M_places_81 ?_
            refine lv_topi (fun x81 ex81 => ?_)
            obtain rfl : x81 = iI ((n : Int)) := ex81.trans (hS33)
            refine wz_iadd hx hb d_M_places_82 rfl ?_
            refine wz_iconst (n := 1) hx hb d_M_places_83 ?_
            refine wz_isub hx hb d_M_places_84 rfl ?_
            have hd9 := hD33 (n - 1) (by omega)
            refine pw_iald (k := 300 * sl + (n - 1)) hx hb hw 0 (by omega) a33_99 rfl (iI_in (by omega) (by omega) (by omega)) ((iI_cl (by omega) (by omega)).trans (by omega)) d_M_places_85 ?_
            refine lv_topi (fun x85 ex85 => ?_)
            obtain rfl : x85 = iI ((dl P33 (300 * sl + (n - 1)) : Int)) := ex85.trans (hD33.get (by omega))
            refine lv_istore (lv' := [(5, .int (iI ((dl P33 (300 * sl + (n - 1)) : Int)))), (4, .int (iI (((16 * (n - 1) : Nat) : Int)))), (0, .ref (ad (98))), (1, .int (iI ((ua : Int)))), (2, .int (iI (w))), (3, .int (iI ((sl : Int))))]) hx hb d_M_places_86 hl (by decide) rfl (fun ls hl => ?_)
            exact K88 _ (16 * (n - 1)) (dl P33 (300 * sl + (n - 1))) ls (Nat.lt_succ_self _) (by omega) (by rw [← hv33]; exact bl_top hD33 ht33 (by omega)) (lv_sub hl [2, 1, 0] rfl)
          · exact absurd c60 (by omega)
        · refine wz_iconst (n := 0) hx hb d_M_places_37 ?_
          refine lv_goto (tgt := 52) hx hb d_M_places_38 (by decide) ?_
          refine lv_istore (lv' := [(4, .int (iI (0))), (0, .ref (ad (98))), (1, .int (iI ((ua : Int)))), (2, .int (iI (w))), (3, .int (iI ((sl : Int))))]) hx hb d_M_places_52 hl (by decide) rfl (fun ls hl => ?_)
          refine lv_aload_n hx hb d_M_places_54 rfl (lv_at hl 1 rfl) ?_
          refine pw_get (ci := 6) (C := R_M) (T := T_M) (N := 8) hx hb hq i_M hown hw (by omega) hO rfl 2 (by decide) (hq _ fl_M_13) (fun _ h9 => h9) rfl d_M_places_55 ?_
          refine lv_iload_n hx hb d_M_places_58 rfl (lv_at hl 4 rfl) ?_
          refine pw_iald (k := sl) hx hb hw 0 (by omega) a33_100 rfl (iI_in (by omega) (by omega) (by omega)) ((iI_cl (by omega) (by omega)).trans (by omega)) d_M_places_59 ?_
          refine lv_topi (fun x59 ex59 => ?_)
          obtain rfl : x59 = iI ((n : Int)) := ex59.trans (hS33)
          refine wz_if_ne (tgt := 67) hx hb d_M_places_60 (by decide) (by omega) (by omega) (fun c60 => ?_) (fun c60 => ?_)
          · exact absurd c60 (by omega)
          · refine wz_iconst (n := 0) hx hb d_M_places_63 ?_
            refine lv_goto (tgt := 86) hx hb d_M_places_64 (by decide) ?_
            refine lv_istore (lv' := [(5, .int (iI (0))), (4, .int (iI (0))), (0, .ref (ad (98))), (1, .int (iI ((ua : Int)))), (2, .int (iI (w))), (3, .int (iI ((sl : Int))))]) hx hb d_M_places_86 hl (by decide) rfl (fun ls hl => ?_)
            exact K88 _ 0 0 ls (Nat.lt_succ_self _) (by omega) (by rw [hz33.mpr (by omega), Nat.zero_add]) (lv_sub hl [2, 1, 0] rfl)
      refine wz_if_ne (tgt := 23) hx hb d_M_places_16 (by decide) (by omega) (by omega) (fun c16 => ?_) (fun c16 => ?_)
      · refine lv_iload_n hx hb d_M_places_23 rfl (lv_at hl 1 rfl) ?_
        refine pw_calli hw (va_runS (As := [.int (iI ((ua : Int)))]) (rest := []) ⟨hx, hb, hml, hown, hq⟩ (c_M_below l D ty ad M F3 H.size (ua) (by omega)) (va_cwS 1 hq (gS ml_M_82 st_M_below in_M m_M_below) rfl rfl rfl (by decide +kernel) ⟨Nat.le_of_ble_eq_true rfl, Nat.le_of_ble_eq_true rfl⟩) (pw_preS hw) rfl rfl hl.1 rfl (lv_room (Nat.le_of_ble_eq_true rfl)) d_M_places_24 ⟨Nat.le_of_ble_eq_true rfl, Nat.le_of_ble_eq_true rfl⟩) (fun r24 F24 H locs q24 hw => ?_)
        obtain ⟨er24, eF24⟩ := q24
        rw [eF24] at hw
        clear eF24
        subst er24
        refine lv_istore_n (lv' := [(3, .int (iI (((16 + ua : Nat) : Int)))), (0, .ref (ad (98))), (1, .int (iI ((ua : Int)))), (2, .int (iI (w)))]) hx hb d_M_places_27 rfl hl (by decide) rfl (fun ls hl => ?_)
        exact K28 (16 + ua) ((bS g ua : Nat) : Int) _ _ _ ls (by omega) ((hRn ua h16a).2) (by rw [if_neg (by omega)]; rfl) ((hok.at h16a).2.1) (fun y9 h1 => hf3 (y9) (by omega)) hO hRn h102 h103 hw (lv_sub hl [1, 2, 3, 0] rfl)
      · refine lv_iload_n hx hb d_M_places_19 rfl (lv_at hl 1 rfl) ?_
        refine lv_goto (tgt := 27) hx hb d_M_places_20 (by decide) ?_
        refine lv_istore_n (lv' := [(3, .int (iI ((ua : Int)))), (0, .ref (ad (98))), (1, .int (iI ((ua : Int)))), (2, .int (iI (w)))]) hx hb d_M_places_27 rfl hl (by decide) rfl (fun ls hl => ?_)
        exact K28 ua (zS g ua) _ _ _ ls (by omega) ((hRn ua h16a).1) (by rw [if_pos (by omega)]) ((hok.at h16a).1) (fun y9 h1 => hf3 (y9) (by omega)) hO hRn h102 h103 hw (lv_sub hl [1, 2, 3, 0] rfl)
    · have hRe := lk_nz (a := a) (w := w) (by omega)
      refine wz_iconst (n := 0) hx hb d_M_places_13 ?_
      rw [← hQ]
      exact pw_iret hx hb hr hlocks hw (by
        have h98 := hO
        rw [lk_n hRe] at h98
        rw [o_places, cif_neg hRe]
        exact ⟨rfl, Mo.mk' ⟨rfl, rfl, rfl⟩ h98 hRn h102 htt h103, fun y9 h1 => hf3 (y9) (by omega)⟩) d_M_places_14
  rw [hH, hlo] at hgo
  exact hgo
set_option maxHeartbeats 4000000 in
set_option maxRecDepth 100000 in
/-- partAt(s, k) -/
theorem c_M_partAt (l : Launch) (D : va_G) (ty : Nat → ClassId) (ad : Nat → Nat) (M : Nat) (F : Nat → va_E) (sz : Nat) (hM : 103 < M) (co ln wr : Int) (hO : F 98 = oM ad co ln wr) (sl k : Nat) (zz : Int) (hsl : sl < 43) (hk : k < 300) (Nsl : Nm ty F sl zz) :
    CJ l y_M_partAt w_M_partAt ({ frames := 0, cells := 0, slots := 0, locals := 0 } : Room) [.ref (ad (98)), .int (iI ((sl : Int))), .int (iI ((k : Int)))] D ty ad M F sz (fun r F1 => r = iL ((zz.natAbs / 65536 ^ k % 65536 : Nat) : Int) ∧ F1 = F) := by
  refine Met.ofW (cc := b_M_partAt) (maxL := 3) (ret := (some .long)) (by decide) rfl ?_
  intro p e s m args below meth c s₁ B hml hv
  obtain ⟨rfl, hsz, hP, hK, hD0⟩ := hv
  have hx := B.exec
  have hb := B.bytes
  have hr := B.returns
  have hts := atoms_spec (ws := w_M_partAt) B.pre
  have hq : ∀ w ∈ wT, w.before _ s = true := fun w h => hts w (List.mem_cons_of_mem _ h)
  have hown : s.vm.findClass R_M = some m.cls := findClass_of_methodNamed B.named
  have hlocks := B.notSynchronized
  subst hsz
  have hw := pw_start hP hK hD0
  have hl := lv_entry ([.ref (ad (98)), .int (iI ((sl : Int))), .int (iI ((k : Int)))]) (n := 3) (Nat.le_of_ble_eq_true rfl)
  rw [lg_entry_eq]
  generalize (lg_sl ([.ref (ad (98)), .int (iI ((sl : Int))), .int (iI ((k : Int)))]) ++ List.replicate (3 - (lg_sl ([.ref (ad (98)), .int (iI ((sl : Int))), .int (iI ((k : Int)))])).length) Slot.unset).toArray = ls at hl ⊢
  have hl : lv_has ls 3 [(0, .ref (ad (98))), (1, .int (iI ((sl : Int)))), (2, .int (iI ((k : Int))))] := hl
  change W p l e ({ frames := 0, cells := 0, slots := 0, locals := 0 } : Room) s m ([.ref (ad (98)), .int (iI ((sl : Int))), .int (iI ((k : Int)))]).toArray below meth c s.heap [] 0 0 (MQ below (va_Ql (fun r F1 => r = iL ((zz.natAbs / 65536 ^ k % 65536 : Nat) : Int) ∧ F1 = F) (pAt D classes (tysL ty) ad M (pA ad M s.heap.size)) (pA ad M s.heap.size)) ([.ref (ad (98)), .int (iI ((sl : Int))), .int (iI ((k : Int)))]).toArray s 0 0 (pA ad M s.heap.size)) (F0 m 0 ls [])
  generalize hQ : MQ below (va_Ql (fun r F1 => r = iL ((zz.natAbs / 65536 ^ k % 65536 : Nat) : Int) ∧ F1 = F) (pAt D classes (tysL ty) ad M (pA ad M s.heap.size)) (pA ad M s.heap.size)) ([.ref (ad (98)), .int (iI ((sl : Int))), .int (iI ((k : Int)))]).toArray s 0 0 (pA ad M s.heap.size) = Q
  obtain ⟨H, hH⟩ : ∃ H, H = s.heap := ⟨_, rfl⟩
  obtain ⟨locs, hlo⟩ : ∃ z : List Loc, z = [] := ⟨_, rfl⟩
  have hw : pw D classes (tysL ty) ad M F (pA ad M s.heap.size) s H locs := by rw [hH, hlo]; exact hw
  have hgo : W p l e ({ frames := 0, cells := 0, slots := 0, locals := 0 } : Room) s m ([.ref (ad (98)), .int (iI ((sl : Int))), .int (iI ((k : Int)))]).toArray below meth c H locs 0 0 Q (F0 m 0 ls []) := by
    refine lv_iload_n hx hb d_M_partAt_0 rfl (lv_at hl 2 rfl) ?_
    refine lv_aload_n hx hb d_M_partAt_1 rfl (lv_at hl 0 rfl) ?_
    refine pw_get (ci := 6) (C := R_M) (T := T_M) (N := 8) hx hb hq i_M hown hw (by omega) hO rfl 2 (by decide) (hq _ fl_M_13) (fun _ h9 => h9) rfl d_M_partAt_2 ?_
    refine lv_iload_n hx hb d_M_partAt_5 rfl (lv_at hl 1 rfl) ?_
    obtain ⟨P6, S6, G6, ⟨a6_99, a6_100, a6_101⟩, ⟨n, hS6, h36, hD6, ht6, hv6⟩, hG6⟩ := id Nsl
    have hz6 := bvP_z ht6
    rw [hv6] at hz6
    refine pw_iald (k := sl) hx hb hw 0 (by omega) a6_100 rfl (iI_in (by omega) (by omega) (by omega)) ((iI_cl (by omega) (by omega)).trans (by omega)) d_M_partAt_6 ?_
    refine lv_topi (fun x6 ex6 => ?_)
    obtain rfl : x6 = iI ((n : Int)) := ex6.trans (hS6)
    refine wz_icmp_ge (tgt := 26) hx hb d_M_partAt_7 (by decide) (by omega) (by omega) (by omega) (by omega) (fun c7 => ?_) (fun c7 => ?_)
    · have hpd := (pd_limb hD6 hv6 k).symm.trans (pd_out (by omega))
      refine lv_lconst (v := iL 0) hx hb d_M_partAt_26 (by decide) ?_
      rw [← hQ]
      exact pw_lret hx hb hr hlocks hw (⟨by first | (rw [hpd]; rfl) | rw [hpd], rfl⟩) d_M_partAt_27
    · have hpd := (pd_limb hD6 hv6 k).symm.trans (pd_in (by omega))
      have hd9 := hD6 k (by omega)
      refine lv_aload_n hx hb d_M_partAt_10 rfl (lv_at hl 0 rfl) ?_
      refine pw_get (ci := 6) (C := R_M) (T := T_M) (N := 8) hx hb hq i_M hown hw (by omega) hO rfl 1 (by decide) (hq _ fl_M_7) (fun _ h9 => h9) rfl d_M_partAt_11 ?_
      refine wz_sipush (n := 300) hx hb d_M_partAt_14 (by decide) ?_
      refine lv_iload_n hx hb d_M_partAt_17 rfl (lv_at hl 1 rfl) ?_
      refine wz_imul hx hb d_M_partAt_18 rfl ?_
      refine lv_iload_n hx hb d_M_partAt_19 rfl (lv_at hl 2 rfl) ?_
      refine wz_iadd hx hb d_M_partAt_20 rfl ?_
      refine pw_iald (k := 300 * sl + k) hx hb hw 0 (by omega) a6_99 rfl (iI_in (by omega) (by omega) (by omega)) ((iI_cl (by omega) (by omega)).trans (by omega)) d_M_partAt_21 ?_
      refine lv_topi (fun x21 ex21 => ?_)
      obtain rfl : x21 = iI ((dl P6 (300 * sl + k) : Int)) := ex21.trans (hD6.get (by omega))
      refine wz_i2l hx hb d_M_partAt_22 (by omega) (by omega) ?_
      refine lv_goto (tgt := 27) hx hb d_M_partAt_23 (by decide) ?_
      rw [← hQ]
      exact pw_lret hx hb hr hlocks hw (⟨by first | (rw [hpd]; rfl) | rw [hpd], rfl⟩) d_M_partAt_27
  rw [hH, hlo] at hgo
  exact hgo
set_option maxHeartbeats 4000000 in
set_option maxRecDepth 100000 in
/-- part(a, which, k) -/
theorem c_M_part (l : Launch) (D : va_G) (ty : Nat → ClassId) (ad : Nat → Nat) (M : Nat) (F : Nat → va_E) (sz : Nat) (hM : 103 < M) (g : Sg) (co : Int) (hMo : Mo ty ad F co g) (hok : okS g) (a : Int) (ha : -2147483648 ≤ a ∧ a < 2147483648) (w : Int) (hw0 : -2147483648 ≤ w ∧ w < 2147483648) (k : Int) (hk : -2147483648 ≤ k ∧ k < 2147483648) :
    CJ l y_M_part w_M_part ({ frames := 2, cells := 0, slots := 0, locals := 42 } : Room) [.ref (ad (98)), .int (iI (a)), .int (iI (w)), .int (iI (k))] D ty ad M F sz (fun r F1 => r = iL (o_part g a w k).2.1 ∧ Mo ty ad F1 (o_part g a w k).1 (o_part g a w k).2.2 ∧ frP F F1) := by
  refine Met.ofW (cc := b_M_part) (maxL := 5) (ret := (some .long)) (by decide) rfl ?_
  intro p e s m args below meth c s₁ B hml hv
  obtain ⟨rfl, hsz, hP, hK, hD0⟩ := hv
  have hx := B.exec
  have hb := B.bytes
  have hr := B.returns
  have hts := atoms_spec (ws := w_M_part) B.pre
  have hq : ∀ w ∈ wT, w.before _ s = true := fun w h => hts w (List.mem_cons_of_mem _ h)
  have hown : s.vm.findClass R_M = some m.cls := findClass_of_methodNamed B.named
  have hlocks := B.notSynchronized
  subst hsz
  have hw := pw_start hP hK hD0
  have hl := lv_entry ([.ref (ad (98)), .int (iI (a)), .int (iI (w)), .int (iI (k))]) (n := 5) (Nat.le_of_ble_eq_true rfl)
  rw [lg_entry_eq]
  generalize (lg_sl ([.ref (ad (98)), .int (iI (a)), .int (iI (w)), .int (iI (k))]) ++ List.replicate (5 - (lg_sl ([.ref (ad (98)), .int (iI (a)), .int (iI (w)), .int (iI (k))])).length) Slot.unset).toArray = ls at hl ⊢
  have hl : lv_has ls 5 [(0, .ref (ad (98))), (1, .int (iI (a))), (2, .int (iI (w))), (3, .int (iI (k)))] := hl
  change W p l e ({ frames := 2, cells := 0, slots := 0, locals := 42 } : Room) s m ([.ref (ad (98)), .int (iI (a)), .int (iI (w)), .int (iI (k))]).toArray below meth c s.heap [] 0 0 (MQ below (va_Ql (fun r F1 => r = iL (o_part g a w k).2.1 ∧ Mo ty ad F1 (o_part g a w k).1 (o_part g a w k).2.2 ∧ frP F F1) (pAt D classes (tysL ty) ad M (pA ad M s.heap.size)) (pA ad M s.heap.size)) ([.ref (ad (98)), .int (iI (a)), .int (iI (w)), .int (iI (k))]).toArray s 0 0 (pA ad M s.heap.size)) (F0 m 0 ls [])
  generalize hQ : MQ below (va_Ql (fun r F1 => r = iL (o_part g a w k).2.1 ∧ Mo ty ad F1 (o_part g a w k).1 (o_part g a w k).2.2 ∧ frP F F1) (pAt D classes (tysL ty) ad M (pA ad M s.heap.size)) (pA ad M s.heap.size)) ([.ref (ad (98)), .int (iI (a)), .int (iI (w)), .int (iI (k))]).toArray s 0 0 (pA ad M s.heap.size) = Q
  obtain ⟨H, hH⟩ : ∃ H, H = s.heap := ⟨_, rfl⟩
  obtain ⟨locs, hlo⟩ : ∃ z : List Loc, z = [] := ⟨_, rfl⟩
  have hw : pw D classes (tysL ty) ad M F (pA ad M s.heap.size) s H locs := by rw [hH, hlo]; exact hw
  have hgo : W p l e ({ frames := 2, cells := 0, slots := 0, locals := 42 } : Room) s m ([.ref (ad (98)), .int (iI (a)), .int (iI (w)), .int (iI (k))]).toArray below meth c H locs 0 0 Q (F0 m 0 ls []) := by
    obtain ⟨hO, hRn, tt, dd, h102, htt, h103⟩ := id hMo
    have N0 := (hRn 0 (by decide)).1
    have hn14 := hok.2.1
    refine lv_aload_n hx hb d_M_part_0 rfl (lv_at hl 0 rfl) ?_
    refine lv_iload_n hx hb d_M_part_1 rfl (lv_at hl 1 rfl) ?_
    refine lv_iload_n hx hb d_M_part_2 rfl (lv_at hl 2 rfl) ?_
    refine pw_callv hw (va_runV (As := [.int (iI (a)), .int (iI (w))]) (rest := []) ⟨hx, hb, hml, hown, hq⟩ (c_M_look l D ty ad M F H.size hM g co hMo hok a ha w hw0) (cwV 2 hq (gV ml_M_118 im_M_look se_M_look in_M m_M_look) rfl rfl rfl (by decide +kernel) ⟨Nat.le_of_ble_eq_true rfl, Nat.le_of_ble_eq_true rfl⟩) (pw_preV hw (by omega) hO rfl) rfl rfl hl.1 rfl (lv_room (Nat.le_of_ble_eq_true rfl)) d_M_part_3 ⟨Nat.le_of_ble_eq_true rfl, Nat.le_of_ble_eq_true rfl⟩) (fun F3 H locs q3 hw => ?_)
    obtain ⟨⟨hO, hRn, tt, dd, h102, htt, h103⟩, hf3⟩ := q3
    have hlb := lk_b a w
    refine lv_aload_n hx hb d_M_part_6 rfl (lv_at hl 0 rfl) ?_
    refine pw_get (ci := 6) (C := R_M) (T := T_M) (N := 8) hx hb hq i_M hown hw (by omega) hO rfl 0 (by decide) (hq _ fl_M_34) (fun _ h9 => h9) rfl d_M_part_7 ?_
    refine wz_if_gt (tgt := 24) hx hb d_M_part_10 (by decide) (by omega) (by omega) (fun c10 => ?_) (fun c10 => ?_)
    · have hRe := lk_nz (a := a) (w := w) (by omega)
      refine lv_lconst (v := iL 0) hx hb d_M_part_24 (by decide) ?_
      rw [← hQ]
      exact pw_lret hx hb hr hlocks hw (by
        have h98 := hO
        first
        | (rw [lk_n hRe] at h98; rw [o_part, cif_neg hRe]; exact ⟨rfl, Mo.mk' ⟨rfl, rfl, rfl⟩ h98 hRn h102 htt h103, fun y9 h1 => hf3 (y9) (by omega)⟩)
        | (rw [lk_y hlk] at h98; rw [o_part, cif_pos hlk, if_neg (by omega)]; exact ⟨rfl, Mo.mk' ⟨rfl, rfl, rfl⟩ h98 hRn h102 htt h103, fun y9 h1 => hf3 (y9) (by omega)⟩)
        | (have hs9 : sm (if w = 0 then (zS g ua).natAbs else bS g ua) := by split; exact (hok.at h16a).1; exact (hok.at h16a).2.1
           rw [o_part, cif_pos hlk, if_pos (by omega), show a.toNat = ua by omega, part_0 hs9 (by omega)]; rw [lk_y hlk] at h98; exact ⟨rfl, Mo.mk' ⟨rfl, rfl, rfl⟩ h98 hRn h102 htt h103, fun y9 h1 => hf3 (y9) (by omega)⟩)) d_M_part_25
    · have hlk := lk_z (a := a) (w := w) (by omega)
      have hRa := hlk.1
      have hw1 := hlk.2
      obtain ⟨ua, hua⟩ : ∃ u : Nat, a = (u : Int) := ⟨(a).toNat, by have := hRa.1; omega⟩
      have h16a : ua < 16 := by have := hRa.2; omega
      rw [hua] at hl
      refine lv_iload_n hx hb d_M_part_13 rfl (lv_at hl 3 rfl) ?_
      refine wz_if_lt (tgt := 24) hx hb d_M_part_14 (by decide) (by omega) (by omega) (fun c14 => ?_) (fun c14 => ?_)
      · have hk9 : k < 0 := by omega
        refine lv_lconst (v := iL 0) hx hb d_M_part_24 (by decide) ?_
        rw [← hQ]
        exact pw_lret hx hb hr hlocks hw (by
          have h98 := hO
          first
          | (rw [lk_n hRe] at h98; rw [o_part, cif_neg hRe]; exact ⟨rfl, Mo.mk' ⟨rfl, rfl, rfl⟩ h98 hRn h102 htt h103, fun y9 h1 => hf3 (y9) (by omega)⟩)
          | (rw [lk_y hlk] at h98; rw [o_part, cif_pos hlk, if_neg (by omega)]; exact ⟨rfl, Mo.mk' ⟨rfl, rfl, rfl⟩ h98 hRn h102 htt h103, fun y9 h1 => hf3 (y9) (by omega)⟩)
          | (have hs9 : sm (if w = 0 then (zS g ua).natAbs else bS g ua) := by split; exact (hok.at h16a).1; exact (hok.at h16a).2.1
             rw [o_part, cif_pos hlk, if_pos (by omega), show a.toNat = ua by omega, part_0 hs9 (by omega)]; rw [lk_y hlk] at h98; exact ⟨rfl, Mo.mk' ⟨rfl, rfl, rfl⟩ h98 hRn h102 htt h103, fun y9 h1 => hf3 (y9) (by omega)⟩)) d_M_part_25
      · obtain ⟨kn, hkn⟩ : ∃ kn : Nat, k = (kn : Int) := ⟨k.toNat, by omega⟩
        refine lv_iload_n hx hb d_M_part_17 rfl (lv_at hl 3 rfl) ?_
        refine wz_sipush (n := 128) hx hb d_M_part_18 (by decide) ?_
        refine wz_icmp_le (tgt := 26) hx hb d_M_part_21 (by decide) (by omega) (by omega) (by omega) (by omega) (fun c21 => ?_) (fun c21 => ?_)
        · rw [hkn] at hl
          refine lv_iload_n hx hb d_M_part_26 rfl (lv_at hl 2 rfl) ?_
          have K40 : ∀ (sl : Nat) (zz : Int) (F40 : Nat → va_E) (H : Heap) (locs : List Loc) (ls : Array Slot), (sl < 32) → (Nm ty F40 sl zz) → (zz.natAbs = (if w = 0 then (zS g ua).natAbs else bS g ua)) → (sm zz.natAbs) → (frP F F40) → F40 (98) = .inr (6, [.int (iI (lk a w)), .ref (ad (99)), .ref (ad (100)), .ref (ad (101)), .ref (ad (102)), .int (iI ((nS g : Int))), .int (iI (pS g)), .ref (ad (103))]) → Rn ty F40 (g) → F40 (102) = .inl (ty 0, 1400, .inl (tt)) → F40 (103) = .inl (ty 0, 700, .inl (dd)) → pw D classes (tysL ty) ad M F40 (pA ad M s.heap.size) s H locs → lv_has ls 5 [(0, .ref (ad (98))), (1, .int (iI ((ua : Int)))), (2, .int (iI (w))), (3, .int (iI ((kn : Int)))), (4, .int (iI ((sl : Int))))] → W p l e ({ frames := 2, cells := 0, slots := 0, locals := 42 } : Room) s m ([.ref (ad (98)), .int (iI (a)), .int (iI (w)), .int (iI (k))]).toArray below meth c H locs 0 0 Q (F0 m 40 ls []) := by
            intro sl zz F40 H locs ls hsl Nsl hzz hsm hfr9 hO hRn h102 h103 hw hl
            refine lv_aload_n hx hb d_M_part_40 rfl (lv_at hl 0 rfl) ?_
            refine lv_iload hx hb d_M_part_41 (lv_at hl 4 rfl) ?_
            refine wz_iconst (n := 2) hx hb d_M_part_43 ?_
            refine lv_iload_n hx hb d_M_part_44 rfl (lv_at hl 3 rfl) ?_
            refine wz_imul (z := ((2 * kn : Nat) : Int)) hx hb d_M_part_45 (by omega) ?_
            refine pw_calll hw (va_runV (As := [.int (iI ((sl : Int))), .int (iI (((2 * kn : Nat) : Int)))]) (rest := []) ⟨hx, hb, hml, hown, hq⟩ (c_M_partAt l D ty ad M F40 H.size hM (lk a w) ((nS g : Int)) (pS g) hO sl (2 * kn) zz (by omega) (by omega) Nsl) (cwV 2 hq (gV ml_M_121 im_M_partAt se_M_partAt in_M m_M_partAt) rfl rfl rfl (by decide +kernel) ⟨Nat.le_of_ble_eq_true rfl, Nat.le_of_ble_eq_true rfl⟩) (pw_preV hw (by omega) hO rfl) rfl rfl hl.1 rfl (lv_room (Nat.le_of_ble_eq_true rfl)) d_M_part_46 ⟨Nat.le_of_ble_eq_true rfl, Nat.le_of_ble_eq_true rfl⟩) (fun r46 F46 H locs q46 hw => ?_)
            obtain ⟨er46, eF46⟩ := q46
            rw [eF46] at hw
            clear eF46
            subst er46
            refine lv_ldc2 (v := iL (65536)) hx hb hown (hq _ cj_M_37) d_M_part_49 ?_
            refine lv_aload_n hx hb d_M_part_52 rfl (lv_at hl 0 rfl) ?_
            refine lv_iload hx hb d_M_part_53 (lv_at hl 4 rfl) ?_
            refine wz_iconst (n := 2) hx hb d_M_part_55 ?_
            refine lv_iload_n hx hb d_M_part_56 rfl (lv_at hl 3 rfl) ?_
            refine wz_imul (z := ((2 * kn : Nat) : Int)) hx hb d_M_part_57 (by omega) ?_
            refine wz_iconst (n := 1) hx hb d_M_part_58 ?_
            refine wz_iadd (z := ((2 * kn + 1 : Nat) : Int)) hx hb d_M_part_59 (by omega) ?_
            refine pw_calll hw (va_runV (As := [.int (iI ((sl : Int))), .int (iI (((2 * kn + 1 : Nat) : Int)))]) (rest := [.long (iL (65536)), .long (iL (((zz.natAbs / 65536 ^ (2 * kn) % 65536 : Nat) : Int)))]) ⟨hx, hb, hml, hown, hq⟩ (c_M_partAt l D ty ad M F40 H.size hM (lk a w) ((nS g : Int)) (pS g) hO sl (2 * kn + 1) zz (by omega) (by omega) Nsl) (cwV 2 hq (gV ml_M_121 im_M_partAt se_M_partAt in_M m_M_partAt) rfl rfl rfl (by decide +kernel) ⟨Nat.le_of_ble_eq_true rfl, Nat.le_of_ble_eq_true rfl⟩) (pw_preV hw (by omega) hO rfl) rfl rfl hl.1 rfl (lv_room (Nat.le_of_ble_eq_true rfl)) d_M_part_60 ⟨Nat.le_of_ble_eq_true rfl, Nat.le_of_ble_eq_true rfl⟩) (fun r60 F60 H locs q60 hw => ?_)
            obtain ⟨er60, eF60⟩ := q60
            rw [eF60] at hw
            clear eF60
            subst er60
            refine wz_lmul (z := ((65536 * (zz.natAbs / 65536 ^ (2 * kn + 1) % 65536) : Nat) : Int)) hx hb d_M_part_63 (by rw [Int.natCast_mul]; rfl) ?_
            refine wz_ladd (z := ((zz.natAbs / 2 ^ (32 * kn) % 4294967296 : Nat) : Int)) hx hb d_M_part_64 (by rw [← part_2, Int.natCast_add]) ?_
            rw [← hQ]
            exact pw_lret hx hb hr hlocks hw (by
              rw [o_part, cif_pos hlk, if_pos (by omega), show a.toNat = ua by omega, show k.toNat = kn by omega, ← hzz]
              have h98 := hO
              rw [lk_y hlk] at h98
              exact ⟨rfl, Mo.mk' ⟨rfl, rfl, rfl⟩ h98 hRn h102 htt h103, hfr9⟩) d_M_part_65
          refine wz_if_ne (tgt := 34) hx hb d_M_part_27 (by decide) (by omega) (by omega) (fun c27 => ?_) (fun c27 => ?_)
          · refine lv_iload_n hx hb d_M_part_34 rfl (lv_at hl 1 rfl) ?_
            refine pw_calli hw (va_runS (As := [.int (iI ((ua : Int)))]) (rest := []) ⟨hx, hb, hml, hown, hq⟩ (c_M_below l D ty ad M F3 H.size (ua) (by omega)) (va_cwS 1 hq (gS ml_M_82 st_M_below in_M m_M_below) rfl rfl rfl (by decide +kernel) ⟨Nat.le_of_ble_eq_true rfl, Nat.le_of_ble_eq_true rfl⟩) (pw_preS hw) rfl rfl hl.1 rfl (lv_room (Nat.le_of_ble_eq_true rfl)) d_M_part_35 ⟨Nat.le_of_ble_eq_true rfl, Nat.le_of_ble_eq_true rfl⟩) (fun r35 F35 H locs q35 hw => ?_)
            obtain ⟨er35, eF35⟩ := q35
            rw [eF35] at hw
            clear eF35
            subst er35
            refine lv_istore (lv' := [(4, .int (iI (((16 + ua : Nat) : Int)))), (0, .ref (ad (98))), (1, .int (iI ((ua : Int)))), (2, .int (iI (w))), (3, .int (iI ((kn : Int))))]) hx hb d_M_part_38 hl (by decide) rfl (fun ls hl => ?_)
            exact K40 (16 + ua) ((bS g ua : Nat) : Int) _ _ _ ls (by omega) ((hRn ua h16a).2) (by rw [if_neg (by omega)]; rfl) ((hok.at h16a).2.1) (fun y9 h1 => hf3 (y9) (by omega)) hO hRn h102 h103 hw (lv_sub hl [1, 2, 3, 4, 0] rfl)
          · refine lv_iload_n hx hb d_M_part_30 rfl (lv_at hl 1 rfl) ?_
            refine lv_goto (tgt := 38) hx hb d_M_part_31 (by decide) ?_
            refine lv_istore (lv' := [(4, .int (iI ((ua : Int)))), (0, .ref (ad (98))), (1, .int (iI ((ua : Int)))), (2, .int (iI (w))), (3, .int (iI ((kn : Int))))]) hx hb d_M_part_38 hl (by decide) rfl (fun ls hl => ?_)
            exact K40 ua (zS g ua) _ _ _ ls (by omega) ((hRn ua h16a).1) (by rw [if_pos (by omega)]) ((hok.at h16a).1) (fun y9 h1 => hf3 (y9) (by omega)) hO hRn h102 h103 hw (lv_sub hl [1, 2, 3, 4, 0] rfl)
        · refine lv_lconst (v := iL 0) hx hb d_M_part_24 (by decide) ?_
          rw [← hQ]
          exact pw_lret hx hb hr hlocks hw (by
            have h98 := hO
            first
            | (rw [lk_n hRe] at h98; rw [o_part, cif_neg hRe]; exact ⟨rfl, Mo.mk' ⟨rfl, rfl, rfl⟩ h98 hRn h102 htt h103, fun y9 h1 => hf3 (y9) (by omega)⟩)
            | (rw [lk_y hlk] at h98; rw [o_part, cif_pos hlk, if_neg (by omega)]; exact ⟨rfl, Mo.mk' ⟨rfl, rfl, rfl⟩ h98 hRn h102 htt h103, fun y9 h1 => hf3 (y9) (by omega)⟩)
            | (have hs9 : sm (if w = 0 then (zS g ua).natAbs else bS g ua) := by split; exact (hok.at h16a).1; exact (hok.at h16a).2.1
               rw [o_part, cif_pos hlk, if_pos (by omega), show a.toNat = ua by omega, part_0 hs9 (by omega)]; rw [lk_y hlk] at h98; exact ⟨rfl, Mo.mk' ⟨rfl, rfl, rfl⟩ h98 hRn h102 htt h103, fun y9 h1 => hf3 (y9) (by omega)⟩)) d_M_part_25
  rw [hH, hlo] at hgo
  exact hgo
