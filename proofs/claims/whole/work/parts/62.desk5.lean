/-! FractionDesk: write, read: by program -/
set_option maxHeartbeats 4000000 in
set_option maxRecDepth 100000 in
/-- write(a) -/
theorem c_K_write (l : Launch) (D : va_G) (ty : Nat → ClassId) (ad : Nat → Nat) (M : Nat) (F : Nat → va_E) (sz : Nat) (hl0 : l.stackTraces = false) (hM : 97 < M) (g : Sg) (hDk : Dk ty ad F g) (hok : okS g) (a : Int) (ha : -2147483648 ≤ a ∧ a < 2147483648) :
    XI l y_K_write w_K_write ({ frames := 7, cells := 8, slots := 48, locals := 121 } : Room) [.ref (ad (0)), .int (iI (a))] D ty ad M F sz 8 48 (dPost ty ad F (o_write g a)) (dPx ty ad F (o_write g a)) := by
  refine vx_ofW (cc := b_K_write) (maxL := 3) (ret := (some .int)) (by decide) rfl ?_
  intro p e s m args below meth c s₁ B hml hex hv
  obtain ⟨rfl, ⟨hsz, hP, hK, hD0⟩, hxk⟩ := hv
  have hx := B.exec
  have hb := B.bytes
  have hr := B.returns
  have hts := atoms_spec (ws := w_K_write) B.pre
  have hq : ∀ w ∈ wT, w.before _ s = true := fun w h => hts w (List.mem_cons_of_mem _ h)
  have hown : s.vm.findClass R_K = some m.cls := findClass_of_methodNamed B.named
  have hlocks := B.notSynchronized
  subst hsz
  have hw := pw_start hP hK hD0
  have hl := lv_entry ([.ref (ad (0)), .int (iI (a))]) (n := 3) (Nat.le_of_ble_eq_true rfl)
  rw [lg_entry_eq]
  generalize (lg_sl ([.ref (ad (0)), .int (iI (a))]) ++ List.replicate (3 - (lg_sl ([.ref (ad (0)), .int (iI (a))])).length) Slot.unset).toArray = ls at hl ⊢
  have hl : lv_has ls 3 [(0, .ref (ad (0))), (1, .int (iI (a)))] := hl
  change W p l e ({ frames := 7, cells := 8, slots := 48, locals := 121 } : Room) s m ([.ref (ad (0)), .int (iI (a))]).toArray below meth c s.heap [] 0 0 (vx_MQ below (va_Qi (dPost ty ad F (o_write g a)) (pAt D classes (tysL ty) ad M (pA ad M s.heap.size)) (pA ad M s.heap.size)) (xX D ty ad M s.heap.size (dPx ty ad F (o_write g a))) ([.ref (ad (0)), .int (iI (a))]).toArray s 8 48 (pA ad M s.heap.size)) (F0 m 0 ls [])
  generalize hQ : vx_MQ below (va_Qi (dPost ty ad F (o_write g a)) (pAt D classes (tysL ty) ad M (pA ad M s.heap.size)) (pA ad M s.heap.size)) (xX D ty ad M s.heap.size (dPx ty ad F (o_write g a))) ([.ref (ad (0)), .int (iI (a))]).toArray s 8 48 (pA ad M s.heap.size) = Q
  obtain ⟨H, hH⟩ : ∃ H, H = s.heap := ⟨_, rfl⟩
  obtain ⟨locs, hlo⟩ : ∃ z : List Loc, z = [] := ⟨_, rfl⟩
  have hw : pw D classes (tysL ty) ad M F (pA ad M s.heap.size) s H locs := by rw [hH, hlo]; exact hw
  have hgo : W p l e ({ frames := 7, cells := 8, slots := 48, locals := 121 } : Room) s m ([.ref (ad (0)), .int (iI (a))]).toArray below meth c H locs 0 0 Q (F0 m 0 ls []) := by
    obtain ⟨hK, hRg, hBn, hTx⟩ := id hDk
    obtain ⟨⟨q0, hR1, hq0⟩, hRf⟩ := id hRg
    obtain ⟨hT, g0, hC0, hn, hg, hlt⟩ := id hTx
    refine lv_aload_n hx hb d_K_write_0 rfl (lv_at hl 0 rfl) ?_
    refine lv_iload_n hx hb d_K_write_1 rfl (lv_at hl 1 rfl) ?_
    refine px_callr hw (vx_runV (As := [.int (iI (a))]) (rest := []) ⟨hx, hb, hml, hown, hq⟩ (c_K_register l D ty ad M F H.size hl0 hM g hDk hok a ha) (cwV 1 hq (gV ml_K_34 im_K_register se_K_register in_K m_K_register) rfl rfl rfl (by decide +kernel) ⟨Nat.le_of_ble_eq_true rfl, Nat.le_of_ble_eq_true rfl⟩) (px_preV hw hxk (by omega) hK rfl) rfl rfl hl.1 rfl (lv_room (Nat.le_of_ble_eq_true rfl)) d_K_write_2 ⟨Nat.le_of_ble_eq_true rfl, Nat.le_of_ble_eq_true rfl⟩) ?_ ?_
    · intro E9 ce9 q9 F9 H9 l9 hp9 hw9 h1 h2 h3
      rw [← hQ]
      refine px_out hex hlocks hw9 h1 h2 h3 ?_ (Nat.le_of_ble_eq_true rfl) (Nat.le_of_ble_eq_true rfl)
      exact by
        obtain ⟨h7, h8, h6⟩ := hp9
        dsimp only at h8 h6
        subst h8; subst h6
        rw [dPx, o_write, cif_neg (fun h9 => h7 (h9))]
        exact ⟨Or.inl ⟨rfl, rfl⟩, hDk, fun _ _ => rfl⟩
    intro r2 F2 H locs q2 hw
    obtain ⟨hRa, er2, eF2⟩ := q2
    dsimp only at er2 eF2
    rw [eF2] at hw
    clear eF2
    obtain ⟨x, ex⟩ : ∃ z : Nat, z = rN a := ⟨_, rfl⟩
    rw [show a.toNat = x from ex.symm] at er2
    subst er2
    have hx16 : x < 16 := by rw [ex]; exact rN_lt hRa
    have hokx := hok.at hx16
    obtain ⟨xs, exs⟩ : ∃ z : Nat, z = sB (zS g x) := ⟨_, rfl⟩
    obtain ⟨xt, ext⟩ : ∃ z : Nat, z = ab (zS g x) := ⟨_, rfl⟩
    have hFx : Frc ty ad F (2 + 5 * x) xt (bS g x) xs := by rw [exs, ext]; exact hRf x hx16
    have hzx : sg xs xt = zS g x := by rw [exs, ext]; exact sg_self _
    have hsx : xs ≤ 1 := by rw [exs]; exact sB_le _
    obtain ⟨hsmx1, hsmx2, hpx, hgx⟩ := hokx
    rw [show (zS g x).natAbs = xt from ext.symm] at hsmx1 hgx
    have hOx := hFx.2.1
    refine lv_astore_n (lv' := [(2, .ref (ad (2 + 5 * x))), (0, .ref (ad (0))), (1, .int (iI (a)))]) hx hb d_K_write_5 rfl hl (by decide) rfl (fun ls hl => ?_)
    refine lv_aload_n hx hb d_K_write_6 rfl (lv_at hl 1 rfl) ?_
    refine pw_get (ci := 5) (C := R_K) (T := T_K) (N := 4) hx hb hq i_K hown hw (by omega) hK rfl 2 (by decide) (hq _ fl_K_26) (fun _ h9 => h9) rfl d_K_write_7 ?_
    refine wz_iconst (n := 0) hx hb d_K_write_10 ?_
    refine pw_put (ci := 2) (C := R_T) (T := T_T) (N := 2) (ty := .int) (fs' := [.ref (ad (97)), .int (iI (0))]) hx hb hq i_T ft_T ft_T_ok n_T hown hw (by omega) hT rfl 1 (by decide) (hq _ fl_K_138) (fun _ h9 => h9) rfl (by decide +kernel) rfl rfl (Nat.le_of_ble_eq_true rfl) rfl d_K_write_11 (fun F11 H locs eF11 hw => ?_)
    have m11_96 : F11 (96) = .inr (2, [.ref (ad (97)), .int (iI (0))]) := by rw [eF11]; exact va_up_self ..
    have hK_at_11 : F11 (0) = .inr (5, [.ref (ad (1)), .ref (ad (82)), .ref (ad (96)), .int (iI (pS g))]) := (show F11 (0) = F (0) from by rw [eF11]; exact va_up_ne _ _ (by omega)).trans hK
    have hBn_at_11 : Bn ty ad F11 := Bn.m14 hBn (show F11 (82) = F (82) from by rw [eF11]; exact va_up_ne _ _ (by omega)) (show F11 (83) = F (83) from by rw [eF11]; exact va_up_ne _ _ (by omega)) (show F11 (84) = F (84) from by rw [eF11]; exact va_up_ne _ _ (by omega)) (show F11 (85) = F (85) from by rw [eF11]; exact va_up_ne _ _ (by omega)) (show F11 (86) = F (86) from by rw [eF11]; exact va_up_ne _ _ (by omega)) (show F11 (87) = F (87) from by rw [eF11]; exact va_up_ne _ _ (by omega)) (show F11 (88) = F (88) from by rw [eF11]; exact va_up_ne _ _ (by omega)) (show F11 (89) = F (89) from by rw [eF11]; exact va_up_ne _ _ (by omega)) (show F11 (90) = F (90) from by rw [eF11]; exact va_up_ne _ _ (by omega)) (show F11 (91) = F (91) from by rw [eF11]; exact va_up_ne _ _ (by omega)) (show F11 (92) = F (92) from by rw [eF11]; exact va_up_ne _ _ (by omega)) (show F11 (93) = F (93) from by rw [eF11]; exact va_up_ne _ _ (by omega)) (show F11 (94) = F (94) from by rw [eF11]; exact va_up_ne _ _ (by omega)) (show F11 (95) = F (95) from by rw [eF11]; exact va_up_ne _ _ (by omega))
    have hC0_at_11 : F11 (97) = .inl (ty 1, 1400, .inl (g0)) := (show F11 (97) = F (97) from by rw [eF11]; exact va_up_ne _ _ (by omega)).trans hC0
    have hOx_at_11 : F11 (2 + 5 * x) = .inr (1, [.ref (ad (2 + 5 * x + 1)), .ref (ad (2 + 5 * x + 3)), .int (iI ((xs : Int)))]) := (show F11 (2 + 5 * x) = F (2 + 5 * x) from by rw [eF11]; exact va_up_ne _ _ (by omega)).trans hOx
    have hFx_at_11 : Frc ty ad F11 (2 + 5 * x) xt (bS g x) xs := Frc.m5 hFx (show F11 (2 + 5 * x) = F (2 + 5 * x) from by rw [eF11]; exact va_up_ne _ _ (by omega)) (show F11 (2 + 5 * x + 1) = F (2 + 5 * x + 1) from by rw [eF11]; exact va_up_ne _ _ (by omega)) (show F11 (2 + 5 * x + 2) = F (2 + 5 * x + 2) from by rw [eF11]; exact va_up_ne _ _ (by omega)) (show F11 (2 + 5 * x + 3) = F (2 + 5 * x + 3) from by rw [eF11]; exact va_up_ne _ _ (by omega)) (show F11 (2 + 5 * x + 4) = F (2 + 5 * x + 4) from by rw [eF11]; exact va_up_ne _ _ (by omega))
    have hTz : Tx ty ad F11 (0) (tS g) := ⟨m11_96, g0, hC0_at_11, by omega, fun i hi => absurd hi (by omega), fun i hi => absurd hi (by omega)⟩
    refine lv_aload_n hx hb d_K_write_14 rfl (lv_at hl 0 rfl) ?_
    refine pw_get (ci := 1) (C := R_F) (T := T_F) (N := 3) hx hb hq i_F hown hw (by omega) hOx_at_11 rfl 2 (by decide) (hq _ fl_K_65) (fun _ h9 => h9) rfl d_K_write_15 ?_
    refine wz_if_eq (tgt := 30) hx hb d_K_write_18 (by decide) (by omega) (by omega) (fun c18 => ?_) (fun c18 => ?_)
    · refine lv_aload_n hx hb d_K_write_30 rfl (lv_at hl 1 rfl) ?_
      refine pw_get (ci := 5) (C := R_K) (T := T_K) (N := 4) hx hb hq i_K hown hw (by omega) hK_at_11 rfl 2 (by decide) (hq _ fl_K_26) (fun _ h9 => h9) rfl d_K_write_31 ?_
      refine lv_aload_n hx hb d_K_write_34 rfl (lv_at hl 1 rfl) ?_
      refine pw_get (ci := 5) (C := R_K) (T := T_K) (N := 4) hx hb hq i_K hown hw (by omega) hK_at_11 rfl 1 (by decide) (hq _ fl_K_19) (fun _ h9 => h9) rfl d_K_write_35 ?_
      refine lv_aload_n hx hb d_K_write_38 rfl (lv_at hl 0 rfl) ?_
      refine pw_get (ci := 1) (C := R_F) (T := T_F) (N := 3) hx hb hq i_F hown hw (by omega) hOx_at_11 rfl 0 (by decide) (hq _ fl_K_100) (fun _ h9 => h9) rfl d_K_write_39 ?_
      obtain ⟨⟨bb9, -, hB9⟩, -, -, -, -, hw91, -⟩ := id hBn_at_11
      refine pw_callr hw (va_runV (As := [.ref (ad (2 + 5 * x + 1))]) (rest := [.ref (ad (96))]) ⟨hx, hb, hml, hown, hq⟩ (c_B_copyOf l D ty ad M F11 H.size hM (2 + 5 * x + 1) 67 (xt) bb9 (by omega) (by omega) (by omega) hsmx1.f136 hB9 hw91 (hFx_at_11).2.2.1) (cwV 1 hq (gV ml_K_145 im_B_copyOf se_B_copyOf in_B m_B_copyOf) rfl rfl rfl (by decide +kernel) ⟨Nat.le_of_ble_eq_true rfl, Nat.le_of_ble_eq_true rfl⟩) (pw_preBn hw hM hBn_at_11) rfl rfl hl.1 rfl (lv_room (Nat.le_of_ble_eq_true rfl)) d_K_write_42 ⟨Nat.le_of_ble_eq_true rfl, Nat.le_of_ble_eq_true rfl⟩) (fun r42 F42 H locs q42 hw => ?_)
      obtain ⟨er42, ww, hf42⟩ := q42
      dsimp only at er42 ww hf42
      subst er42
      have hBn := Bn.set91 hBn_at_11 ww.a (fun y9 h1 h2 h3 h4 => hf42 y9 (by omega))
      have hK_at_42 : F42 (0) = .inr (5, [.ref (ad (1)), .ref (ad (82)), .ref (ad (96)), .int (iI (pS g))]) := (hf42 (0) (by omega)).trans hK_at_11
      have hOx_at_42 : F42 (2 + 5 * x) = .inr (1, [.ref (ad (2 + 5 * x + 1)), .ref (ad (2 + 5 * x + 3)), .int (iI ((xs : Int)))]) := (hf42 (2 + 5 * x) (by omega)).trans hOx_at_11
      have hFx_at_42 : Frc ty ad F42 (2 + 5 * x) xt (bS g x) xs := Frc.m5 hFx_at_11 (hf42 (2 + 5 * x) (by omega)) (hf42 (2 + 5 * x + 1) (by omega)) (hf42 (2 + 5 * x + 2) (by omega)) (hf42 (2 + 5 * x + 3) (by omega)) (hf42 (2 + 5 * x + 4) (by omega))
      have hTz_at_42 : Tx ty ad F42 (0) (tS g) := Tx.mv hTz (hf42 (96) (by omega)) (hf42 (97) (by omega))
      refine pw_callv hw (va_runV (As := [.ref (ad (91))]) (rest := []) ⟨hx, hb, hml, hown, hq⟩ (c_T_putDecimal l D ty ad M F42 H.size hM (0) (tS g) hTz_at_42 (xt) hsmx1 (by omega) ww) (cwV 1 hq (gV ml_K_149 im_T_putDecimal se_T_putDecimal in_T m_T_putDecimal) rfl rfl rfl (by decide +kernel) ⟨Nat.le_of_ble_eq_true rfl, Nat.le_of_ble_eq_true rfl⟩) (pw_preT hw (by omega) hTz_at_42) rfl rfl hl.1 rfl (lv_room (Nat.le_of_ble_eq_true rfl)) d_K_write_45 ⟨Nat.le_of_ble_eq_true rfl, Nat.le_of_ble_eq_true rfl⟩) (fun F45 H locs q45 hw => ?_)
      obtain ⟨⟨La, tza, hTz, hdtza⟩, hw91, hf45⟩ := q45
      have hBn := Bn.set91 hBn hw91 (fun y9 h1 h2 h3 h4 => hf45 y9 (by omega) (by omega) (by omega) (by omega))
      have hLLa := isLen_620 hdtza.1 hsmx1
      have hK_at_45 : F45 (0) = .inr (5, [.ref (ad (1)), .ref (ad (82)), .ref (ad (96)), .int (iI (pS g))]) := (hf45 (0) (by omega) (by omega) (by omega) (by omega)).trans hK_at_42
      have hOx_at_45 : F45 (2 + 5 * x) = .inr (1, [.ref (ad (2 + 5 * x + 1)), .ref (ad (2 + 5 * x + 3)), .int (iI ((xs : Int)))]) := (hf45 (2 + 5 * x) (by omega) (by omega) (by omega) (by omega)).trans hOx_at_42
      have hFx_at_45 : Frc ty ad F45 (2 + 5 * x) xt (bS g x) xs := Frc.m5 hFx_at_42 (hf45 (2 + 5 * x) (by omega) (by omega) (by omega) (by omega)) (hf45 (2 + 5 * x + 1) (by omega) (by omega) (by omega) (by omega)) (hf45 (2 + 5 * x + 2) (by omega) (by omega) (by omega) (by omega)) (hf45 (2 + 5 * x + 3) (by omega) (by omega) (by omega) (by omega)) (hf45 (2 + 5 * x + 4) (by omega) (by omega) (by omega) (by omega))
      refine lv_aload_n hx hb d_K_write_48 rfl (lv_at hl 0 rfl) ?_
      refine pw_calli hw (va_runV (As := []) (rest := []) ⟨hx, hb, hml, hown, hq⟩ (c_F_isWhole l D ty ad M F45 H.size (2 + 5 * x) xt (bS g x) xs (by omega) hFx_at_45) (cwV 0 hq (gV ml_K_55 im_F_isWhole se_F_isWhole in_F m_F_isWhole) rfl rfl rfl (by decide +kernel) ⟨Nat.le_of_ble_eq_true rfl, Nat.le_of_ble_eq_true rfl⟩) (pw_preV hw (by omega) hOx_at_45 rfl) rfl rfl hl.1 rfl (lv_room (Nat.le_of_ble_eq_true rfl)) d_K_write_49 ⟨Nat.le_of_ble_eq_true rfl, Nat.le_of_ble_eq_true rfl⟩) (fun r49 F49 H locs q49 hw => ?_)
      obtain ⟨er49, eF49⟩ := q49
      rw [eF49] at hw
      clear eF49
      subst er49
      refine wz_if_ne (tgt := 82) hx hb d_K_write_52 (by decide) (by split <;> omega) (by split <;> omega) (fun c52 => ?_) (fun c52 => ?_)
      · have hwh := ite_nz.mp c52
        refine lv_aload_n hx hb d_K_write_82 rfl (lv_at hl 1 rfl) ?_
        refine pw_get (ci := 5) (C := R_K) (T := T_K) (N := 4) hx hb hq i_K hown hw (by omega) hK_at_45 rfl 2 (by decide) (hq _ fl_K_26) (fun _ h9 => h9) rfl d_K_write_83 ?_
        have hT86 := (hTz).1
        refine pw_get (ci := 2) (C := R_T) (T := T_T) (N := 2) hx hb hq i_T hown hw (by omega) hT86 rfl 1 (by decide) (hq _ fl_K_138) (fun _ h9 => h9) rfl d_K_write_86 ?_
        rw [← hQ]
        refine W.widen (k := 8) (n := 48) (Nat.le_of_ble_eq_true rfl) (Nat.le_of_ble_eq_true rfl) ?_
        exact vx_ret (pw_iret hx hb hr hlocks hw (by
          have hxs : sB (zS g x) = 0 := by rw [← exs]; omega
          have hln : La = dlen (zS g x).natAbs := by rw [show (zS g x).natAbs = xt from ext.symm]; exact dlen_of hdtza.1
          have h1 : wr1 (zS g x) = (0 + La, decS (fun _ => 45) 0 (zS g x).natAbs) := by rw [wr1, hxs, hln]
          have hta : ∀ i, i < 0 + La → tza i = decS (fun _ => 45) 0 (zS g x).natAbs i := fun i hi => by
            rw [decT_S hdtza i hi, show (zS g x).natAbs = xt from ext.symm]
            exact decS_ext (fun j hj => absurd hj (by omega)) i
          have h2 : wrS (zS g x) (bS g x) = (0 + La, decS (fun _ => 45) 0 (zS g x).natAbs) := by rw [wrS, cif_pos hwh, h1]
          rw [dPost, o_write, cif_pos hRa, show a.toNat = x from ex.symm, h2]
          exact ⟨rfl, rfl, hDk.tb hBn ((hTz).ext hta) (fun y9 h9 => (hf45 (y9) (by omega) (by omega) (by omega) (by omega)).trans ((hf42 (y9) (by omega)).trans (show F11 (y9) = F (y9) from by rw [eF11]; exact va_up_ne _ _ (by omega)))), fun y9 h9 => (hf45 (y9) (by omega) (by omega) (by omega) (by omega)).trans ((hf42 (y9) (by omega)).trans (show F11 (y9) = F (y9) from by rw [eF11]; exact va_up_ne _ _ (by omega)))⟩) d_K_write_89)
      · have hwh := ite_z.mp c52
        refine lv_aload_n hx hb d_K_write_55 rfl (lv_at hl 1 rfl) ?_
        refine pw_get (ci := 5) (C := R_K) (T := T_K) (N := 4) hx hb hq i_K hown hw (by omega) hK_at_45 rfl 2 (by decide) (hq _ fl_K_26) (fun _ h9 => h9) rfl d_K_write_56 ?_
        refine wz_bipush (n := 47) hx hb d_K_write_59 (by decide) ?_
        refine pw_callv hw (va_runV (As := [.int (iI (47))]) (rest := []) ⟨hx, hb, hml, hown, hq⟩ (c_T_put l D ty ad M F45 H.size hM (0 + La) (tza) hTz (47) (by omega) (by omega)) (cwV 1 hq (gV ml_K_141 im_T_put se_T_put in_T m_T_put) rfl rfl rfl (by decide +kernel) ⟨Nat.le_of_ble_eq_true rfl, Nat.le_of_ble_eq_true rfl⟩) (pw_preT hw (by omega) hTz) rfl rfl hl.1 rfl (lv_room (Nat.le_of_ble_eq_true rfl)) d_K_write_61 ⟨Nat.le_of_ble_eq_true rfl, Nat.le_of_ble_eq_true rfl⟩) (fun F61 H locs q61 hw => ?_)
        obtain ⟨hTz, hf61⟩ := q61
        have hK_at_61 : F61 (0) = .inr (5, [.ref (ad (1)), .ref (ad (82)), .ref (ad (96)), .int (iI (pS g))]) := (hf61 (0) (by omega) (by omega)).trans hK_at_45
        have hOx_at_61 : F61 (2 + 5 * x) = .inr (1, [.ref (ad (2 + 5 * x + 1)), .ref (ad (2 + 5 * x + 3)), .int (iI ((xs : Int)))]) := (hf61 (2 + 5 * x) (by omega) (by omega)).trans hOx_at_45
        have hFx_at_61 : Frc ty ad F61 (2 + 5 * x) xt (bS g x) xs := Frc.m5 hFx_at_45 (hf61 (2 + 5 * x) (by omega) (by omega)) (hf61 (2 + 5 * x + 1) (by omega) (by omega)) (hf61 (2 + 5 * x + 2) (by omega) (by omega)) (hf61 (2 + 5 * x + 3) (by omega) (by omega)) (hf61 (2 + 5 * x + 4) (by omega) (by omega))
        have hBn_at_61 : Bn ty ad F61 := Bn.m14 hBn (hf61 (82) (by omega) (by omega)) (hf61 (83) (by omega) (by omega)) (hf61 (84) (by omega) (by omega)) (hf61 (85) (by omega) (by omega)) (hf61 (86) (by omega) (by omega)) (hf61 (87) (by omega) (by omega)) (hf61 (88) (by omega) (by omega)) (hf61 (89) (by omega) (by omega)) (hf61 (90) (by omega) (by omega)) (hf61 (91) (by omega) (by omega)) (hf61 (92) (by omega) (by omega)) (hf61 (93) (by omega) (by omega)) (hf61 (94) (by omega) (by omega)) (hf61 (95) (by omega) (by omega))
        refine lv_aload_n hx hb d_K_write_64 rfl (lv_at hl 1 rfl) ?_
        refine pw_get (ci := 5) (C := R_K) (T := T_K) (N := 4) hx hb hq i_K hown hw (by omega) hK_at_61 rfl 2 (by decide) (hq _ fl_K_26) (fun _ h9 => h9) rfl d_K_write_65 ?_
        refine lv_aload_n hx hb d_K_write_68 rfl (lv_at hl 1 rfl) ?_
        refine pw_get (ci := 5) (C := R_K) (T := T_K) (N := 4) hx hb hq i_K hown hw (by omega) hK_at_61 rfl 1 (by decide) (hq _ fl_K_19) (fun _ h9 => h9) rfl d_K_write_69 ?_
        refine lv_aload_n hx hb d_K_write_72 rfl (lv_at hl 0 rfl) ?_
        refine pw_get (ci := 1) (C := R_F) (T := T_F) (N := 3) hx hb hq i_F hown hw (by omega) hOx_at_61 rfl 1 (by decide) (hq _ fl_K_104) (fun _ h9 => h9) rfl d_K_write_73 ?_
        obtain ⟨⟨bb9, -, hB9⟩, -, -, -, -, hw91, -⟩ := id hBn_at_61
        refine pw_callr hw (va_runV (As := [.ref (ad (2 + 5 * x + 3))]) (rest := [.ref (ad (96))]) ⟨hx, hb, hml, hown, hq⟩ (c_B_copyOf l D ty ad M F61 H.size hM (2 + 5 * x + 3) 67 (bS g x) bb9 (by omega) (by omega) (by omega) hsmx2.f136 hB9 hw91 (hFx_at_61).2.2.2) (cwV 1 hq (gV ml_K_145 im_B_copyOf se_B_copyOf in_B m_B_copyOf) rfl rfl rfl (by decide +kernel) ⟨Nat.le_of_ble_eq_true rfl, Nat.le_of_ble_eq_true rfl⟩) (pw_preBn hw hM hBn_at_61) rfl rfl hl.1 rfl (lv_room (Nat.le_of_ble_eq_true rfl)) d_K_write_76 ⟨Nat.le_of_ble_eq_true rfl, Nat.le_of_ble_eq_true rfl⟩) (fun r76 F76 H locs q76 hw => ?_)
        obtain ⟨er76, ww, hf76⟩ := q76
        dsimp only at er76 ww hf76
        subst er76
        have hBn := Bn.set91 hBn_at_61 ww.a (fun y9 h1 h2 h3 h4 => hf76 y9 (by omega))
        have hK_at_76 : F76 (0) = .inr (5, [.ref (ad (1)), .ref (ad (82)), .ref (ad (96)), .int (iI (pS g))]) := (hf76 (0) (by omega)).trans hK_at_61
        have hOx_at_76 : F76 (2 + 5 * x) = .inr (1, [.ref (ad (2 + 5 * x + 1)), .ref (ad (2 + 5 * x + 3)), .int (iI ((xs : Int)))]) := (hf76 (2 + 5 * x) (by omega)).trans hOx_at_61
        have hFx_at_76 : Frc ty ad F76 (2 + 5 * x) xt (bS g x) xs := Frc.m5 hFx_at_61 (hf76 (2 + 5 * x) (by omega)) (hf76 (2 + 5 * x + 1) (by omega)) (hf76 (2 + 5 * x + 2) (by omega)) (hf76 (2 + 5 * x + 3) (by omega)) (hf76 (2 + 5 * x + 4) (by omega))
        have hTz_at_76 : Tx ty ad F76 (0 + La + 1) (txp tza (0 + La) (47)) := Tx.mv hTz (hf76 (96) (by omega)) (hf76 (97) (by omega))
        refine pw_callv hw (va_runV (As := [.ref (ad (91))]) (rest := []) ⟨hx, hb, hml, hown, hq⟩ (c_T_putDecimal l D ty ad M F76 H.size hM (0 + La + 1) (txp tza (0 + La) (47)) hTz_at_76 (bS g x) hsmx2 (by omega) ww) (cwV 1 hq (gV ml_K_149 im_T_putDecimal se_T_putDecimal in_T m_T_putDecimal) rfl rfl rfl (by decide +kernel) ⟨Nat.le_of_ble_eq_true rfl, Nat.le_of_ble_eq_true rfl⟩) (pw_preT hw (by omega) hTz_at_76) rfl rfl hl.1 rfl (lv_room (Nat.le_of_ble_eq_true rfl)) d_K_write_79 ⟨Nat.le_of_ble_eq_true rfl, Nat.le_of_ble_eq_true rfl⟩) (fun F79 H locs q79 hw => ?_)
        obtain ⟨⟨Lb, tzb, hTz, hdtzb⟩, hw91, hf79⟩ := q79
        have hBn := Bn.set91 hBn hw91 (fun y9 h1 h2 h3 h4 => hf79 y9 (by omega) (by omega) (by omega) (by omega))
        have hLLb := isLen_620 hdtzb.1 hsmx2
        have hK_at_79 : F79 (0) = .inr (5, [.ref (ad (1)), .ref (ad (82)), .ref (ad (96)), .int (iI (pS g))]) := (hf79 (0) (by omega) (by omega) (by omega) (by omega)).trans hK_at_76
        have hOx_at_79 : F79 (2 + 5 * x) = .inr (1, [.ref (ad (2 + 5 * x + 1)), .ref (ad (2 + 5 * x + 3)), .int (iI ((xs : Int)))]) := (hf79 (2 + 5 * x) (by omega) (by omega) (by omega) (by omega)).trans hOx_at_76
        have hFx_at_79 : Frc ty ad F79 (2 + 5 * x) xt (bS g x) xs := Frc.m5 hFx_at_76 (hf79 (2 + 5 * x) (by omega) (by omega) (by omega) (by omega)) (hf79 (2 + 5 * x + 1) (by omega) (by omega) (by omega) (by omega)) (hf79 (2 + 5 * x + 2) (by omega) (by omega) (by omega) (by omega)) (hf79 (2 + 5 * x + 3) (by omega) (by omega) (by omega) (by omega)) (hf79 (2 + 5 * x + 4) (by omega) (by omega) (by omega) (by omega))
        refine lv_aload_n hx hb d_K_write_82 rfl (lv_at hl 1 rfl) ?_
        refine pw_get (ci := 5) (C := R_K) (T := T_K) (N := 4) hx hb hq i_K hown hw (by omega) hK_at_79 rfl 2 (by decide) (hq _ fl_K_26) (fun _ h9 => h9) rfl d_K_write_83 ?_
        have hT86 := (hTz).1
        refine pw_get (ci := 2) (C := R_T) (T := T_T) (N := 2) hx hb hq i_T hown hw (by omega) hT86 rfl 1 (by decide) (hq _ fl_K_138) (fun _ h9 => h9) rfl d_K_write_86 ?_
        rw [← hQ]
        refine W.widen (k := 8) (n := 48) (Nat.le_of_ble_eq_true rfl) (Nat.le_of_ble_eq_true rfl) ?_
        exact vx_ret (pw_iret hx hb hr hlocks hw (by
          have hxs : sB (zS g x) = 0 := by rw [← exs]; omega
          have hln : La = dlen (zS g x).natAbs := by rw [show (zS g x).natAbs = xt from ext.symm]; exact dlen_of hdtza.1
          have h1 : wr1 (zS g x) = (0 + La, decS (fun _ => 45) 0 (zS g x).natAbs) := by rw [wr1, hxs, hln]
          have hta : ∀ i, i < 0 + La → tza i = decS (fun _ => 45) 0 (zS g x).natAbs i := fun i hi => by
            rw [decT_S hdtza i hi, show (zS g x).natAbs = xt from ext.symm]
            exact decS_ext (fun j hj => absurd hj (by omega)) i
          have h2 : wrS (zS g x) (bS g x) = (0 + La + 1 + Lb, decS (txp (decS (fun _ => 45) 0 (zS g x).natAbs) (0 + La) 47) (0 + La + 1) (bS g x)) := by rw [wrS, cif_neg hwh, h1, dlen_of hdtzb.1]
          have htb : ∀ i, i < 0 + La + 1 + Lb → tzb i = decS (txp (decS (fun _ => 45) 0 (zS g x).natAbs) (0 + La) 47) (0 + La + 1) (bS g x) i := fun i hi => by
            rw [decT_S hdtzb i hi]
            refine decS_ext (fun j hj => ?_) i
            by_cases h9 : j = 0 + La
            · rw [h9, txp_s, txp_s]
            · rw [txp_n h9, txp_n h9]; exact hta j (by omega)
          rw [dPost, o_write, cif_pos hRa, show a.toNat = x from ex.symm, h2]
          exact ⟨rfl, rfl, hDk.tb hBn ((hTz).ext htb) (fun y9 h9 => (hf79 (y9) (by omega) (by omega) (by omega) (by omega)).trans ((hf76 (y9) (by omega)).trans ((hf61 (y9) (by omega) (by omega)).trans ((hf45 (y9) (by omega) (by omega) (by omega) (by omega)).trans ((hf42 (y9) (by omega)).trans (show F11 (y9) = F (y9) from by rw [eF11]; exact va_up_ne _ _ (by omega))))))), fun y9 h9 => (hf79 (y9) (by omega) (by omega) (by omega) (by omega)).trans ((hf76 (y9) (by omega)).trans ((hf61 (y9) (by omega) (by omega)).trans ((hf45 (y9) (by omega) (by omega) (by omega) (by omega)).trans ((hf42 (y9) (by omega)).trans (show F11 (y9) = F (y9) from by rw [eF11]; exact va_up_ne _ _ (by omega))))))⟩) d_K_write_89)
    · refine lv_aload_n hx hb d_K_write_21 rfl (lv_at hl 1 rfl) ?_
      refine pw_get (ci := 5) (C := R_K) (T := T_K) (N := 4) hx hb hq i_K hown hw (by omega) hK_at_11 rfl 2 (by decide) (hq _ fl_K_26) (fun _ h9 => h9) rfl d_K_write_22 ?_
      refine wz_bipush (n := 45) hx hb d_K_write_25 (by decide) ?_
      refine pw_callv hw (va_runV (As := [.int (iI (45))]) (rest := []) ⟨hx, hb, hml, hown, hq⟩ (c_T_put l D ty ad M F11 H.size hM (0) (tS g) hTz (45) (by omega) (by omega)) (cwV 1 hq (gV ml_K_141 im_T_put se_T_put in_T m_T_put) rfl rfl rfl (by decide +kernel) ⟨Nat.le_of_ble_eq_true rfl, Nat.le_of_ble_eq_true rfl⟩) (pw_preT hw (by omega) hTz) rfl rfl hl.1 rfl (lv_room (Nat.le_of_ble_eq_true rfl)) d_K_write_27 ⟨Nat.le_of_ble_eq_true rfl, Nat.le_of_ble_eq_true rfl⟩) (fun F27 H locs q27 hw => ?_)
      obtain ⟨hTz, hf27⟩ := q27
      have hK_at_27 : F27 (0) = .inr (5, [.ref (ad (1)), .ref (ad (82)), .ref (ad (96)), .int (iI (pS g))]) := (hf27 (0) (by omega) (by omega)).trans hK_at_11
      have hBn_at_27 : Bn ty ad F27 := Bn.m14 hBn_at_11 (hf27 (82) (by omega) (by omega)) (hf27 (83) (by omega) (by omega)) (hf27 (84) (by omega) (by omega)) (hf27 (85) (by omega) (by omega)) (hf27 (86) (by omega) (by omega)) (hf27 (87) (by omega) (by omega)) (hf27 (88) (by omega) (by omega)) (hf27 (89) (by omega) (by omega)) (hf27 (90) (by omega) (by omega)) (hf27 (91) (by omega) (by omega)) (hf27 (92) (by omega) (by omega)) (hf27 (93) (by omega) (by omega)) (hf27 (94) (by omega) (by omega)) (hf27 (95) (by omega) (by omega))
      have hOx_at_27 : F27 (2 + 5 * x) = .inr (1, [.ref (ad (2 + 5 * x + 1)), .ref (ad (2 + 5 * x + 3)), .int (iI ((xs : Int)))]) := (hf27 (2 + 5 * x) (by omega) (by omega)).trans hOx_at_11
      have hFx_at_27 : Frc ty ad F27 (2 + 5 * x) xt (bS g x) xs := Frc.m5 hFx_at_11 (hf27 (2 + 5 * x) (by omega) (by omega)) (hf27 (2 + 5 * x + 1) (by omega) (by omega)) (hf27 (2 + 5 * x + 2) (by omega) (by omega)) (hf27 (2 + 5 * x + 3) (by omega) (by omega)) (hf27 (2 + 5 * x + 4) (by omega) (by omega))
      refine lv_aload_n hx hb d_K_write_30 rfl (lv_at hl 1 rfl) ?_
      refine pw_get (ci := 5) (C := R_K) (T := T_K) (N := 4) hx hb hq i_K hown hw (by omega) hK_at_27 rfl 2 (by decide) (hq _ fl_K_26) (fun _ h9 => h9) rfl d_K_write_31 ?_
      refine lv_aload_n hx hb d_K_write_34 rfl (lv_at hl 1 rfl) ?_
      refine pw_get (ci := 5) (C := R_K) (T := T_K) (N := 4) hx hb hq i_K hown hw (by omega) hK_at_27 rfl 1 (by decide) (hq _ fl_K_19) (fun _ h9 => h9) rfl d_K_write_35 ?_
      refine lv_aload_n hx hb d_K_write_38 rfl (lv_at hl 0 rfl) ?_
      refine pw_get (ci := 1) (C := R_F) (T := T_F) (N := 3) hx hb hq i_F hown hw (by omega) hOx_at_27 rfl 0 (by decide) (hq _ fl_K_100) (fun _ h9 => h9) rfl d_K_write_39 ?_
      obtain ⟨⟨bb9, -, hB9⟩, -, -, -, -, hw91, -⟩ := id hBn_at_27
      refine pw_callr hw (va_runV (As := [.ref (ad (2 + 5 * x + 1))]) (rest := [.ref (ad (96))]) ⟨hx, hb, hml, hown, hq⟩ (c_B_copyOf l D ty ad M F27 H.size hM (2 + 5 * x + 1) 67 (xt) bb9 (by omega) (by omega) (by omega) hsmx1.f136 hB9 hw91 (hFx_at_27).2.2.1) (cwV 1 hq (gV ml_K_145 im_B_copyOf se_B_copyOf in_B m_B_copyOf) rfl rfl rfl (by decide +kernel) ⟨Nat.le_of_ble_eq_true rfl, Nat.le_of_ble_eq_true rfl⟩) (pw_preBn hw hM hBn_at_27) rfl rfl hl.1 rfl (lv_room (Nat.le_of_ble_eq_true rfl)) d_K_write_42 ⟨Nat.le_of_ble_eq_true rfl, Nat.le_of_ble_eq_true rfl⟩) (fun r42 F42 H locs q42 hw => ?_)
      obtain ⟨er42, ww, hf42⟩ := q42
      dsimp only at er42 ww hf42
      subst er42
      have hBn := Bn.set91 hBn_at_27 ww.a (fun y9 h1 h2 h3 h4 => hf42 y9 (by omega))
      have hK_at_42 : F42 (0) = .inr (5, [.ref (ad (1)), .ref (ad (82)), .ref (ad (96)), .int (iI (pS g))]) := (hf42 (0) (by omega)).trans hK_at_27
      have hOx_at_42 : F42 (2 + 5 * x) = .inr (1, [.ref (ad (2 + 5 * x + 1)), .ref (ad (2 + 5 * x + 3)), .int (iI ((xs : Int)))]) := (hf42 (2 + 5 * x) (by omega)).trans hOx_at_27
      have hFx_at_42 : Frc ty ad F42 (2 + 5 * x) xt (bS g x) xs := Frc.m5 hFx_at_27 (hf42 (2 + 5 * x) (by omega)) (hf42 (2 + 5 * x + 1) (by omega)) (hf42 (2 + 5 * x + 2) (by omega)) (hf42 (2 + 5 * x + 3) (by omega)) (hf42 (2 + 5 * x + 4) (by omega))
      have hTz_at_42 : Tx ty ad F42 (1) (txp (tS g) (0) (45)) := Tx.mv hTz (hf42 (96) (by omega)) (hf42 (97) (by omega))
      refine pw_callv hw (va_runV (As := [.ref (ad (91))]) (rest := []) ⟨hx, hb, hml, hown, hq⟩ (c_T_putDecimal l D ty ad M F42 H.size hM (1) (txp (tS g) (0) (45)) hTz_at_42 (xt) hsmx1 (by omega) ww) (cwV 1 hq (gV ml_K_149 im_T_putDecimal se_T_putDecimal in_T m_T_putDecimal) rfl rfl rfl (by decide +kernel) ⟨Nat.le_of_ble_eq_true rfl, Nat.le_of_ble_eq_true rfl⟩) (pw_preT hw (by omega) hTz_at_42) rfl rfl hl.1 rfl (lv_room (Nat.le_of_ble_eq_true rfl)) d_K_write_45 ⟨Nat.le_of_ble_eq_true rfl, Nat.le_of_ble_eq_true rfl⟩) (fun F45 H locs q45 hw => ?_)
      obtain ⟨⟨La, tza, hTz, hdtza⟩, hw91, hf45⟩ := q45
      have hBn := Bn.set91 hBn hw91 (fun y9 h1 h2 h3 h4 => hf45 y9 (by omega) (by omega) (by omega) (by omega))
      have hLLa := isLen_620 hdtza.1 hsmx1
      have hK_at_45 : F45 (0) = .inr (5, [.ref (ad (1)), .ref (ad (82)), .ref (ad (96)), .int (iI (pS g))]) := (hf45 (0) (by omega) (by omega) (by omega) (by omega)).trans hK_at_42
      have hOx_at_45 : F45 (2 + 5 * x) = .inr (1, [.ref (ad (2 + 5 * x + 1)), .ref (ad (2 + 5 * x + 3)), .int (iI ((xs : Int)))]) := (hf45 (2 + 5 * x) (by omega) (by omega) (by omega) (by omega)).trans hOx_at_42
      have hFx_at_45 : Frc ty ad F45 (2 + 5 * x) xt (bS g x) xs := Frc.m5 hFx_at_42 (hf45 (2 + 5 * x) (by omega) (by omega) (by omega) (by omega)) (hf45 (2 + 5 * x + 1) (by omega) (by omega) (by omega) (by omega)) (hf45 (2 + 5 * x + 2) (by omega) (by omega) (by omega) (by omega)) (hf45 (2 + 5 * x + 3) (by omega) (by omega) (by omega) (by omega)) (hf45 (2 + 5 * x + 4) (by omega) (by omega) (by omega) (by omega))
      refine lv_aload_n hx hb d_K_write_48 rfl (lv_at hl 0 rfl) ?_
      refine pw_calli hw (va_runV (As := []) (rest := []) ⟨hx, hb, hml, hown, hq⟩ (c_F_isWhole l D ty ad M F45 H.size (2 + 5 * x) xt (bS g x) xs (by omega) hFx_at_45) (cwV 0 hq (gV ml_K_55 im_F_isWhole se_F_isWhole in_F m_F_isWhole) rfl rfl rfl (by decide +kernel) ⟨Nat.le_of_ble_eq_true rfl, Nat.le_of_ble_eq_true rfl⟩) (pw_preV hw (by omega) hOx_at_45 rfl) rfl rfl hl.1 rfl (lv_room (Nat.le_of_ble_eq_true rfl)) d_K_write_49 ⟨Nat.le_of_ble_eq_true rfl, Nat.le_of_ble_eq_true rfl⟩) (fun r49 F49 H locs q49 hw => ?_)
      obtain ⟨er49, eF49⟩ := q49
      rw [eF49] at hw
      clear eF49
      subst er49
      refine wz_if_ne (tgt := 82) hx hb d_K_write_52 (by decide) (by split <;> omega) (by split <;> omega) (fun c52 => ?_) (fun c52 => ?_)
      · have hwh := ite_nz.mp c52
        refine lv_aload_n hx hb d_K_write_82 rfl (lv_at hl 1 rfl) ?_
        refine pw_get (ci := 5) (C := R_K) (T := T_K) (N := 4) hx hb hq i_K hown hw (by omega) hK_at_45 rfl 2 (by decide) (hq _ fl_K_26) (fun _ h9 => h9) rfl d_K_write_83 ?_
        have hT86 := (hTz).1
        refine pw_get (ci := 2) (C := R_T) (T := T_T) (N := 2) hx hb hq i_T hown hw (by omega) hT86 rfl 1 (by decide) (hq _ fl_K_138) (fun _ h9 => h9) rfl d_K_write_86 ?_
        rw [← hQ]
        refine W.widen (k := 8) (n := 48) (Nat.le_of_ble_eq_true rfl) (Nat.le_of_ble_eq_true rfl) ?_
        exact vx_ret (pw_iret hx hb hr hlocks hw (by
          have hxs : sB (zS g x) = 1 := by rw [← exs]; omega
          have hln : La = dlen (zS g x).natAbs := by rw [show (zS g x).natAbs = xt from ext.symm]; exact dlen_of hdtza.1
          have h1 : wr1 (zS g x) = (1 + La, decS (fun _ => 45) 1 (zS g x).natAbs) := by rw [wr1, hxs, hln]
          have hta : ∀ i, i < 1 + La → tza i = decS (fun _ => 45) 1 (zS g x).natAbs i := fun i hi => by
            rw [decT_S hdtza i hi, show (zS g x).natAbs = xt from ext.symm]
            exact decS_ext (fun j hj => by rw [show j = 0 by omega, txp_s]) i
          have h2 : wrS (zS g x) (bS g x) = (1 + La, decS (fun _ => 45) 1 (zS g x).natAbs) := by rw [wrS, cif_pos hwh, h1]
          rw [dPost, o_write, cif_pos hRa, show a.toNat = x from ex.symm, h2]
          exact ⟨rfl, rfl, hDk.tb hBn ((hTz).ext hta) (fun y9 h9 => (hf45 (y9) (by omega) (by omega) (by omega) (by omega)).trans ((hf42 (y9) (by omega)).trans ((hf27 (y9) (by omega) (by omega)).trans (show F11 (y9) = F (y9) from by rw [eF11]; exact va_up_ne _ _ (by omega))))), fun y9 h9 => (hf45 (y9) (by omega) (by omega) (by omega) (by omega)).trans ((hf42 (y9) (by omega)).trans ((hf27 (y9) (by omega) (by omega)).trans (show F11 (y9) = F (y9) from by rw [eF11]; exact va_up_ne _ _ (by omega))))⟩) d_K_write_89)
      · have hwh := ite_z.mp c52
        refine lv_aload_n hx hb d_K_write_55 rfl (lv_at hl 1 rfl) ?_
        refine pw_get (ci := 5) (C := R_K) (T := T_K) (N := 4) hx hb hq i_K hown hw (by omega) hK_at_45 rfl 2 (by decide) (hq _ fl_K_26) (fun _ h9 => h9) rfl d_K_write_56 ?_
        refine wz_bipush (n := 47) hx hb d_K_write_59 (by decide) ?_
        refine pw_callv hw (va_runV (As := [.int (iI (47))]) (rest := []) ⟨hx, hb, hml, hown, hq⟩ (c_T_put l D ty ad M F45 H.size hM (1 + La) (tza) hTz (47) (by omega) (by omega)) (cwV 1 hq (gV ml_K_141 im_T_put se_T_put in_T m_T_put) rfl rfl rfl (by decide +kernel) ⟨Nat.le_of_ble_eq_true rfl, Nat.le_of_ble_eq_true rfl⟩) (pw_preT hw (by omega) hTz) rfl rfl hl.1 rfl (lv_room (Nat.le_of_ble_eq_true rfl)) d_K_write_61 ⟨Nat.le_of_ble_eq_true rfl, Nat.le_of_ble_eq_true rfl⟩) (fun F61 H locs q61 hw => ?_)
        obtain ⟨hTz, hf61⟩ := q61
        have hK_at_61 : F61 (0) = .inr (5, [.ref (ad (1)), .ref (ad (82)), .ref (ad (96)), .int (iI (pS g))]) := (hf61 (0) (by omega) (by omega)).trans hK_at_45
        have hOx_at_61 : F61 (2 + 5 * x) = .inr (1, [.ref (ad (2 + 5 * x + 1)), .ref (ad (2 + 5 * x + 3)), .int (iI ((xs : Int)))]) := (hf61 (2 + 5 * x) (by omega) (by omega)).trans hOx_at_45
        have hFx_at_61 : Frc ty ad F61 (2 + 5 * x) xt (bS g x) xs := Frc.m5 hFx_at_45 (hf61 (2 + 5 * x) (by omega) (by omega)) (hf61 (2 + 5 * x + 1) (by omega) (by omega)) (hf61 (2 + 5 * x + 2) (by omega) (by omega)) (hf61 (2 + 5 * x + 3) (by omega) (by omega)) (hf61 (2 + 5 * x + 4) (by omega) (by omega))
        have hBn_at_61 : Bn ty ad F61 := Bn.m14 hBn (hf61 (82) (by omega) (by omega)) (hf61 (83) (by omega) (by omega)) (hf61 (84) (by omega) (by omega)) (hf61 (85) (by omega) (by omega)) (hf61 (86) (by omega) (by omega)) (hf61 (87) (by omega) (by omega)) (hf61 (88) (by omega) (by omega)) (hf61 (89) (by omega) (by omega)) (hf61 (90) (by omega) (by omega)) (hf61 (91) (by omega) (by omega)) (hf61 (92) (by omega) (by omega)) (hf61 (93) (by omega) (by omega)) (hf61 (94) (by omega) (by omega)) (hf61 (95) (by omega) (by omega))
        refine lv_aload_n hx hb d_K_write_64 rfl (lv_at hl 1 rfl) ?_
        refine pw_get (ci := 5) (C := R_K) (T := T_K) (N := 4) hx hb hq i_K hown hw (by omega) hK_at_61 rfl 2 (by decide) (hq _ fl_K_26) (fun _ h9 => h9) rfl d_K_write_65 ?_
        refine lv_aload_n hx hb d_K_write_68 rfl (lv_at hl 1 rfl) ?_
        refine pw_get (ci := 5) (C := R_K) (T := T_K) (N := 4) hx hb hq i_K hown hw (by omega) hK_at_61 rfl 1 (by decide) (hq _ fl_K_19) (fun _ h9 => h9) rfl d_K_write_69 ?_
        refine lv_aload_n hx hb d_K_write_72 rfl (lv_at hl 0 rfl) ?_
        refine pw_get (ci := 1) (C := R_F) (T := T_F) (N := 3) hx hb hq i_F hown hw (by omega) hOx_at_61 rfl 1 (by decide) (hq _ fl_K_104) (fun _ h9 => h9) rfl d_K_write_73 ?_
        obtain ⟨⟨bb9, -, hB9⟩, -, -, -, -, hw91, -⟩ := id hBn_at_61
        refine pw_callr hw (va_runV (As := [.ref (ad (2 + 5 * x + 3))]) (rest := [.ref (ad (96))]) ⟨hx, hb, hml, hown, hq⟩ (c_B_copyOf l D ty ad M F61 H.size hM (2 + 5 * x + 3) 67 (bS g x) bb9 (by omega) (by omega) (by omega) hsmx2.f136 hB9 hw91 (hFx_at_61).2.2.2) (cwV 1 hq (gV ml_K_145 im_B_copyOf se_B_copyOf in_B m_B_copyOf) rfl rfl rfl (by decide +kernel) ⟨Nat.le_of_ble_eq_true rfl, Nat.le_of_ble_eq_true rfl⟩) (pw_preBn hw hM hBn_at_61) rfl rfl hl.1 rfl (lv_room (Nat.le_of_ble_eq_true rfl)) d_K_write_76 ⟨Nat.le_of_ble_eq_true rfl, Nat.le_of_ble_eq_true rfl⟩) (fun r76 F76 H locs q76 hw => ?_)
        obtain ⟨er76, ww, hf76⟩ := q76
        dsimp only at er76 ww hf76
        subst er76
        have hBn := Bn.set91 hBn_at_61 ww.a (fun y9 h1 h2 h3 h4 => hf76 y9 (by omega))
        have hK_at_76 : F76 (0) = .inr (5, [.ref (ad (1)), .ref (ad (82)), .ref (ad (96)), .int (iI (pS g))]) := (hf76 (0) (by omega)).trans hK_at_61
        have hOx_at_76 : F76 (2 + 5 * x) = .inr (1, [.ref (ad (2 + 5 * x + 1)), .ref (ad (2 + 5 * x + 3)), .int (iI ((xs : Int)))]) := (hf76 (2 + 5 * x) (by omega)).trans hOx_at_61
        have hFx_at_76 : Frc ty ad F76 (2 + 5 * x) xt (bS g x) xs := Frc.m5 hFx_at_61 (hf76 (2 + 5 * x) (by omega)) (hf76 (2 + 5 * x + 1) (by omega)) (hf76 (2 + 5 * x + 2) (by omega)) (hf76 (2 + 5 * x + 3) (by omega)) (hf76 (2 + 5 * x + 4) (by omega))
        have hTz_at_76 : Tx ty ad F76 (1 + La + 1) (txp tza (1 + La) (47)) := Tx.mv hTz (hf76 (96) (by omega)) (hf76 (97) (by omega))
        refine pw_callv hw (va_runV (As := [.ref (ad (91))]) (rest := []) ⟨hx, hb, hml, hown, hq⟩ (c_T_putDecimal l D ty ad M F76 H.size hM (1 + La + 1) (txp tza (1 + La) (47)) hTz_at_76 (bS g x) hsmx2 (by omega) ww) (cwV 1 hq (gV ml_K_149 im_T_putDecimal se_T_putDecimal in_T m_T_putDecimal) rfl rfl rfl (by decide +kernel) ⟨Nat.le_of_ble_eq_true rfl, Nat.le_of_ble_eq_true rfl⟩) (pw_preT hw (by omega) hTz_at_76) rfl rfl hl.1 rfl (lv_room (Nat.le_of_ble_eq_true rfl)) d_K_write_79 ⟨Nat.le_of_ble_eq_true rfl, Nat.le_of_ble_eq_true rfl⟩) (fun F79 H locs q79 hw => ?_)
        obtain ⟨⟨Lb, tzb, hTz, hdtzb⟩, hw91, hf79⟩ := q79
        have hBn := Bn.set91 hBn hw91 (fun y9 h1 h2 h3 h4 => hf79 y9 (by omega) (by omega) (by omega) (by omega))
        have hLLb := isLen_620 hdtzb.1 hsmx2
        have hK_at_79 : F79 (0) = .inr (5, [.ref (ad (1)), .ref (ad (82)), .ref (ad (96)), .int (iI (pS g))]) := (hf79 (0) (by omega) (by omega) (by omega) (by omega)).trans hK_at_76
        have hOx_at_79 : F79 (2 + 5 * x) = .inr (1, [.ref (ad (2 + 5 * x + 1)), .ref (ad (2 + 5 * x + 3)), .int (iI ((xs : Int)))]) := (hf79 (2 + 5 * x) (by omega) (by omega) (by omega) (by omega)).trans hOx_at_76
        have hFx_at_79 : Frc ty ad F79 (2 + 5 * x) xt (bS g x) xs := Frc.m5 hFx_at_76 (hf79 (2 + 5 * x) (by omega) (by omega) (by omega) (by omega)) (hf79 (2 + 5 * x + 1) (by omega) (by omega) (by omega) (by omega)) (hf79 (2 + 5 * x + 2) (by omega) (by omega) (by omega) (by omega)) (hf79 (2 + 5 * x + 3) (by omega) (by omega) (by omega) (by omega)) (hf79 (2 + 5 * x + 4) (by omega) (by omega) (by omega) (by omega))
        refine lv_aload_n hx hb d_K_write_82 rfl (lv_at hl 1 rfl) ?_
        refine pw_get (ci := 5) (C := R_K) (T := T_K) (N := 4) hx hb hq i_K hown hw (by omega) hK_at_79 rfl 2 (by decide) (hq _ fl_K_26) (fun _ h9 => h9) rfl d_K_write_83 ?_
        have hT86 := (hTz).1
        refine pw_get (ci := 2) (C := R_T) (T := T_T) (N := 2) hx hb hq i_T hown hw (by omega) hT86 rfl 1 (by decide) (hq _ fl_K_138) (fun _ h9 => h9) rfl d_K_write_86 ?_
        rw [← hQ]
        refine W.widen (k := 8) (n := 48) (Nat.le_of_ble_eq_true rfl) (Nat.le_of_ble_eq_true rfl) ?_
        exact vx_ret (pw_iret hx hb hr hlocks hw (by
          have hxs : sB (zS g x) = 1 := by rw [← exs]; omega
          have hln : La = dlen (zS g x).natAbs := by rw [show (zS g x).natAbs = xt from ext.symm]; exact dlen_of hdtza.1
          have h1 : wr1 (zS g x) = (1 + La, decS (fun _ => 45) 1 (zS g x).natAbs) := by rw [wr1, hxs, hln]
          have hta : ∀ i, i < 1 + La → tza i = decS (fun _ => 45) 1 (zS g x).natAbs i := fun i hi => by
            rw [decT_S hdtza i hi, show (zS g x).natAbs = xt from ext.symm]
            exact decS_ext (fun j hj => by rw [show j = 0 by omega, txp_s]) i
          have h2 : wrS (zS g x) (bS g x) = (1 + La + 1 + Lb, decS (txp (decS (fun _ => 45) 1 (zS g x).natAbs) (1 + La) 47) (1 + La + 1) (bS g x)) := by rw [wrS, cif_neg hwh, h1, dlen_of hdtzb.1]
          have htb : ∀ i, i < 1 + La + 1 + Lb → tzb i = decS (txp (decS (fun _ => 45) 1 (zS g x).natAbs) (1 + La) 47) (1 + La + 1) (bS g x) i := fun i hi => by
            rw [decT_S hdtzb i hi]
            refine decS_ext (fun j hj => ?_) i
            by_cases h9 : j = 1 + La
            · rw [h9, txp_s, txp_s]
            · rw [txp_n h9, txp_n h9]; exact hta j (by omega)
          rw [dPost, o_write, cif_pos hRa, show a.toNat = x from ex.symm, h2]
          exact ⟨rfl, rfl, hDk.tb hBn ((hTz).ext htb) (fun y9 h9 => (hf79 (y9) (by omega) (by omega) (by omega) (by omega)).trans ((hf76 (y9) (by omega)).trans ((hf61 (y9) (by omega) (by omega)).trans ((hf45 (y9) (by omega) (by omega) (by omega) (by omega)).trans ((hf42 (y9) (by omega)).trans ((hf27 (y9) (by omega) (by omega)).trans (show F11 (y9) = F (y9) from by rw [eF11]; exact va_up_ne _ _ (by omega)))))))), fun y9 h9 => (hf79 (y9) (by omega) (by omega) (by omega) (by omega)).trans ((hf76 (y9) (by omega)).trans ((hf61 (y9) (by omega) (by omega)).trans ((hf45 (y9) (by omega) (by omega) (by omega) (by omega)).trans ((hf42 (y9) (by omega)).trans ((hf27 (y9) (by omega) (by omega)).trans (show F11 (y9) = F (y9) from by rw [eF11]; exact va_up_ne _ _ (by omega)))))))⟩) d_K_write_89)
  rw [hH, hlo] at hgo
  exact hgo
set_option maxHeartbeats 4000000 in
set_option maxRecDepth 100000 in
/-- read(to) -/
theorem c_K_read (l : Launch) (D : va_G) (ty : Nat → ClassId) (ad : Nat → Nat) (M : Nat) (F : Nat → va_E) (sz : Nat) (hl0 : l.stackTraces = false) (hM : 97 < M) (g : Sg) (hDk : Dk ty ad F g) (hok : okS g) (to : Int) (hto : -2147483648 ≤ to ∧ to < 2147483648) :
    XI l y_K_read w_K_read ({ frames := 7, cells := 8, slots := 48, locals := 157 } : Room) [.ref (ad (0)), .int (iI (to))] D ty ad M F sz 8 48 (dPost ty ad F (o_read g to)) (dPx ty ad F (o_read g to)) := by
  refine vx_ofW (cc := b_K_read) (maxL := 4) (ret := (some .int)) (by decide) rfl ?_
  intro p e s m args below meth c s₁ B hml hex hv
  obtain ⟨rfl, ⟨hsz, hP, hK, hD0⟩, hxk⟩ := hv
  have hx := B.exec
  have hb := B.bytes
  have hr := B.returns
  have hts := atoms_spec (ws := w_K_read) B.pre
  have hq : ∀ w ∈ wT, w.before _ s = true := fun w h => hts w (List.mem_cons_of_mem _ h)
  have hown : s.vm.findClass R_K = some m.cls := findClass_of_methodNamed B.named
  have hlocks := B.notSynchronized
  subst hsz
  have hw := pw_start hP hK hD0
  have hl := lv_entry ([.ref (ad (0)), .int (iI (to))]) (n := 4) (Nat.le_of_ble_eq_true rfl)
  rw [lg_entry_eq]
  generalize (lg_sl ([.ref (ad (0)), .int (iI (to))]) ++ List.replicate (4 - (lg_sl ([.ref (ad (0)), .int (iI (to))])).length) Slot.unset).toArray = ls at hl ⊢
  have hl : lv_has ls 4 [(0, .ref (ad (0))), (1, .int (iI (to)))] := hl
  change W p l e ({ frames := 7, cells := 8, slots := 48, locals := 157 } : Room) s m ([.ref (ad (0)), .int (iI (to))]).toArray below meth c s.heap [] 0 0 (vx_MQ below (va_Qi (dPost ty ad F (o_read g to)) (pAt D classes (tysL ty) ad M (pA ad M s.heap.size)) (pA ad M s.heap.size)) (xX D ty ad M s.heap.size (dPx ty ad F (o_read g to))) ([.ref (ad (0)), .int (iI (to))]).toArray s 8 48 (pA ad M s.heap.size)) (F0 m 0 ls [])
  generalize hQ : vx_MQ below (va_Qi (dPost ty ad F (o_read g to)) (pAt D classes (tysL ty) ad M (pA ad M s.heap.size)) (pA ad M s.heap.size)) (xX D ty ad M s.heap.size (dPx ty ad F (o_read g to))) ([.ref (ad (0)), .int (iI (to))]).toArray s 8 48 (pA ad M s.heap.size) = Q
  obtain ⟨H, hH⟩ : ∃ H, H = s.heap := ⟨_, rfl⟩
  obtain ⟨locs, hlo⟩ : ∃ z : List Loc, z = [] := ⟨_, rfl⟩
  have hw : pw D classes (tysL ty) ad M F (pA ad M s.heap.size) s H locs := by rw [hH, hlo]; exact hw
  have hgo : W p l e ({ frames := 7, cells := 8, slots := 48, locals := 157 } : Room) s m ([.ref (ad (0)), .int (iI (to))]).toArray below meth c H locs 0 0 Q (F0 m 0 ls []) := by
    obtain ⟨hK, hRg, hBn, hTx⟩ := id hDk
    obtain ⟨⟨q0, hR1, hq0⟩, hRf⟩ := id hRg
    obtain ⟨hT, g0, hC0, hn, hg, hlt⟩ := id hTx
    have hwb := wrongT_b (tx := tS g) (n := nS g) hn
    refine lv_aload_n hx hb d_K_read_0 rfl (lv_at hl 0 rfl) ?_
    refine lv_iload_n hx hb d_K_read_1 rfl (lv_at hl 1 rfl) ?_
    refine px_callr hw (vx_runV (As := [.int (iI (to))]) (rest := []) ⟨hx, hb, hml, hown, hq⟩ (c_K_register l D ty ad M F H.size hl0 hM g hDk hok to hto) (cwV 1 hq (gV ml_K_34 im_K_register se_K_register in_K m_K_register) rfl rfl rfl (by decide +kernel) ⟨Nat.le_of_ble_eq_true rfl, Nat.le_of_ble_eq_true rfl⟩) (px_preV hw hxk (by omega) hK rfl) rfl rfl hl.1 rfl (lv_room (Nat.le_of_ble_eq_true rfl)) d_K_read_2 ⟨Nat.le_of_ble_eq_true rfl, Nat.le_of_ble_eq_true rfl⟩) ?_ ?_
    · intro E9 ce9 q9 F9 H9 l9 hp9 hw9 h1 h2 h3
      rw [← hQ]
      refine px_out hex hlocks hw9 h1 h2 h3 ?_ (Nat.le_of_ble_eq_true rfl) (Nat.le_of_ble_eq_true rfl)
      exact by
        obtain ⟨h7, h8, h6⟩ := hp9
        dsimp only at h8 h6
        subst h8; subst h6
        rw [dPx, o_read, cif_neg (fun h9 => h7 (h9))]
        exact ⟨Or.inl ⟨rfl, rfl⟩, hDk, fun _ _ => rfl⟩
    intro r2 F2 H locs q2 hw
    obtain ⟨hRto, er2, eF2⟩ := q2
    dsimp only at er2 eF2
    rw [eF2] at hw
    clear eF2
    obtain ⟨u, eu⟩ : ∃ z : Nat, z = rN to := ⟨_, rfl⟩
    rw [show to.toNat = u from eu.symm] at er2
    subst er2
    have hu16 : u < 16 := by rw [eu]; exact rN_lt hRto
    have hoku := hok.at hu16
    obtain ⟨us, eus⟩ : ∃ z : Nat, z = sB (zS g u) := ⟨_, rfl⟩
    obtain ⟨ut, eut⟩ : ∃ z : Nat, z = ab (zS g u) := ⟨_, rfl⟩
    have hFu : Frc ty ad F (2 + 5 * u) ut (bS g u) us := by rw [eus, eut]; exact hRf u hu16
    have hzu : sg us ut = zS g u := by rw [eus, eut]; exact sg_self _
    have hsu : us ≤ 1 := by rw [eus]; exact sB_le _
    obtain ⟨hsmu1, hsmu2, hpu, hgu⟩ := hoku
    rw [show (zS g u).natAbs = ut from eut.symm] at hsmu1 hgu
    have hOu := hFu.2.1
    refine lv_astore_n (lv' := [(2, .ref (ad (2 + 5 * u))), (0, .ref (ad (0))), (1, .int (iI (to)))]) hx hb d_K_read_5 rfl hl (by decide) rfl (fun ls hl => ?_)
    refine lv_aload_n hx hb d_K_read_6 rfl (lv_at hl 1 rfl) ?_
    refine pw_get (ci := 5) (C := R_K) (T := T_K) (N := 4) hx hb hq i_K hown hw (by omega) hK rfl 2 (by decide) (hq _ fl_K_26) (fun _ h9 => h9) rfl d_K_read_7 ?_
    refine pw_calli hw (va_runV (As := []) (rest := []) ⟨hx, hb, hml, hown, hq⟩ (c_T_wrongAt l D ty ad M F H.size hM (nS g) (tS g) hTx) (cwV 0 hq (gV ml_K_161 im_T_wrongAt se_T_wrongAt in_T m_T_wrongAt) rfl rfl rfl (by decide +kernel) ⟨Nat.le_of_ble_eq_true rfl, Nat.le_of_ble_eq_true rfl⟩) (pw_preV hw (by omega) hT rfl) rfl rfl hl.1 rfl (lv_room (Nat.le_of_ble_eq_true rfl)) d_K_read_10 ⟨Nat.le_of_ble_eq_true rfl, Nat.le_of_ble_eq_true rfl⟩) (fun r10 F10 H locs q10 hw => ?_)
    obtain ⟨er10, eF10⟩ := q10
    rw [eF10] at hw
    clear eF10
    subst er10
    refine lv_istore_n (lv' := [(3, .int (iI (wrongT (tS g) (nS g)))), (2, .ref (ad (2 + 5 * u))), (0, .ref (ad (0))), (1, .int (iI (to)))]) hx hb d_K_read_13 rfl hl (by decide) rfl (fun ls hl => ?_)
    refine lv_iload_n hx hb d_K_read_14 rfl (lv_at hl 0 rfl) ?_
    refine wz_iconst (n := -1) hx hb d_K_read_15 ?_
    refine wz_icmp_eq (tgt := 34) hx hb d_K_read_16 (by decide) (by omega) (by omega) (by omega) (by omega) (fun c16 => ?_) (fun c16 => ?_)
    · refine lv_aload_n hx hb d_K_read_34 rfl (lv_at hl 2 rfl) ?_
      refine pw_get (ci := 5) (C := R_K) (T := T_K) (N := 4) hx hb hq i_K hown hw (by omega) hK rfl 1 (by decide) (hq _ fl_K_19) (fun _ h9 => h9) rfl d_K_read_35 ?_
      refine lv_aload_n hx hb d_K_read_38 rfl (lv_at hl 2 rfl) ?_
      refine pw_get (ci := 5) (C := R_K) (T := T_K) (N := 4) hx hb hq i_K hown hw (by omega) hK rfl 2 (by decide) (hq _ fl_K_26) (fun _ h9 => h9) rfl d_K_read_39 ?_
      refine pw_calli hw (va_runV (As := [.ref (ad (96))]) (rest := []) ⟨hx, hb, hml, hown, hq⟩ (c_B_takeText l D ty ad M F H.size hBn hM (nS g) (tS g) hTx (wrongT_end c16)) (cwV 1 hq (gV ml_K_169 im_B_takeText se_B_takeText in_B m_B_takeText) rfl rfl rfl (by decide +kernel) ⟨Nat.le_of_ble_eq_true rfl, Nat.le_of_ble_eq_true rfl⟩) (pw_preBn hw hM hBn) rfl rfl hl.1 rfl (lv_room (Nat.le_of_ble_eq_true rfl)) d_K_read_42 ⟨Nat.le_of_ble_eq_true rfl, Nat.le_of_ble_eq_true rfl⟩) (fun r42 F42 H locs q42 hw => ?_)
      obtain ⟨hq1, hq2, hBn, hf42⟩ := q42
      have hK_at_42 : F42 (0) = .inr (5, [.ref (ad (1)), .ref (ad (82)), .ref (ad (96)), .int (iI (pS g))]) := (hf42 (0) (by omega)).trans hK
      have hT_at_42 : F42 (96) = .inr (2, [.ref (ad (97)), .int (iI ((nS g : Int)))]) := (hf42 (96) (by omega)).trans hT
      have hC0_at_42 : F42 (97) = .inl (ty 1, 1400, .inl (g0)) := (hf42 (97) (by omega)).trans hC0
      have hOu_at_42 : F42 (2 + 5 * u) = .inr (1, [.ref (ad (2 + 5 * u + 1)), .ref (ad (2 + 5 * u + 3)), .int (iI ((us : Int)))]) := (hf42 (2 + 5 * u) (by omega)).trans hOu
      have hFu_at_42 : Frc ty ad F42 (2 + 5 * u) ut (bS g u) us := Frc.m5 hFu (hf42 (2 + 5 * u) (by omega)) (hf42 (2 + 5 * u + 1) (by omega)) (hf42 (2 + 5 * u + 2) (by omega)) (hf42 (2 + 5 * u + 3) (by omega)) (hf42 (2 + 5 * u + 4) (by omega))
      refine lv_if_ne (tgt := 50) hx hb d_K_read_45 (by decide) (fun c45 => ?_) (fun c45 => ?_)
      · have hsmm : sm (numT (tS g) (nS g)) ∧ sm (denT (tS g) (nS g)) := Classical.byContradiction (fun h9 => c45 (hq2 h9))
        obtain ⟨hsn, hsd⟩ := id hsmm
        obtain ⟨-, hBT⟩ := hq1 hsmm
        refine lv_aload_n hx hb d_K_read_50 rfl (lv_at hl 2 rfl) ?_
        refine pw_get (ci := 5) (C := R_K) (T := T_K) (N := 4) hx hb hq i_K hown hw (by omega) hK_at_42 rfl 2 (by decide) (hq _ fl_K_26) (fun _ h9 => h9) rfl d_K_read_51 ?_
        refine wz_iconst (n := 0) hx hb d_K_read_54 ?_
        refine pw_put (ci := 2) (C := R_T) (T := T_T) (N := 2) (ty := .int) (fs' := [.ref (ad (97)), .int (iI (0))]) hx hb hq i_T ft_T ft_T_ok n_T hown hw (by omega) hT_at_42 rfl 1 (by decide) (hq _ fl_K_138) (fun _ h9 => h9) rfl (by decide +kernel) rfl rfl (Nat.le_of_ble_eq_true rfl) rfl d_K_read_55 (fun F55 H locs eF55 hw => ?_)
        have m55_96 : F55 (96) = .inr (2, [.ref (ad (97)), .int (iI (0))]) := by rw [eF55]; exact va_up_self ..
        have hK_at_55 : F55 (0) = .inr (5, [.ref (ad (1)), .ref (ad (82)), .ref (ad (96)), .int (iI (pS g))]) := (show F55 (0) = F42 (0) from by rw [eF55]; exact va_up_ne _ _ (by omega)).trans hK_at_42
        have hC0_at_55 : F55 (97) = .inl (ty 1, 1400, .inl (g0)) := (show F55 (97) = F42 (97) from by rw [eF55]; exact va_up_ne _ _ (by omega)).trans hC0_at_42
        have hOu_at_55 : F55 (2 + 5 * u) = .inr (1, [.ref (ad (2 + 5 * u + 1)), .ref (ad (2 + 5 * u + 3)), .int (iI ((us : Int)))]) := (show F55 (2 + 5 * u) = F42 (2 + 5 * u) from by rw [eF55]; exact va_up_ne _ _ (by omega)).trans hOu_at_42
        have hFu_at_55 : Frc ty ad F55 (2 + 5 * u) ut (bS g u) us := Frc.m5 hFu_at_42 (show F55 (2 + 5 * u) = F42 (2 + 5 * u) from by rw [eF55]; exact va_up_ne _ _ (by omega)) (show F55 (2 + 5 * u + 1) = F42 (2 + 5 * u + 1) from by rw [eF55]; exact va_up_ne _ _ (by omega)) (show F55 (2 + 5 * u + 2) = F42 (2 + 5 * u + 2) from by rw [eF55]; exact va_up_ne _ _ (by omega)) (show F55 (2 + 5 * u + 3) = F42 (2 + 5 * u + 3) from by rw [eF55]; exact va_up_ne _ _ (by omega)) (show F55 (2 + 5 * u + 4) = F42 (2 + 5 * u + 4) from by rw [eF55]; exact va_up_ne _ _ (by omega))
        have hBn_at_55 : Bn ty ad F55 := Bn.m14 hBn (show F55 (82) = F42 (82) from by rw [eF55]; exact va_up_ne _ _ (by omega)) (show F55 (83) = F42 (83) from by rw [eF55]; exact va_up_ne _ _ (by omega)) (show F55 (84) = F42 (84) from by rw [eF55]; exact va_up_ne _ _ (by omega)) (show F55 (85) = F42 (85) from by rw [eF55]; exact va_up_ne _ _ (by omega)) (show F55 (86) = F42 (86) from by rw [eF55]; exact va_up_ne _ _ (by omega)) (show F55 (87) = F42 (87) from by rw [eF55]; exact va_up_ne _ _ (by omega)) (show F55 (88) = F42 (88) from by rw [eF55]; exact va_up_ne _ _ (by omega)) (show F55 (89) = F42 (89) from by rw [eF55]; exact va_up_ne _ _ (by omega)) (show F55 (90) = F42 (90) from by rw [eF55]; exact va_up_ne _ _ (by omega)) (show F55 (91) = F42 (91) from by rw [eF55]; exact va_up_ne _ _ (by omega)) (show F55 (92) = F42 (92) from by rw [eF55]; exact va_up_ne _ _ (by omega)) (show F55 (93) = F42 (93) from by rw [eF55]; exact va_up_ne _ _ (by omega)) (show F55 (94) = F42 (94) from by rw [eF55]; exact va_up_ne _ _ (by omega)) (show F55 (95) = F42 (95) from by rw [eF55]; exact va_up_ne _ _ (by omega))
        have hBT_at_55 : BnT ty ad F55 (numT (tS g) (nS g)) (denT (tS g) (nS g)) (fdig (tS g) (nS g)) := BnT.m14 hBT (show F55 (82) = F42 (82) from by rw [eF55]; exact va_up_ne _ _ (by omega)) (show F55 (83) = F42 (83) from by rw [eF55]; exact va_up_ne _ _ (by omega)) (show F55 (84) = F42 (84) from by rw [eF55]; exact va_up_ne _ _ (by omega)) (show F55 (85) = F42 (85) from by rw [eF55]; exact va_up_ne _ _ (by omega)) (show F55 (86) = F42 (86) from by rw [eF55]; exact va_up_ne _ _ (by omega)) (show F55 (87) = F42 (87) from by rw [eF55]; exact va_up_ne _ _ (by omega)) (show F55 (88) = F42 (88) from by rw [eF55]; exact va_up_ne _ _ (by omega)) (show F55 (89) = F42 (89) from by rw [eF55]; exact va_up_ne _ _ (by omega)) (show F55 (90) = F42 (90) from by rw [eF55]; exact va_up_ne _ _ (by omega)) (show F55 (91) = F42 (91) from by rw [eF55]; exact va_up_ne _ _ (by omega)) (show F55 (92) = F42 (92) from by rw [eF55]; exact va_up_ne _ _ (by omega)) (show F55 (93) = F42 (93) from by rw [eF55]; exact va_up_ne _ _ (by omega)) (show F55 (94) = F42 (94) from by rw [eF55]; exact va_up_ne _ _ (by omega)) (show F55 (95) = F42 (95) from by rw [eF55]; exact va_up_ne _ _ (by omega))
        refine lv_aload_n hx hb d_K_read_58 rfl (lv_at hl 2 rfl) ?_
        refine pw_get (ci := 5) (C := R_K) (T := T_K) (N := 4) hx hb hq i_K hown hw (by omega) hK_at_55 rfl 1 (by decide) (hq _ fl_K_19) (fun _ h9 => h9) rfl d_K_read_59 ?_
        refine lv_aload_n hx hb d_K_read_62 rfl (lv_at hl 1 rfl) ?_
        have hTx0 : Tx ty ad F55 0 (tS g) := ⟨m55_96, g0, hC0_at_55, by omega, fun i hi => absurd hi (by omega), fun i hi => absurd hi (by omega)⟩
        have hDk0 : Dk ty ad F55 (zS g, bS g, 0, tS g, pS g) := hDk.tb (hBT_at_55).bn hTx0 (fun y9 h9 => (show F55 (y9) = F42 (y9) from by rw [eF55]; exact va_up_ne _ _ (by omega)).trans (hf42 (y9) (by omega)))
        have hfrD : ∀ y9, 97 < y9 → F55 y9 = F y9 := fun y9 h9 => (show F55 (y9) = F42 (y9) from by rw [eF55]; exact va_up_ne _ _ (by omega)).trans (hf42 (y9) (by omega))
        refine pw_calli hw (va_runV (As := [.ref (ad (2 + 5 * u))]) (rest := []) ⟨hx, hb, hml, hown, hq⟩ (c_B_keepReduced l D ty ad M F55 H.size hM (numT (tS g) (nS g)) (denT (tS g) (nS g)) (fdig (tS g) (nS g)) hBT_at_55 hsn.toMd hsd.toMd (2 + 5 * u) ut (bS g u) us (by omega) hFu_at_55 (by omega)) (cwV 1 hq (gV ml_K_49 im_B_keepReduced se_B_keepReduced in_B m_B_keepReduced) rfl rfl rfl (by decide +kernel) ⟨Nat.le_of_ble_eq_true rfl, Nat.le_of_ble_eq_true rfl⟩) (pw_preBn hw hM (hBT_at_55).bn) rfl rfl hl.1 rfl (lv_room (Nat.le_of_ble_eq_true rfl)) d_K_read_63 ⟨Nat.le_of_ble_eq_true rfl, Nat.le_of_ble_eq_true rfl⟩) (fun r63 F63 H locs q63 hw => ?_)
        have hkr := hDk0.kr (fun y9 h9 => rfl) (show u < 16 by omega) (hBT_at_55).1 q63.1.1 q63.1.2 q63.2
        rw [← hQ]
        refine W.widen (k := 8) (n := 48) (Nat.le_of_ble_eq_true rfl) (Nat.le_of_ble_eq_true rfl) ?_
        exact vx_ret (pw_iret hx hb hr hlocks hw (by
          rw [dPost, o_read, cif_pos hRto, cif_pos c16, cif_pos hsmm, show to.toNat = u from eu.symm]
          rw [s_lay_0 hsn hsd] at hkr
          exact ⟨rfl, hkr.1, hkr.2.1, fun y9 h9 => (hkr.2.2 y9 h9).trans (hfrD y9 h9)⟩) d_K_read_66)
      · have hsmm : ¬ (sm (numT (tS g) (nS g)) ∧ sm (denT (tS g) (nS g))) := fun h9 => by
          have h8 := (hq1 h9).1
          rw [c45] at h8
          exact absurd h8 (by decide)
        refine wz_iconst (n := -1) hx hb d_K_read_48 ?_
        rw [← hQ]
        refine W.widen (k := 8) (n := 48) (Nat.le_of_ble_eq_true rfl) (Nat.le_of_ble_eq_true rfl) ?_
        exact vx_ret (pw_iret hx hb hr hlocks hw (by
          rw [dPost, o_read, cif_pos hRto, cif_pos c16, cif_neg hsmm]
          exact ⟨rfl, rfl, hDk.bench hBn (fun y9 h9 => hf42 (y9) (by omega)), fun y9 h9 => hf42 (y9) (by omega)⟩) d_K_read_49)
    · refine lv_aload_n hx hb d_K_read_19 rfl (lv_at hl 2 rfl) ?_
      refine lv_iload_n hx hb d_K_read_20 rfl (lv_at hl 0 rfl) ?_
      refine pw_put (ci := 5) (C := R_K) (T := T_K) (N := 4) (ty := .int) (fs' := [.ref (ad (1)), .ref (ad (82)), .ref (ad (96)), .int (iI (wrongT (tS g) (nS g)))]) hx hb hq i_K ft_K ft_K_ok n_K hown hw (by omega) hK rfl 3 (by decide) (hq _ fl_K_30) (fun _ h9 => h9) rfl (by decide +kernel) rfl rfl (Nat.le_of_ble_eq_true rfl) rfl d_K_read_21 (fun F21 H locs eF21 hw => ?_)
      have m21_0 : F21 (0) = .inr (5, [.ref (ad (1)), .ref (ad (82)), .ref (ad (96)), .int (iI (wrongT (tS g) (nS g)))]) := by rw [eF21]; exact va_up_self ..
      have hBn_at_21 : Bn ty ad F21 := Bn.m14 hBn (show F21 (82) = F (82) from by rw [eF21]; exact va_up_ne _ _ (by omega)) (show F21 (83) = F (83) from by rw [eF21]; exact va_up_ne _ _ (by omega)) (show F21 (84) = F (84) from by rw [eF21]; exact va_up_ne _ _ (by omega)) (show F21 (85) = F (85) from by rw [eF21]; exact va_up_ne _ _ (by omega)) (show F21 (86) = F (86) from by rw [eF21]; exact va_up_ne _ _ (by omega)) (show F21 (87) = F (87) from by rw [eF21]; exact va_up_ne _ _ (by omega)) (show F21 (88) = F (88) from by rw [eF21]; exact va_up_ne _ _ (by omega)) (show F21 (89) = F (89) from by rw [eF21]; exact va_up_ne _ _ (by omega)) (show F21 (90) = F (90) from by rw [eF21]; exact va_up_ne _ _ (by omega)) (show F21 (91) = F (91) from by rw [eF21]; exact va_up_ne _ _ (by omega)) (show F21 (92) = F (92) from by rw [eF21]; exact va_up_ne _ _ (by omega)) (show F21 (93) = F (93) from by rw [eF21]; exact va_up_ne _ _ (by omega)) (show F21 (94) = F (94) from by rw [eF21]; exact va_up_ne _ _ (by omega)) (show F21 (95) = F (95) from by rw [eF21]; exact va_up_ne _ _ (by omega))
      have hT_at_21 : F21 (96) = .inr (2, [.ref (ad (97)), .int (iI ((nS g : Int)))]) := (show F21 (96) = F (96) from by rw [eF21]; exact va_up_ne _ _ (by omega)).trans hT
      have hC0_at_21 : F21 (97) = .inl (ty 1, 1400, .inl (g0)) := (show F21 (97) = F (97) from by rw [eF21]; exact va_up_ne _ _ (by omega)).trans hC0
      have hOu_at_21 : F21 (2 + 5 * u) = .inr (1, [.ref (ad (2 + 5 * u + 1)), .ref (ad (2 + 5 * u + 3)), .int (iI ((us : Int)))]) := (show F21 (2 + 5 * u) = F (2 + 5 * u) from by rw [eF21]; exact va_up_ne _ _ (by omega)).trans hOu
      have hFu_at_21 : Frc ty ad F21 (2 + 5 * u) ut (bS g u) us := Frc.m5 hFu (show F21 (2 + 5 * u) = F (2 + 5 * u) from by rw [eF21]; exact va_up_ne _ _ (by omega)) (show F21 (2 + 5 * u + 1) = F (2 + 5 * u + 1) from by rw [eF21]; exact va_up_ne _ _ (by omega)) (show F21 (2 + 5 * u + 2) = F (2 + 5 * u + 2) from by rw [eF21]; exact va_up_ne _ _ (by omega)) (show F21 (2 + 5 * u + 3) = F (2 + 5 * u + 3) from by rw [eF21]; exact va_up_ne _ _ (by omega)) (show F21 (2 + 5 * u + 4) = F (2 + 5 * u + 4) from by rw [eF21]; exact va_up_ne _ _ (by omega))
      rw [← hQ]
      exact px_throwT (is := 166) (text := "the text tells no fraction") hx hb hl0 hown hq hxk (by decide) hw (hl.1.trans hml.symm) d_K_read_24 d_K_read_27 d_K_read_28 d_K_read_30 d_K_read_33 hex (Nat.le_of_ble_eq_true rfl) (Nat.le_of_ble_eq_true rfl) (Nat.le_of_ble_eq_true rfl) (Nat.le_of_ble_eq_true rfl) hlocks (by
        rw [dPx, o_read, cif_pos hRto, cif_neg (fun h9 => c16 h9)]
        exact ⟨Or.inr ⟨rfl, rfl⟩, ⟨m21_0, hRg.mv (fun y9 h1 h2 => show F21 (y9) = F (y9) from by rw [eF21]; exact va_up_ne _ _ (by omega)), hBn_at_21, hTx.mv (show F21 (96) = F (96) from by rw [eF21]; exact va_up_ne _ _ (by omega)) (show F21 (97) = F (97) from by rw [eF21]; exact va_up_ne _ _ (by omega))⟩, fun y9 h9 => show F21 (y9) = F (y9) from by rw [eF21]; exact va_up_ne _ _ (by omega)⟩) (Nat.le_of_ble_eq_true rfl) (Nat.le_of_ble_eq_true rfl)
  rw [hH, hlo] at hgo
  exact hgo
