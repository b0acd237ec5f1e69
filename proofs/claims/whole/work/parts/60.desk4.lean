/-! FractionDesk: change, power: by program -/
set_option maxHeartbeats 4000000 in
set_option maxRecDepth 100000 in
/-- change(to, kind, a) -/
theorem c_K_change (l : Launch) (D : va_G) (ty : Nat → ClassId) (ad : Nat → Nat) (M : Nat) (F : Nat → va_E) (sz : Nat) (hl0 : l.stackTraces = false) (hM : 97 < M) (g : Sg) (hDk : Dk ty ad F g) (hok : okS g) (to : Int) (hto : -2147483648 ≤ to ∧ to < 2147483648) (kd : Int) (hkd : -2147483648 ≤ kd ∧ kd < 2147483648) (a : Int) (ha : -2147483648 ≤ a ∧ a < 2147483648) :
    XI l y_K_change w_K_change ({ frames := 7, cells := 8, slots := 48, locals := 151 } : Room) [.ref (ad (0)), .int (iI (to)), .int (iI (kd)), .int (iI (a))] D ty ad M F sz 8 48 (dPost ty ad F (o_change g to kd a)) (dPx ty ad F (o_change g to kd a)) := by
  refine vx_ofW (cc := b_K_change) (maxL := 6) (ret := (some .int)) (by decide) rfl ?_
  intro p e s m args below meth c s₁ B hml hex hv
  obtain ⟨rfl, ⟨hsz, hP, hK, hD0⟩, hxk⟩ := hv
  have hx := B.exec
  have hb := B.bytes
  have hr := B.returns
  have hts := atoms_spec (ws := w_K_change) B.pre
  have hq : ∀ w ∈ wT, w.before _ s = true := fun w h => hts w (List.mem_cons_of_mem _ h)
  have hown : s.vm.findClass R_K = some m.cls := findClass_of_methodNamed B.named
  have hlocks := B.notSynchronized
  subst hsz
  have hw := pw_start hP hK hD0
  have hl := lv_entry ([.ref (ad (0)), .int (iI (to)), .int (iI (kd)), .int (iI (a))]) (n := 6) (Nat.le_of_ble_eq_true rfl)
  rw [lg_entry_eq]
  generalize (lg_sl ([.ref (ad (0)), .int (iI (to)), .int (iI (kd)), .int (iI (a))]) ++ List.replicate (6 - (lg_sl ([.ref (ad (0)), .int (iI (to)), .int (iI (kd)), .int (iI (a))])).length) Slot.unset).toArray = ls at hl ⊢
  have hl : lv_has ls 6 [(0, .ref (ad (0))), (1, .int (iI (to))), (2, .int (iI (kd))), (3, .int (iI (a)))] := hl
  change W p l e ({ frames := 7, cells := 8, slots := 48, locals := 151 } : Room) s m ([.ref (ad (0)), .int (iI (to)), .int (iI (kd)), .int (iI (a))]).toArray below meth c s.heap [] 0 0 (vx_MQ below (va_Qi (dPost ty ad F (o_change g to kd a)) (pAt D classes (tysL ty) ad M (pA ad M s.heap.size)) (pA ad M s.heap.size)) (xX D ty ad M s.heap.size (dPx ty ad F (o_change g to kd a))) ([.ref (ad (0)), .int (iI (to)), .int (iI (kd)), .int (iI (a))]).toArray s 8 48 (pA ad M s.heap.size)) (F0 m 0 ls [])
  generalize hQ : vx_MQ below (va_Qi (dPost ty ad F (o_change g to kd a)) (pAt D classes (tysL ty) ad M (pA ad M s.heap.size)) (pA ad M s.heap.size)) (xX D ty ad M s.heap.size (dPx ty ad F (o_change g to kd a))) ([.ref (ad (0)), .int (iI (to)), .int (iI (kd)), .int (iI (a))]).toArray s 8 48 (pA ad M s.heap.size) = Q
  obtain ⟨H, hH⟩ : ∃ H, H = s.heap := ⟨_, rfl⟩
  obtain ⟨locs, hlo⟩ : ∃ z : List Loc, z = [] := ⟨_, rfl⟩
  have hw : pw D classes (tysL ty) ad M F (pA ad M s.heap.size) s H locs := by rw [hH, hlo]; exact hw
  have hgo : W p l e ({ frames := 7, cells := 8, slots := 48, locals := 151 } : Room) s m ([.ref (ad (0)), .int (iI (to)), .int (iI (kd)), .int (iI (a))]).toArray below meth c H locs 0 0 Q (F0 m 0 ls []) := by
    obtain ⟨hK, hRg, hBn, hTx⟩ := id hDk
    obtain ⟨⟨q0, hR1, hq0⟩, hRf⟩ := id hRg
    refine lv_aload_n hx hb d_K_change_0 rfl (lv_at hl 0 rfl) ?_
    refine lv_iload_n hx hb d_K_change_1 rfl (lv_at hl 1 rfl) ?_
    refine px_callr hw (vx_runV (As := [.int (iI (to))]) (rest := []) ⟨hx, hb, hml, hown, hq⟩ (c_K_register l D ty ad M F H.size hl0 hM g hDk hok to hto) (cwV 1 hq (gV ml_K_34 im_K_register se_K_register in_K m_K_register) rfl rfl rfl (by decide +kernel) ⟨Nat.le_of_ble_eq_true rfl, Nat.le_of_ble_eq_true rfl⟩) (px_preV hw hxk (by omega) hK rfl) rfl rfl hl.1 rfl (lv_room (Nat.le_of_ble_eq_true rfl)) d_K_change_2 ⟨Nat.le_of_ble_eq_true rfl, Nat.le_of_ble_eq_true rfl⟩) ?_ ?_
    · intro E9 ce9 q9 F9 H9 l9 hp9 hw9 h1 h2 h3
      rw [← hQ]
      refine px_out hex hlocks hw9 h1 h2 h3 ?_ (Nat.le_of_ble_eq_true rfl) (Nat.le_of_ble_eq_true rfl)
      exact by
        obtain ⟨h7, h8, h6⟩ := hp9
        dsimp only at h8 h6
        subst h8; subst h6
        rw [dPx, o_change, cif_neg (fun h9 => h7 (h9.1.1))]
        exact ⟨Or.inl ⟨rfl, rfl⟩, hDk, fun _ _ => rfl⟩
    intro r2 F2 H locs q2 hw
    obtain ⟨hRto, er2, eF2⟩ := q2
    dsimp only at er2 eF2
    rw [eF2] at hw
    clear eF2
    obtain ⟨u, eu⟩ : ∃ z : Nat, z = rN to := ⟨_, rfl⟩
    rw [show to.toNat = u from eu.symm] at er2
    subst er2
    have hu16 : u < 16 := by rw [eu]; exact rN_lt hRto
    have hoku := hok.at hu16
    obtain ⟨us, eus⟩ : ∃ z : Nat, z = sB (zS g u) := ⟨_, rfl⟩
    obtain ⟨ut, eut⟩ : ∃ z : Nat, z = ab (zS g u) := ⟨_, rfl⟩
    have hFu : Frc ty ad F (2 + 5 * u) ut (bS g u) us := by rw [eus, eut]; exact hRf u hu16
    have hzu : sg us ut = zS g u := by rw [eus, eut]; exact sg_self _
    have hsu : us ≤ 1 := by rw [eus]; exact sB_le _
    obtain ⟨hsmu1, hsmu2, hpu, hgu⟩ := hoku
    rw [show (zS g u).natAbs = ut from eut.symm] at hsmu1 hgu
    have hOu := hFu.2.1
    refine lv_astore (lv' := [(4, .ref (ad (2 + 5 * u))), (0, .ref (ad (0))), (1, .int (iI (to))), (2, .int (iI (kd))), (3, .int (iI (a)))]) hx hb d_K_change_5 hl (by decide) rfl (fun ls hl => ?_)
    refine lv_aload_n hx hb d_K_change_7 rfl (lv_at hl 1 rfl) ?_
    refine lv_iload_n hx hb d_K_change_8 rfl (lv_at hl 4 rfl) ?_
    refine px_callr hw (vx_runV (As := [.int (iI (a))]) (rest := []) ⟨hx, hb, hml, hown, hq⟩ (c_K_register l D ty ad M F H.size hl0 hM g hDk hok a ha) (cwV 1 hq (gV ml_K_34 im_K_register se_K_register in_K m_K_register) rfl rfl rfl (by decide +kernel) ⟨Nat.le_of_ble_eq_true rfl, Nat.le_of_ble_eq_true rfl⟩) (px_preV hw hxk (by omega) hK rfl) rfl rfl hl.1 rfl (lv_room (Nat.le_of_ble_eq_true rfl)) d_K_change_9 ⟨Nat.le_of_ble_eq_true rfl, Nat.le_of_ble_eq_true rfl⟩) ?_ ?_
    · intro E9 ce9 q9 F9 H9 l9 hp9 hw9 h1 h2 h3
      rw [← hQ]
      refine px_out hex hlocks hw9 h1 h2 h3 ?_ (Nat.le_of_ble_eq_true rfl) (Nat.le_of_ble_eq_true rfl)
      exact by
        obtain ⟨h7, h8, h6⟩ := hp9
        dsimp only at h8 h6
        subst h8; subst h6
        rw [dPx, o_change, cif_neg (fun h9 => h7 (h9.1.2))]
        exact ⟨Or.inl ⟨rfl, rfl⟩, hDk, fun _ _ => rfl⟩
    intro r9 F9 H locs q9 hw
    obtain ⟨hRa, er9, eF9⟩ := q9
    dsimp only at er9 eF9
    rw [eF9] at hw
    clear eF9
    obtain ⟨x, ex⟩ : ∃ z : Nat, z = rN a := ⟨_, rfl⟩
    rw [show a.toNat = x from ex.symm] at er9
    subst er9
    have hx16 : x < 16 := by rw [ex]; exact rN_lt hRa
    have hokx := hok.at hx16
    obtain ⟨xs, exs⟩ : ∃ z : Nat, z = sB (zS g x) := ⟨_, rfl⟩
    obtain ⟨xt, ext⟩ : ∃ z : Nat, z = ab (zS g x) := ⟨_, rfl⟩
    have hFx : Frc ty ad F (2 + 5 * x) xt (bS g x) xs := by rw [exs, ext]; exact hRf x hx16
    have hzx : sg xs xt = zS g x := by rw [exs, ext]; exact sg_self _
    have hsx : xs ≤ 1 := by rw [exs]; exact sB_le _
    obtain ⟨hsmx1, hsmx2, hpx, hgx⟩ := hokx
    rw [show (zS g x).natAbs = xt from ext.symm] at hsmx1 hgx
    have hOx := hFx.2.1
    refine lv_astore (lv' := [(5, .ref (ad (2 + 5 * x))), (4, .ref (ad (2 + 5 * u))), (0, .ref (ad (0))), (1, .int (iI (to))), (2, .int (iI (kd))), (3, .int (iI (a)))]) hx hb d_K_change_12 hl (by decide) rfl (fun ls hl => ?_)
    refine lv_iload_n hx hb d_K_change_14 rfl (lv_at hl 4 rfl) ?_
    refine wz_if_lt (tgt := 24) hx hb d_K_change_15 (by decide) (by omega) (by omega) (fun c15 => ?_) (fun c15 => ?_)
    · rw [← hQ]
      exact px_throwA (is := 53) (text := "no such kind") hx hb hl0 hown hq hxk (by decide) hw (hl.1.trans hml.symm) d_K_change_24 d_K_change_27 d_K_change_28 d_K_change_30 d_K_change_33 hex (Nat.le_of_ble_eq_true rfl) (Nat.le_of_ble_eq_true rfl) (Nat.le_of_ble_eq_true rfl) (Nat.le_of_ble_eq_true rfl) hlocks (by
        rw [dPx, o_change, cif_neg (fun h9 => by have := h9.2; omega)]
        exact ⟨Or.inl ⟨rfl, rfl⟩, hDk, fun _ _ => rfl⟩) (Nat.le_of_ble_eq_true rfl) (Nat.le_of_ble_eq_true rfl)
    · refine lv_iload_n hx hb d_K_change_18 rfl (lv_at hl 4 rfl) ?_
      refine wz_bipush (n := 6) hx hb d_K_change_19 (by decide) ?_
      refine wz_icmp_le (tgt := 34) hx hb d_K_change_21 (by decide) (by omega) (by omega) (by omega) (by omega) (fun c21 => ?_) (fun c21 => ?_)
      · refine lv_iload_n hx hb d_K_change_34 rfl (lv_at hl 4 rfl) ?_
        refine wz_iconst (n := 2) hx hb d_K_change_35 ?_
        refine wz_icmp_ne (tgt := 50) hx hb d_K_change_36 (by decide) (by omega) (by omega) (by omega) (by omega) (fun c36 => ?_) (fun c36 => ?_)
        · have hd : ¬ (kd = 2 ∧ zS g x = 0) := fun h9 => absurd h9.1 (by omega)
          refine lv_iload_n hx hb d_K_change_50 rfl (lv_at hl 4 rfl) ?_
          by_cases c51_0 : kd = 0
          · refine wz_tabIn (k := 0) (off := 37) (tgt := 88) hx hb d_K_change_51 c51_0 (by omega) (by omega) (by decide) rfl (by decide) ?_
            refine lv_aload_n hx hb d_K_change_88 rfl (lv_at hl 2 rfl) ?_
            refine pw_get (ci := 5) (C := R_K) (T := T_K) (N := 4) hx hb hq i_K hown hw (by omega) hK rfl 1 (by decide) (hq _ fl_K_19) (fun _ h9 => h9) rfl d_K_change_89 ?_
            refine lv_aload hx hb d_K_change_92 (lv_at hl 0 rfl) ?_
            refine pw_get (ci := 1) (C := R_F) (T := T_F) (N := 3) hx hb hq i_F hown hw (by omega) hOx rfl 0 (by decide) (hq _ fl_K_100) (fun _ h9 => h9) rfl d_K_change_94 ?_
            refine lv_aload hx hb d_K_change_97 (lv_at hl 0 rfl) ?_
            refine pw_get (ci := 1) (C := R_F) (T := T_F) (N := 3) hx hb hq i_F hown hw (by omega) hOx rfl 1 (by decide) (hq _ fl_K_104) (fun _ h9 => h9) rfl d_K_change_99 ?_
            refine lv_aload hx hb d_K_change_102 (lv_at hl 0 rfl) ?_
            refine pw_get (ci := 1) (C := R_F) (T := T_F) (N := 3) hx hb hq i_F hown hw (by omega) hOx rfl 2 (by decide) (hq _ fl_K_65) (fun _ h9 => h9) rfl d_K_change_104 ?_
            refine wz_if_ne (tgt := 114) hx hb d_K_change_107 (by decide) (by omega) (by omega) (fun c107 => ?_) (fun c107 => ?_)
            · refine wz_iconst (n := 0) hx hb d_K_change_114 ?_
              obtain ⟨⟨bb9, -, hB9⟩, hw83, hw85, -⟩ := id hBn
              refine pw_callv hw (va_runV (As := [.ref (ad (2 + 5 * x + 1)), .ref (ad (2 + 5 * x + 3)), .int (iI (0))]) (rest := []) ⟨hx, hb, hml, hown, hq⟩ (c_B_takeParts l D ty ad M F H.size hM (2 + 5 * x + 1) (2 + 5 * x + 3) 67 67 (xt) (bS g x) 0 bb9 (by omega) (by omega) (by omega) (by omega) (by omega) (by omega) (by omega) hsmx1.f136 hsmx2.f136 hB9 hw83 hw85 (hFx).2.2.1 (hFx).2.2.2) (cwV 3 hq (gV ml_K_107 im_B_takeParts se_B_takeParts in_B m_B_takeParts) rfl rfl rfl (by decide +kernel) ⟨Nat.le_of_ble_eq_true rfl, Nat.le_of_ble_eq_true rfl⟩) (pw_preBn hw hM hBn) rfl rfl hl.1 rfl (lv_room (Nat.le_of_ble_eq_true rfl)) d_K_change_115 ⟨Nat.le_of_ble_eq_true rfl, Nat.le_of_ble_eq_true rfl⟩) (fun F115 H locs q115 hw => ?_)
              have hBT := BnT.of_take hBn (by omega) q115
              have hf115 : ∀ y, y < 82 ∨ 86 < y → F115 y = F y := q115.2.2.2
              have hK_at_115 : F115 (0) = .inr (5, [.ref (ad (1)), .ref (ad (82)), .ref (ad (96)), .int (iI (pS g))]) := (hf115 (0) (by omega)).trans hK
              have hOu_at_115 : F115 (2 + 5 * u) = .inr (1, [.ref (ad (2 + 5 * u + 1)), .ref (ad (2 + 5 * u + 3)), .int (iI ((us : Int)))]) := (hf115 (2 + 5 * u) (by omega)).trans hOu
              have hFu_at_115 : Frc ty ad F115 (2 + 5 * u) ut (bS g u) us := Frc.m5 hFu (hf115 (2 + 5 * u) (by omega)) (hf115 (2 + 5 * u + 1) (by omega)) (hf115 (2 + 5 * u + 2) (by omega)) (hf115 (2 + 5 * u + 3) (by omega)) (hf115 (2 + 5 * u + 4) (by omega))
              have hOx_at_115 : F115 (2 + 5 * x) = .inr (1, [.ref (ad (2 + 5 * x + 1)), .ref (ad (2 + 5 * x + 3)), .int (iI ((xs : Int)))]) := (hf115 (2 + 5 * x) (by omega)).trans hOx
              have hFx_at_115 : Frc ty ad F115 (2 + 5 * x) xt (bS g x) xs := Frc.m5 hFx (hf115 (2 + 5 * x) (by omega)) (hf115 (2 + 5 * x + 1) (by omega)) (hf115 (2 + 5 * x + 2) (by omega)) (hf115 (2 + 5 * x + 3) (by omega)) (hf115 (2 + 5 * x + 4) (by omega))
              refine lv_goto (tgt := 242) hx hb d_K_change_118 (by decide) ?_
              refine lv_aload_n hx hb d_K_change_242 rfl (lv_at hl 2 rfl) ?_
              refine pw_get (ci := 5) (C := R_K) (T := T_K) (N := 4) hx hb hq i_K hown hw (by omega) hK_at_115 rfl 1 (by decide) (hq _ fl_K_19) (fun _ h9 => h9) rfl d_K_change_243 ?_
              refine lv_aload hx hb d_K_change_246 (lv_at hl 1 rfl) ?_
              refine pw_calli hw (va_runV (As := [.ref (ad (2 + 5 * u))]) (rest := []) ⟨hx, hb, hml, hown, hq⟩ (c_B_keep l D ty ad M F115 H.size hM (xt) (bS g x) (0) hBT (2 + 5 * u) ut (bS g u) us (by omega) hFu_at_115 (by omega)) (cwV 1 hq (gV ml_K_88 im_B_keep se_B_keep in_B m_B_keep) rfl rfl rfl (by decide +kernel) ⟨Nat.le_of_ble_eq_true rfl, Nat.le_of_ble_eq_true rfl⟩) (pw_preBn hw hM (hBT).bn) rfl rfl hl.1 rfl (lv_room (Nat.le_of_ble_eq_true rfl)) d_K_change_248 ⟨Nat.le_of_ble_eq_true rfl, Nat.le_of_ble_eq_true rfl⟩) (fun r248 F248 H locs q248 hw => ?_)
              have hkr := hDk.k (fun y9 h9 => hf115 (y9) (by omega)) (show u < 16 by omega) (hBT).1 (hBT).bn q248
              rw [← hQ]
              refine W.widen (k := 8) (n := 48) (Nat.le_of_ble_eq_true rfl) (Nat.le_of_ble_eq_true rfl) ?_
              exact vx_ret (pw_iret hx hb hr hlocks hw (by
                rw [dPost, o_change_ok ⟨hRto, hRa⟩ (by omega) hd eu ex, c51_0, ch_0]
                dsimp only
                rw [s_lay_1 _ _ _ _ (by rw [Int.natAbs_neg, show (zS g x).natAbs = xt from ext.symm]; exact hgx)]
                rw [sg_flip (s := xs) (show xs + 0 = 1 by omega), hzx] at hkr
                exact ⟨rfl, hkr⟩) d_K_change_251)
            · refine wz_iconst (n := 1) hx hb d_K_change_110 ?_
              refine lv_goto (tgt := 115) hx hb d_K_change_111 (by decide) ?_
              obtain ⟨⟨bb9, -, hB9⟩, hw83, hw85, -⟩ := id hBn
              refine pw_callv hw (va_runV (As := [.ref (ad (2 + 5 * x + 1)), .ref (ad (2 + 5 * x + 3)), .int (iI (1))]) (rest := []) ⟨hx, hb, hml, hown, hq⟩ (c_B_takeParts l D ty ad M F H.size hM (2 + 5 * x + 1) (2 + 5 * x + 3) 67 67 (xt) (bS g x) 1 bb9 (by omega) (by omega) (by omega) (by omega) (by omega) (by omega) (by omega) hsmx1.f136 hsmx2.f136 hB9 hw83 hw85 (hFx).2.2.1 (hFx).2.2.2) (cwV 3 hq (gV ml_K_107 im_B_takeParts se_B_takeParts in_B m_B_takeParts) rfl rfl rfl (by decide +kernel) ⟨Nat.le_of_ble_eq_true rfl, Nat.le_of_ble_eq_true rfl⟩) (pw_preBn hw hM hBn) rfl rfl hl.1 rfl (lv_room (Nat.le_of_ble_eq_true rfl)) d_K_change_115 ⟨Nat.le_of_ble_eq_true rfl, Nat.le_of_ble_eq_true rfl⟩) (fun F115 H locs q115 hw => ?_)
              have hBT := BnT.of_take hBn (by omega) q115
              have hf115 : ∀ y, y < 82 ∨ 86 < y → F115 y = F y := q115.2.2.2
              have hK_at_115 : F115 (0) = .inr (5, [.ref (ad (1)), .ref (ad (82)), .ref (ad (96)), .int (iI (pS g))]) := (hf115 (0) (by omega)).trans hK
              have hOu_at_115 : F115 (2 + 5 * u) = .inr (1, [.ref (ad (2 + 5 * u + 1)), .ref (ad (2 + 5 * u + 3)), .int (iI ((us : Int)))]) := (hf115 (2 + 5 * u) (by omega)).trans hOu
              have hFu_at_115 : Frc ty ad F115 (2 + 5 * u) ut (bS g u) us := Frc.m5 hFu (hf115 (2 + 5 * u) (by omega)) (hf115 (2 + 5 * u + 1) (by omega)) (hf115 (2 + 5 * u + 2) (by omega)) (hf115 (2 + 5 * u + 3) (by omega)) (hf115 (2 + 5 * u + 4) (by omega))
              have hOx_at_115 : F115 (2 + 5 * x) = .inr (1, [.ref (ad (2 + 5 * x + 1)), .ref (ad (2 + 5 * x + 3)), .int (iI ((xs : Int)))]) := (hf115 (2 + 5 * x) (by omega)).trans hOx
              have hFx_at_115 : Frc ty ad F115 (2 + 5 * x) xt (bS g x) xs := Frc.m5 hFx (hf115 (2 + 5 * x) (by omega)) (hf115 (2 + 5 * x + 1) (by omega)) (hf115 (2 + 5 * x + 2) (by omega)) (hf115 (2 + 5 * x + 3) (by omega)) (hf115 (2 + 5 * x + 4) (by omega))
              refine lv_goto (tgt := 242) hx hb d_K_change_118 (by decide) ?_
              refine lv_aload_n hx hb d_K_change_242 rfl (lv_at hl 2 rfl) ?_
              refine pw_get (ci := 5) (C := R_K) (T := T_K) (N := 4) hx hb hq i_K hown hw (by omega) hK_at_115 rfl 1 (by decide) (hq _ fl_K_19) (fun _ h9 => h9) rfl d_K_change_243 ?_
              refine lv_aload hx hb d_K_change_246 (lv_at hl 1 rfl) ?_
              refine pw_calli hw (va_runV (As := [.ref (ad (2 + 5 * u))]) (rest := []) ⟨hx, hb, hml, hown, hq⟩ (c_B_keep l D ty ad M F115 H.size hM (xt) (bS g x) (1) hBT (2 + 5 * u) ut (bS g u) us (by omega) hFu_at_115 (by omega)) (cwV 1 hq (gV ml_K_88 im_B_keep se_B_keep in_B m_B_keep) rfl rfl rfl (by decide +kernel) ⟨Nat.le_of_ble_eq_true rfl, Nat.le_of_ble_eq_true rfl⟩) (pw_preBn hw hM (hBT).bn) rfl rfl hl.1 rfl (lv_room (Nat.le_of_ble_eq_true rfl)) d_K_change_248 ⟨Nat.le_of_ble_eq_true rfl, Nat.le_of_ble_eq_true rfl⟩) (fun r248 F248 H locs q248 hw => ?_)
              have hkr := hDk.k (fun y9 h9 => hf115 (y9) (by omega)) (show u < 16 by omega) (hBT).1 (hBT).bn q248
              rw [← hQ]
              refine W.widen (k := 8) (n := 48) (Nat.le_of_ble_eq_true rfl) (Nat.le_of_ble_eq_true rfl) ?_
              exact vx_ret (pw_iret hx hb hr hlocks hw (by
                rw [dPost, o_change_ok ⟨hRto, hRa⟩ (by omega) hd eu ex, c51_0, ch_0]
                dsimp only
                rw [s_lay_1 _ _ _ _ (by rw [Int.natAbs_neg, show (zS g x).natAbs = xt from ext.symm]; exact hgx)]
                rw [sg_flip (s := xs) (show xs + 1 = 1 by omega), hzx] at hkr
                exact ⟨rfl, hkr⟩) d_K_change_251)
          · skip
            by_cases c51_1 : kd = 1
            · refine wz_tabIn (k := 1) (off := 70) (tgt := 121) hx hb d_K_change_51 c51_1 (by omega) (by omega) (by decide) rfl (by decide) ?_
              refine lv_aload_n hx hb d_K_change_121 rfl (lv_at hl 2 rfl) ?_
              refine pw_get (ci := 5) (C := R_K) (T := T_K) (N := 4) hx hb hq i_K hown hw (by omega) hK rfl 1 (by decide) (hq _ fl_K_19) (fun _ h9 => h9) rfl d_K_change_122 ?_
              refine lv_aload hx hb d_K_change_125 (lv_at hl 0 rfl) ?_
              refine pw_get (ci := 1) (C := R_F) (T := T_F) (N := 3) hx hb hq i_F hown hw (by omega) hOx rfl 0 (by decide) (hq _ fl_K_100) (fun _ h9 => h9) rfl d_K_change_127 ?_
              refine lv_aload hx hb d_K_change_130 (lv_at hl 0 rfl) ?_
              refine pw_get (ci := 1) (C := R_F) (T := T_F) (N := 3) hx hb hq i_F hown hw (by omega) hOx rfl 1 (by decide) (hq _ fl_K_104) (fun _ h9 => h9) rfl d_K_change_132 ?_
              refine wz_iconst (n := 0) hx hb d_K_change_135 ?_
              obtain ⟨⟨bb9, -, hB9⟩, hw83, hw85, -⟩ := id hBn
              refine pw_callv hw (va_runV (As := [.ref (ad (2 + 5 * x + 1)), .ref (ad (2 + 5 * x + 3)), .int (iI (0))]) (rest := []) ⟨hx, hb, hml, hown, hq⟩ (c_B_takeParts l D ty ad M F H.size hM (2 + 5 * x + 1) (2 + 5 * x + 3) 67 67 (xt) (bS g x) 0 bb9 (by omega) (by omega) (by omega) (by omega) (by omega) (by omega) (by omega) hsmx1.f136 hsmx2.f136 hB9 hw83 hw85 (hFx).2.2.1 (hFx).2.2.2) (cwV 3 hq (gV ml_K_107 im_B_takeParts se_B_takeParts in_B m_B_takeParts) rfl rfl rfl (by decide +kernel) ⟨Nat.le_of_ble_eq_true rfl, Nat.le_of_ble_eq_true rfl⟩) (pw_preBn hw hM hBn) rfl rfl hl.1 rfl (lv_room (Nat.le_of_ble_eq_true rfl)) d_K_change_136 ⟨Nat.le_of_ble_eq_true rfl, Nat.le_of_ble_eq_true rfl⟩) (fun F136 H locs q136 hw => ?_)
              have hBT := BnT.of_take hBn (by omega) q136
              have hf136 : ∀ y, y < 82 ∨ 86 < y → F136 y = F y := q136.2.2.2
              have hK_at_136 : F136 (0) = .inr (5, [.ref (ad (1)), .ref (ad (82)), .ref (ad (96)), .int (iI (pS g))]) := (hf136 (0) (by omega)).trans hK
              have hOu_at_136 : F136 (2 + 5 * u) = .inr (1, [.ref (ad (2 + 5 * u + 1)), .ref (ad (2 + 5 * u + 3)), .int (iI ((us : Int)))]) := (hf136 (2 + 5 * u) (by omega)).trans hOu
              have hFu_at_136 : Frc ty ad F136 (2 + 5 * u) ut (bS g u) us := Frc.m5 hFu (hf136 (2 + 5 * u) (by omega)) (hf136 (2 + 5 * u + 1) (by omega)) (hf136 (2 + 5 * u + 2) (by omega)) (hf136 (2 + 5 * u + 3) (by omega)) (hf136 (2 + 5 * u + 4) (by omega))
              have hOx_at_136 : F136 (2 + 5 * x) = .inr (1, [.ref (ad (2 + 5 * x + 1)), .ref (ad (2 + 5 * x + 3)), .int (iI ((xs : Int)))]) := (hf136 (2 + 5 * x) (by omega)).trans hOx
              have hFx_at_136 : Frc ty ad F136 (2 + 5 * x) xt (bS g x) xs := Frc.m5 hFx (hf136 (2 + 5 * x) (by omega)) (hf136 (2 + 5 * x + 1) (by omega)) (hf136 (2 + 5 * x + 2) (by omega)) (hf136 (2 + 5 * x + 3) (by omega)) (hf136 (2 + 5 * x + 4) (by omega))
              refine lv_goto (tgt := 242) hx hb d_K_change_139 (by decide) ?_
              refine lv_aload_n hx hb d_K_change_242 rfl (lv_at hl 2 rfl) ?_
              refine pw_get (ci := 5) (C := R_K) (T := T_K) (N := 4) hx hb hq i_K hown hw (by omega) hK_at_136 rfl 1 (by decide) (hq _ fl_K_19) (fun _ h9 => h9) rfl d_K_change_243 ?_
              refine lv_aload hx hb d_K_change_246 (lv_at hl 1 rfl) ?_
              refine pw_calli hw (va_runV (As := [.ref (ad (2 + 5 * u))]) (rest := []) ⟨hx, hb, hml, hown, hq⟩ (c_B_keep l D ty ad M F136 H.size hM (xt) (bS g x) (0) hBT (2 + 5 * u) ut (bS g u) us (by omega) hFu_at_136 (by omega)) (cwV 1 hq (gV ml_K_88 im_B_keep se_B_keep in_B m_B_keep) rfl rfl rfl (by decide +kernel) ⟨Nat.le_of_ble_eq_true rfl, Nat.le_of_ble_eq_true rfl⟩) (pw_preBn hw hM (hBT).bn) rfl rfl hl.1 rfl (lv_room (Nat.le_of_ble_eq_true rfl)) d_K_change_248 ⟨Nat.le_of_ble_eq_true rfl, Nat.le_of_ble_eq_true rfl⟩) (fun r248 F248 H locs q248 hw => ?_)
              have hkr := hDk.k (fun y9 h9 => hf136 (y9) (by omega)) (show u < 16 by omega) (hBT).1 (hBT).bn q248
              rw [← hQ]
              refine W.widen (k := 8) (n := 48) (Nat.le_of_ble_eq_true rfl) (Nat.le_of_ble_eq_true rfl) ?_
              exact vx_ret (pw_iret hx hb hr hlocks hw (by
                rw [dPost, o_change_ok ⟨hRto, hRa⟩ (by omega) hd eu ex, c51_1, ch_1]
                dsimp only
                rw [s_lay_1 _ _ _ _ (by rw [Int.natAbs_natCast, show (zS g x).natAbs = xt from ext.symm]; exact hgx)]
                rw [sg_0, ext, ab] at hkr
                exact ⟨rfl, hkr⟩) d_K_change_251)
            · skip
              by_cases c51_2 : kd = 2
              · refine wz_tabIn (k := 2) (off := 91) (tgt := 142) hx hb d_K_change_51 c51_2 (by omega) (by omega) (by decide) rfl (by decide) ?_
                refine lv_aload_n hx hb d_K_change_142 rfl (lv_at hl 2 rfl) ?_
                refine pw_get (ci := 5) (C := R_K) (T := T_K) (N := 4) hx hb hq i_K hown hw (by omega) hK rfl 1 (by decide) (hq _ fl_K_19) (fun _ h9 => h9) rfl d_K_change_143 ?_
                refine lv_aload hx hb d_K_change_146 (lv_at hl 0 rfl) ?_
                refine pw_get (ci := 1) (C := R_F) (T := T_F) (N := 3) hx hb hq i_F hown hw (by omega) hOx rfl 1 (by decide) (hq _ fl_K_104) (fun _ h9 => h9) rfl d_K_change_148 ?_
                refine lv_aload hx hb d_K_change_151 (lv_at hl 0 rfl) ?_
                refine pw_get (ci := 1) (C := R_F) (T := T_F) (N := 3) hx hb hq i_F hown hw (by omega) hOx rfl 0 (by decide) (hq _ fl_K_100) (fun _ h9 => h9) rfl d_K_change_153 ?_
                refine lv_aload hx hb d_K_change_156 (lv_at hl 0 rfl) ?_
                refine pw_get (ci := 1) (C := R_F) (T := T_F) (N := 3) hx hb hq i_F hown hw (by omega) hOx rfl 2 (by decide) (hq _ fl_K_65) (fun _ h9 => h9) rfl d_K_change_158 ?_
                obtain ⟨⟨bb9, -, hB9⟩, hw83, hw85, -⟩ := id hBn
                refine pw_callv hw (va_runV (As := [.ref (ad (2 + 5 * x + 3)), .ref (ad (2 + 5 * x + 1)), .int (iI ((xs : Int)))]) (rest := []) ⟨hx, hb, hml, hown, hq⟩ (c_B_takeParts l D ty ad M F H.size hM (2 + 5 * x + 3) (2 + 5 * x + 1) 67 67 (bS g x) (xt) xs bb9 hsx (by omega) (by omega) (by omega) (by omega) (by omega) (by omega) hsmx2.f136 hsmx1.f136 hB9 hw83 hw85 (hFx).2.2.2 (hFx).2.2.1) (cwV 3 hq (gV ml_K_107 im_B_takeParts se_B_takeParts in_B m_B_takeParts) rfl rfl rfl (by decide +kernel) ⟨Nat.le_of_ble_eq_true rfl, Nat.le_of_ble_eq_true rfl⟩) (pw_preBn hw hM hBn) rfl rfl hl.1 rfl (lv_room (Nat.le_of_ble_eq_true rfl)) d_K_change_161 ⟨Nat.le_of_ble_eq_true rfl, Nat.le_of_ble_eq_true rfl⟩) (fun F161 H locs q161 hw => ?_)
                have hBT := BnT.of_take hBn hsx q161
                have hf161 : ∀ y, y < 82 ∨ 86 < y → F161 y = F y := q161.2.2.2
                have hK_at_161 : F161 (0) = .inr (5, [.ref (ad (1)), .ref (ad (82)), .ref (ad (96)), .int (iI (pS g))]) := (hf161 (0) (by omega)).trans hK
                have hOu_at_161 : F161 (2 + 5 * u) = .inr (1, [.ref (ad (2 + 5 * u + 1)), .ref (ad (2 + 5 * u + 3)), .int (iI ((us : Int)))]) := (hf161 (2 + 5 * u) (by omega)).trans hOu
                have hFu_at_161 : Frc ty ad F161 (2 + 5 * u) ut (bS g u) us := Frc.m5 hFu (hf161 (2 + 5 * u) (by omega)) (hf161 (2 + 5 * u + 1) (by omega)) (hf161 (2 + 5 * u + 2) (by omega)) (hf161 (2 + 5 * u + 3) (by omega)) (hf161 (2 + 5 * u + 4) (by omega))
                have hOx_at_161 : F161 (2 + 5 * x) = .inr (1, [.ref (ad (2 + 5 * x + 1)), .ref (ad (2 + 5 * x + 3)), .int (iI ((xs : Int)))]) := (hf161 (2 + 5 * x) (by omega)).trans hOx
                have hFx_at_161 : Frc ty ad F161 (2 + 5 * x) xt (bS g x) xs := Frc.m5 hFx (hf161 (2 + 5 * x) (by omega)) (hf161 (2 + 5 * x + 1) (by omega)) (hf161 (2 + 5 * x + 2) (by omega)) (hf161 (2 + 5 * x + 3) (by omega)) (hf161 (2 + 5 * x + 4) (by omega))
                refine lv_goto (tgt := 242) hx hb d_K_change_164 (by decide) ?_
                refine lv_aload_n hx hb d_K_change_242 rfl (lv_at hl 2 rfl) ?_
                refine pw_get (ci := 5) (C := R_K) (T := T_K) (N := 4) hx hb hq i_K hown hw (by omega) hK_at_161 rfl 1 (by decide) (hq _ fl_K_19) (fun _ h9 => h9) rfl d_K_change_243 ?_
                refine lv_aload hx hb d_K_change_246 (lv_at hl 1 rfl) ?_
                refine pw_calli hw (va_runV (As := [.ref (ad (2 + 5 * u))]) (rest := []) ⟨hx, hb, hml, hown, hq⟩ (c_B_keep l D ty ad M F161 H.size hM (bS g x) (xt) (xs) hBT (2 + 5 * u) ut (bS g u) us (by omega) hFu_at_161 (by omega)) (cwV 1 hq (gV ml_K_88 im_B_keep se_B_keep in_B m_B_keep) rfl rfl rfl (by decide +kernel) ⟨Nat.le_of_ble_eq_true rfl, Nat.le_of_ble_eq_true rfl⟩) (pw_preBn hw hM (hBT).bn) rfl rfl hl.1 rfl (lv_room (Nat.le_of_ble_eq_true rfl)) d_K_change_248 ⟨Nat.le_of_ble_eq_true rfl, Nat.le_of_ble_eq_true rfl⟩) (fun r248 F248 H locs q248 hw => ?_)
                have hkr := hDk.k (fun y9 h9 => hf161 (y9) (by omega)) (show u < 16 by omega) (hBT).1 (hBT).bn q248
                rw [← hQ]
                refine W.widen (k := 8) (n := 48) (Nat.le_of_ble_eq_true rfl) (Nat.le_of_ble_eq_true rfl) ?_
                exact vx_ret (pw_iret hx hb hr hlocks hw (by
                  rw [dPost, o_change_ok ⟨hRto, hRa⟩ (by omega) hd eu ex, c51_2, ch_2]
                  dsimp only
                  rw [s_lay_1 _ _ _ _ (by rw [flZ_abs, Int.natAbs_natCast, show (zS g x).natAbs = xt from ext.symm, Nat.gcd_comm]; exact hgx)]
                  rw [sg_fl (sB_1 exs), ext, ab] at hkr
                  exact ⟨rfl, hkr⟩) d_K_change_251)
              · skip
                by_cases c51_3 : kd = 3
                · refine wz_tabIn (k := 3) (off := 116) (tgt := 167) hx hb d_K_change_51 c51_3 (by omega) (by omega) (by decide) rfl (by decide) ?_
                  refine lv_aload_n hx hb d_K_change_167 rfl (lv_at hl 2 rfl) ?_
                  refine pw_get (ci := 5) (C := R_K) (T := T_K) (N := 4) hx hb hq i_K hown hw (by omega) hK rfl 1 (by decide) (hq _ fl_K_19) (fun _ h9 => h9) rfl d_K_change_168 ?_
                  refine lv_aload hx hb d_K_change_171 (lv_at hl 0 rfl) ?_
                  refine lv_aload hx hb d_K_change_173 (lv_at hl 0 rfl) ?_
                  refine pw_get (ci := 1) (C := R_F) (T := T_F) (N := 3) hx hb hq i_F hown hw (by omega) hOx rfl 2 (by decide) (hq _ fl_K_65) (fun _ h9 => h9) rfl d_K_change_175 ?_
                  refine pw_callv hw (va_runV (As := [.ref (ad (2 + 5 * x)), .int (iI ((xs : Int)))]) (rest := []) ⟨hx, hb, hml, hown, hq⟩ (c_B_round l D ty ad M F H.size hM hBn (2 + 5 * x) xt (bS g x) xs (by omega) hFx (by omega) hsmx1 hsmx2 xs hsx) (cwV 2 hq (gV ml_K_111 im_B_round se_B_round in_B m_B_round) rfl rfl rfl (by decide +kernel) ⟨Nat.le_of_ble_eq_true rfl, Nat.le_of_ble_eq_true rfl⟩) (pw_preBn hw hM hBn) rfl rfl hl.1 rfl (lv_room (Nat.le_of_ble_eq_true rfl)) d_K_change_178 ⟨Nat.le_of_ble_eq_true rfl, Nat.le_of_ble_eq_true rfl⟩) (fun F178 H locs q178 hw => ?_)
                  obtain ⟨hBT, hf178⟩ := q178
                  have hK_at_178 : F178 (0) = .inr (5, [.ref (ad (1)), .ref (ad (82)), .ref (ad (96)), .int (iI (pS g))]) := (hf178 (0) (by omega)).trans hK
                  have hOu_at_178 : F178 (2 + 5 * u) = .inr (1, [.ref (ad (2 + 5 * u + 1)), .ref (ad (2 + 5 * u + 3)), .int (iI ((us : Int)))]) := (hf178 (2 + 5 * u) (by omega)).trans hOu
                  have hFu_at_178 : Frc ty ad F178 (2 + 5 * u) ut (bS g u) us := Frc.m5 hFu (hf178 (2 + 5 * u) (by omega)) (hf178 (2 + 5 * u + 1) (by omega)) (hf178 (2 + 5 * u + 2) (by omega)) (hf178 (2 + 5 * u + 3) (by omega)) (hf178 (2 + 5 * u + 4) (by omega))
                  have hOx_at_178 : F178 (2 + 5 * x) = .inr (1, [.ref (ad (2 + 5 * x + 1)), .ref (ad (2 + 5 * x + 3)), .int (iI ((xs : Int)))]) := (hf178 (2 + 5 * x) (by omega)).trans hOx
                  have hFx_at_178 : Frc ty ad F178 (2 + 5 * x) xt (bS g x) xs := Frc.m5 hFx (hf178 (2 + 5 * x) (by omega)) (hf178 (2 + 5 * x + 1) (by omega)) (hf178 (2 + 5 * x + 2) (by omega)) (hf178 (2 + 5 * x + 3) (by omega)) (hf178 (2 + 5 * x + 4) (by omega))
                  refine lv_goto (tgt := 242) hx hb d_K_change_181 (by decide) ?_
                  refine lv_aload_n hx hb d_K_change_242 rfl (lv_at hl 2 rfl) ?_
                  refine pw_get (ci := 5) (C := R_K) (T := T_K) (N := 4) hx hb hq i_K hown hw (by omega) hK_at_178 rfl 1 (by decide) (hq _ fl_K_19) (fun _ h9 => h9) rfl d_K_change_243 ?_
                  refine lv_aload hx hb d_K_change_246 (lv_at hl 1 rfl) ?_
                  refine pw_calli hw (va_runV (As := [.ref (ad (2 + 5 * u))]) (rest := []) ⟨hx, hb, hml, hown, hq⟩ (c_B_keep l D ty ad M F178 H.size hM (if xs = 1 ∧ xt % bS g x ≠ 0 then xt / bS g x + 1 else xt / bS g x) (1) (xs) hBT (2 + 5 * u) ut (bS g u) us (by omega) hFu_at_178 (by omega)) (cwV 1 hq (gV ml_K_88 im_B_keep se_B_keep in_B m_B_keep) rfl rfl rfl (by decide +kernel) ⟨Nat.le_of_ble_eq_true rfl, Nat.le_of_ble_eq_true rfl⟩) (pw_preBn hw hM (hBT).bn) rfl rfl hl.1 rfl (lv_room (Nat.le_of_ble_eq_true rfl)) d_K_change_248 ⟨Nat.le_of_ble_eq_true rfl, Nat.le_of_ble_eq_true rfl⟩) (fun r248 F248 H locs q248 hw => ?_)
                  have hkr := hDk.k (fun y9 h9 => hf178 (y9) (by omega)) (show u < 16 by omega) (hBT).1 (hBT).bn q248
                  rw [← hQ]
                  refine W.widen (k := 8) (n := 48) (Nat.le_of_ble_eq_true rfl) (Nat.le_of_ble_eq_true rfl) ?_
                  exact vx_ret (pw_iret hx hb hr hlocks hw (by
                    rw [dPost, o_change_ok ⟨hRto, hRa⟩ (by omega) hd eu ex, c51_3, ch_3]
                    dsimp only
                    rw [s_lay_1 _ _ _ _ (Nat.gcd_one_right _)]
                    rw [← sg_floor hsx hpx, hzx] at hkr
                    exact ⟨rfl, hkr⟩) d_K_change_251)
                · skip
                  by_cases c51_4 : kd = 4
                  · refine wz_tabIn (k := 4) (off := 133) (tgt := 184) hx hb d_K_change_51 c51_4 (by omega) (by omega) (by decide) rfl (by decide) ?_
                    refine lv_aload_n hx hb d_K_change_184 rfl (lv_at hl 2 rfl) ?_
                    refine pw_get (ci := 5) (C := R_K) (T := T_K) (N := 4) hx hb hq i_K hown hw (by omega) hK rfl 1 (by decide) (hq _ fl_K_19) (fun _ h9 => h9) rfl d_K_change_185 ?_
                    refine lv_aload hx hb d_K_change_188 (lv_at hl 0 rfl) ?_
                    refine lv_aload hx hb d_K_change_190 (lv_at hl 0 rfl) ?_
                    refine pw_get (ci := 1) (C := R_F) (T := T_F) (N := 3) hx hb hq i_F hown hw (by omega) hOx rfl 2 (by decide) (hq _ fl_K_65) (fun _ h9 => h9) rfl d_K_change_192 ?_
                    refine wz_if_ne (tgt := 202) hx hb d_K_change_195 (by decide) (by omega) (by omega) (fun c195 => ?_) (fun c195 => ?_)
                    · refine wz_iconst (n := 0) hx hb d_K_change_202 ?_
                      refine pw_callv hw (va_runV (As := [.ref (ad (2 + 5 * x)), .int (iI (0))]) (rest := []) ⟨hx, hb, hml, hown, hq⟩ (c_B_round l D ty ad M F H.size hM hBn (2 + 5 * x) xt (bS g x) xs (by omega) hFx (by omega) hsmx1 hsmx2 0 (by omega)) (cwV 2 hq (gV ml_K_111 im_B_round se_B_round in_B m_B_round) rfl rfl rfl (by decide +kernel) ⟨Nat.le_of_ble_eq_true rfl, Nat.le_of_ble_eq_true rfl⟩) (pw_preBn hw hM hBn) rfl rfl hl.1 rfl (lv_room (Nat.le_of_ble_eq_true rfl)) d_K_change_203 ⟨Nat.le_of_ble_eq_true rfl, Nat.le_of_ble_eq_true rfl⟩) (fun F203 H locs q203 hw => ?_)
                      obtain ⟨hBT, hf203⟩ := q203
                      have hK_at_203 : F203 (0) = .inr (5, [.ref (ad (1)), .ref (ad (82)), .ref (ad (96)), .int (iI (pS g))]) := (hf203 (0) (by omega)).trans hK
                      have hOu_at_203 : F203 (2 + 5 * u) = .inr (1, [.ref (ad (2 + 5 * u + 1)), .ref (ad (2 + 5 * u + 3)), .int (iI ((us : Int)))]) := (hf203 (2 + 5 * u) (by omega)).trans hOu
                      have hFu_at_203 : Frc ty ad F203 (2 + 5 * u) ut (bS g u) us := Frc.m5 hFu (hf203 (2 + 5 * u) (by omega)) (hf203 (2 + 5 * u + 1) (by omega)) (hf203 (2 + 5 * u + 2) (by omega)) (hf203 (2 + 5 * u + 3) (by omega)) (hf203 (2 + 5 * u + 4) (by omega))
                      have hOx_at_203 : F203 (2 + 5 * x) = .inr (1, [.ref (ad (2 + 5 * x + 1)), .ref (ad (2 + 5 * x + 3)), .int (iI ((xs : Int)))]) := (hf203 (2 + 5 * x) (by omega)).trans hOx
                      have hFx_at_203 : Frc ty ad F203 (2 + 5 * x) xt (bS g x) xs := Frc.m5 hFx (hf203 (2 + 5 * x) (by omega)) (hf203 (2 + 5 * x + 1) (by omega)) (hf203 (2 + 5 * x + 2) (by omega)) (hf203 (2 + 5 * x + 3) (by omega)) (hf203 (2 + 5 * x + 4) (by omega))
                      refine lv_goto (tgt := 242) hx hb d_K_change_206 (by decide) ?_
                      refine lv_aload_n hx hb d_K_change_242 rfl (lv_at hl 2 rfl) ?_
                      refine pw_get (ci := 5) (C := R_K) (T := T_K) (N := 4) hx hb hq i_K hown hw (by omega) hK_at_203 rfl 1 (by decide) (hq _ fl_K_19) (fun _ h9 => h9) rfl d_K_change_243 ?_
                      refine lv_aload hx hb d_K_change_246 (lv_at hl 1 rfl) ?_
                      refine pw_calli hw (va_runV (As := [.ref (ad (2 + 5 * u))]) (rest := []) ⟨hx, hb, hml, hown, hq⟩ (c_B_keep l D ty ad M F203 H.size hM (if 0 = 1 ∧ xt % bS g x ≠ 0 then xt / bS g x + 1 else xt / bS g x) (1) (xs) hBT (2 + 5 * u) ut (bS g u) us (by omega) hFu_at_203 (by omega)) (cwV 1 hq (gV ml_K_88 im_B_keep se_B_keep in_B m_B_keep) rfl rfl rfl (by decide +kernel) ⟨Nat.le_of_ble_eq_true rfl, Nat.le_of_ble_eq_true rfl⟩) (pw_preBn hw hM (hBT).bn) rfl rfl hl.1 rfl (lv_room (Nat.le_of_ble_eq_true rfl)) d_K_change_248 ⟨Nat.le_of_ble_eq_true rfl, Nat.le_of_ble_eq_true rfl⟩) (fun r248 F248 H locs q248 hw => ?_)
                      have hkr := hDk.k (fun y9 h9 => hf203 (y9) (by omega)) (show u < 16 by omega) (hBT).1 (hBT).bn q248
                      rw [← hQ]
                      refine W.widen (k := 8) (n := 48) (Nat.le_of_ble_eq_true rfl) (Nat.le_of_ble_eq_true rfl) ?_
                      exact vx_ret (pw_iret hx hb hr hlocks hw (by
                        rw [dPost, o_change_ok ⟨hRto, hRa⟩ (by omega) hd eu ex, c51_4, ch_4]
                        dsimp only
                        rw [s_lay_1 _ _ _ _ (Nat.gcd_one_right _)]
                        rw [sg_flip (s := 0) (t := xs) (show 0 + xs = 1 by omega), ← sg_floor (s := 0) (by omega) hpx, sg_flip (s := xs) (show xs + 0 = 1 by omega), hzx] at hkr
                        exact ⟨rfl, hkr⟩) d_K_change_251)
                    · refine wz_iconst (n := 1) hx hb d_K_change_198 ?_
                      refine lv_goto (tgt := 203) hx hb d_K_change_199 (by decide) ?_
                      refine pw_callv hw (va_runV (As := [.ref (ad (2 + 5 * x)), .int (iI (1))]) (rest := []) ⟨hx, hb, hml, hown, hq⟩ (c_B_round l D ty ad M F H.size hM hBn (2 + 5 * x) xt (bS g x) xs (by omega) hFx (by omega) hsmx1 hsmx2 1 (by omega)) (cwV 2 hq (gV ml_K_111 im_B_round se_B_round in_B m_B_round) rfl rfl rfl (by decide +kernel) ⟨Nat.le_of_ble_eq_true rfl, Nat.le_of_ble_eq_true rfl⟩) (pw_preBn hw hM hBn) rfl rfl hl.1 rfl (lv_room (Nat.le_of_ble_eq_true rfl)) d_K_change_203 ⟨Nat.le_of_ble_eq_true rfl, Nat.le_of_ble_eq_true rfl⟩) (fun F203 H locs q203 hw => ?_)
                      obtain ⟨hBT, hf203⟩ := q203
                      have hK_at_203 : F203 (0) = .inr (5, [.ref (ad (1)), .ref (ad (82)), .ref (ad (96)), .int (iI (pS g))]) := (hf203 (0) (by omega)).trans hK
                      have hOu_at_203 : F203 (2 + 5 * u) = .inr (1, [.ref (ad (2 + 5 * u + 1)), .ref (ad (2 + 5 * u + 3)), .int (iI ((us : Int)))]) := (hf203 (2 + 5 * u) (by omega)).trans hOu
                      have hFu_at_203 : Frc ty ad F203 (2 + 5 * u) ut (bS g u) us := Frc.m5 hFu (hf203 (2 + 5 * u) (by omega)) (hf203 (2 + 5 * u + 1) (by omega)) (hf203 (2 + 5 * u + 2) (by omega)) (hf203 (2 + 5 * u + 3) (by omega)) (hf203 (2 + 5 * u + 4) (by omega))
                      have hOx_at_203 : F203 (2 + 5 * x) = .inr (1, [.ref (ad (2 + 5 * x + 1)), .ref (ad (2 + 5 * x + 3)), .int (iI ((xs : Int)))]) := (hf203 (2 + 5 * x) (by omega)).trans hOx
                      have hFx_at_203 : Frc ty ad F203 (2 + 5 * x) xt (bS g x) xs := Frc.m5 hFx (hf203 (2 + 5 * x) (by omega)) (hf203 (2 + 5 * x + 1) (by omega)) (hf203 (2 + 5 * x + 2) (by omega)) (hf203 (2 + 5 * x + 3) (by omega)) (hf203 (2 + 5 * x + 4) (by omega))
                      refine lv_goto (tgt := 242) hx hb d_K_change_206 (by decide) ?_
                      refine lv_aload_n hx hb d_K_change_242 rfl (lv_at hl 2 rfl) ?_
                      refine pw_get (ci := 5) (C := R_K) (T := T_K) (N := 4) hx hb hq i_K hown hw (by omega) hK_at_203 rfl 1 (by decide) (hq _ fl_K_19) (fun _ h9 => h9) rfl d_K_change_243 ?_
                      refine lv_aload hx hb d_K_change_246 (lv_at hl 1 rfl) ?_
                      refine pw_calli hw (va_runV (As := [.ref (ad (2 + 5 * u))]) (rest := []) ⟨hx, hb, hml, hown, hq⟩ (c_B_keep l D ty ad M F203 H.size hM (if 1 = 1 ∧ xt % bS g x ≠ 0 then xt / bS g x + 1 else xt / bS g x) (1) (xs) hBT (2 + 5 * u) ut (bS g u) us (by omega) hFu_at_203 (by omega)) (cwV 1 hq (gV ml_K_88 im_B_keep se_B_keep in_B m_B_keep) rfl rfl rfl (by decide +kernel) ⟨Nat.le_of_ble_eq_true rfl, Nat.le_of_ble_eq_true rfl⟩) (pw_preBn hw hM (hBT).bn) rfl rfl hl.1 rfl (lv_room (Nat.le_of_ble_eq_true rfl)) d_K_change_248 ⟨Nat.le_of_ble_eq_true rfl, Nat.le_of_ble_eq_true rfl⟩) (fun r248 F248 H locs q248 hw => ?_)
                      have hkr := hDk.k (fun y9 h9 => hf203 (y9) (by omega)) (show u < 16 by omega) (hBT).1 (hBT).bn q248
                      rw [← hQ]
                      refine W.widen (k := 8) (n := 48) (Nat.le_of_ble_eq_true rfl) (Nat.le_of_ble_eq_true rfl) ?_
                      exact vx_ret (pw_iret hx hb hr hlocks hw (by
                        rw [dPost, o_change_ok ⟨hRto, hRa⟩ (by omega) hd eu ex, c51_4, ch_4]
                        dsimp only
                        rw [s_lay_1 _ _ _ _ (Nat.gcd_one_right _)]
                        rw [sg_flip (s := 1) (t := xs) (show 1 + xs = 1 by omega), ← sg_floor (s := 1) (by omega) hpx, sg_flip (s := xs) (show xs + 1 = 1 by omega), hzx] at hkr
                        exact ⟨rfl, hkr⟩) d_K_change_251)
                  · skip
                    by_cases c51_5 : kd = 5
                    · refine wz_tabIn (k := 5) (off := 158) (tgt := 209) hx hb d_K_change_51 c51_5 (by omega) (by omega) (by decide) rfl (by decide) ?_
                      refine lv_aload_n hx hb d_K_change_209 rfl (lv_at hl 2 rfl) ?_
                      refine pw_get (ci := 5) (C := R_K) (T := T_K) (N := 4) hx hb hq i_K hown hw (by omega) hK rfl 1 (by decide) (hq _ fl_K_19) (fun _ h9 => h9) rfl d_K_change_210 ?_
                      refine lv_aload hx hb d_K_change_213 (lv_at hl 0 rfl) ?_
                      refine pw_get (ci := 1) (C := R_F) (T := T_F) (N := 3) hx hb hq i_F hown hw (by omega) hOx rfl 0 (by decide) (hq _ fl_K_100) (fun _ h9 => h9) rfl d_K_change_215 ?_
                      refine lv_aload hx hb d_K_change_218 (lv_at hl 0 rfl) ?_
                      refine pw_get (ci := 1) (C := R_F) (T := T_F) (N := 3) hx hb hq i_F hown hw (by omega) hOx rfl 2 (by decide) (hq _ fl_K_65) (fun _ h9 => h9) rfl d_K_change_220 ?_
                      obtain ⟨⟨bb9, -, hB9⟩, hw83, hw85, -⟩ := id hBn
                      refine pw_callv hw (va_runV (As := [.ref (ad (2 + 5 * x + 1)), .int (iI ((xs : Int)))]) (rest := []) ⟨hx, hb, hml, hown, hq⟩ (c_B_takeWhole l D ty ad M F H.size hM (2 + 5 * x + 1) 67 (xt) xs bb9 hsx (by omega) (by omega) (by omega) hsmx1.f136 hB9 hw83 hw85 (hFx).2.2.1) (cwV 2 hq (gV ml_K_115 im_B_takeWhole se_B_takeWhole in_B m_B_takeWhole) rfl rfl rfl (by decide +kernel) ⟨Nat.le_of_ble_eq_true rfl, Nat.le_of_ble_eq_true rfl⟩) (pw_preBn hw hM hBn) rfl rfl hl.1 rfl (lv_room (Nat.le_of_ble_eq_true rfl)) d_K_change_223 ⟨Nat.le_of_ble_eq_true rfl, Nat.le_of_ble_eq_true rfl⟩) (fun F223 H locs q223 hw => ?_)
                      have hBT := BnT.of_take hBn hsx q223
                      have hf223 : ∀ y, y < 82 ∨ 86 < y → F223 y = F y := q223.2.2.2
                      have hK_at_223 : F223 (0) = .inr (5, [.ref (ad (1)), .ref (ad (82)), .ref (ad (96)), .int (iI (pS g))]) := (hf223 (0) (by omega)).trans hK
                      have hOu_at_223 : F223 (2 + 5 * u) = .inr (1, [.ref (ad (2 + 5 * u + 1)), .ref (ad (2 + 5 * u + 3)), .int (iI ((us : Int)))]) := (hf223 (2 + 5 * u) (by omega)).trans hOu
                      have hFu_at_223 : Frc ty ad F223 (2 + 5 * u) ut (bS g u) us := Frc.m5 hFu (hf223 (2 + 5 * u) (by omega)) (hf223 (2 + 5 * u + 1) (by omega)) (hf223 (2 + 5 * u + 2) (by omega)) (hf223 (2 + 5 * u + 3) (by omega)) (hf223 (2 + 5 * u + 4) (by omega))
                      have hOx_at_223 : F223 (2 + 5 * x) = .inr (1, [.ref (ad (2 + 5 * x + 1)), .ref (ad (2 + 5 * x + 3)), .int (iI ((xs : Int)))]) := (hf223 (2 + 5 * x) (by omega)).trans hOx
                      have hFx_at_223 : Frc ty ad F223 (2 + 5 * x) xt (bS g x) xs := Frc.m5 hFx (hf223 (2 + 5 * x) (by omega)) (hf223 (2 + 5 * x + 1) (by omega)) (hf223 (2 + 5 * x + 2) (by omega)) (hf223 (2 + 5 * x + 3) (by omega)) (hf223 (2 + 5 * x + 4) (by omega))
                      refine lv_goto (tgt := 242) hx hb d_K_change_226 (by decide) ?_
                      refine lv_aload_n hx hb d_K_change_242 rfl (lv_at hl 2 rfl) ?_
                      refine pw_get (ci := 5) (C := R_K) (T := T_K) (N := 4) hx hb hq i_K hown hw (by omega) hK_at_223 rfl 1 (by decide) (hq _ fl_K_19) (fun _ h9 => h9) rfl d_K_change_243 ?_
                      refine lv_aload hx hb d_K_change_246 (lv_at hl 1 rfl) ?_
                      refine pw_calli hw (va_runV (As := [.ref (ad (2 + 5 * u))]) (rest := []) ⟨hx, hb, hml, hown, hq⟩ (c_B_keep l D ty ad M F223 H.size hM (xt) (1) (xs) hBT (2 + 5 * u) ut (bS g u) us (by omega) hFu_at_223 (by omega)) (cwV 1 hq (gV ml_K_88 im_B_keep se_B_keep in_B m_B_keep) rfl rfl rfl (by decide +kernel) ⟨Nat.le_of_ble_eq_true rfl, Nat.le_of_ble_eq_true rfl⟩) (pw_preBn hw hM (hBT).bn) rfl rfl hl.1 rfl (lv_room (Nat.le_of_ble_eq_true rfl)) d_K_change_248 ⟨Nat.le_of_ble_eq_true rfl, Nat.le_of_ble_eq_true rfl⟩) (fun r248 F248 H locs q248 hw => ?_)
                      have hkr := hDk.k (fun y9 h9 => hf223 (y9) (by omega)) (show u < 16 by omega) (hBT).1 (hBT).bn q248
                      rw [← hQ]
                      refine W.widen (k := 8) (n := 48) (Nat.le_of_ble_eq_true rfl) (Nat.le_of_ble_eq_true rfl) ?_
                      exact vx_ret (pw_iret hx hb hr hlocks hw (by
                        rw [dPost, o_change_ok ⟨hRto, hRa⟩ (by omega) hd eu ex, c51_5, ch_5]
                        dsimp only
                        rw [s_lay_1 _ _ _ _ (Nat.gcd_one_right _)]
                        rw [hzx] at hkr
                        exact ⟨rfl, hkr⟩) d_K_change_251)
                    · skip
                      refine wz_tabOut (tgt := 229) hx hb d_K_change_51 (by omega) (by omega) (by omega) (by decide) ?_
                      refine lv_aload_n hx hb d_K_change_229 rfl (lv_at hl 2 rfl) ?_
                      refine pw_get (ci := 5) (C := R_K) (T := T_K) (N := 4) hx hb hq i_K hown hw (by omega) hK rfl 1 (by decide) (hq _ fl_K_19) (fun _ h9 => h9) rfl d_K_change_230 ?_
                      refine lv_aload hx hb d_K_change_233 (lv_at hl 0 rfl) ?_
                      refine pw_get (ci := 1) (C := R_F) (T := T_F) (N := 3) hx hb hq i_F hown hw (by omega) hOx rfl 1 (by decide) (hq _ fl_K_104) (fun _ h9 => h9) rfl d_K_change_235 ?_
                      refine wz_iconst (n := 0) hx hb d_K_change_238 ?_
                      obtain ⟨⟨bb9, -, hB9⟩, hw83, hw85, -⟩ := id hBn
                      refine pw_callv hw (va_runV (As := [.ref (ad (2 + 5 * x + 3)), .int (iI (0))]) (rest := []) ⟨hx, hb, hml, hown, hq⟩ (c_B_takeWhole l D ty ad M F H.size hM (2 + 5 * x + 3) 67 (bS g x) 0 bb9 (by omega) (by omega) (by omega) (by omega) hsmx2.f136 hB9 hw83 hw85 (hFx).2.2.2) (cwV 2 hq (gV ml_K_115 im_B_takeWhole se_B_takeWhole in_B m_B_takeWhole) rfl rfl rfl (by decide +kernel) ⟨Nat.le_of_ble_eq_true rfl, Nat.le_of_ble_eq_true rfl⟩) (pw_preBn hw hM hBn) rfl rfl hl.1 rfl (lv_room (Nat.le_of_ble_eq_true rfl)) d_K_change_239 ⟨Nat.le_of_ble_eq_true rfl, Nat.le_of_ble_eq_true rfl⟩) (fun F239 H locs q239 hw => ?_)
                      have hBT := BnT.of_take hBn (by omega) q239
                      have hf239 : ∀ y, y < 82 ∨ 86 < y → F239 y = F y := q239.2.2.2
                      have hK_at_239 : F239 (0) = .inr (5, [.ref (ad (1)), .ref (ad (82)), .ref (ad (96)), .int (iI (pS g))]) := (hf239 (0) (by omega)).trans hK
                      have hOu_at_239 : F239 (2 + 5 * u) = .inr (1, [.ref (ad (2 + 5 * u + 1)), .ref (ad (2 + 5 * u + 3)), .int (iI ((us : Int)))]) := (hf239 (2 + 5 * u) (by omega)).trans hOu
                      have hFu_at_239 : Frc ty ad F239 (2 + 5 * u) ut (bS g u) us := Frc.m5 hFu (hf239 (2 + 5 * u) (by omega)) (hf239 (2 + 5 * u + 1) (by omega)) (hf239 (2 + 5 * u + 2) (by omega)) (hf239 (2 + 5 * u + 3) (by omega)) (hf239 (2 + 5 * u + 4) (by omega))
                      have hOx_at_239 : F239 (2 + 5 * x) = .inr (1, [.ref (ad (2 + 5 * x + 1)), .ref (ad (2 + 5 * x + 3)), .int (iI ((xs : Int)))]) := (hf239 (2 + 5 * x) (by omega)).trans hOx
                      have hFx_at_239 : Frc ty ad F239 (2 + 5 * x) xt (bS g x) xs := Frc.m5 hFx (hf239 (2 + 5 * x) (by omega)) (hf239 (2 + 5 * x + 1) (by omega)) (hf239 (2 + 5 * x + 2) (by omega)) (hf239 (2 + 5 * x + 3) (by omega)) (hf239 (2 + 5 * x + 4) (by omega))
                      refine lv_aload_n hx hb d_K_change_242 rfl (lv_at hl 2 rfl) ?_
                      refine pw_get (ci := 5) (C := R_K) (T := T_K) (N := 4) hx hb hq i_K hown hw (by omega) hK_at_239 rfl 1 (by decide) (hq _ fl_K_19) (fun _ h9 => h9) rfl d_K_change_243 ?_
                      refine lv_aload hx hb d_K_change_246 (lv_at hl 1 rfl) ?_
                      refine pw_calli hw (va_runV (As := [.ref (ad (2 + 5 * u))]) (rest := []) ⟨hx, hb, hml, hown, hq⟩ (c_B_keep l D ty ad M F239 H.size hM (bS g x) (1) (0) hBT (2 + 5 * u) ut (bS g u) us (by omega) hFu_at_239 (by omega)) (cwV 1 hq (gV ml_K_88 im_B_keep se_B_keep in_B m_B_keep) rfl rfl rfl (by decide +kernel) ⟨Nat.le_of_ble_eq_true rfl, Nat.le_of_ble_eq_true rfl⟩) (pw_preBn hw hM (hBT).bn) rfl rfl hl.1 rfl (lv_room (Nat.le_of_ble_eq_true rfl)) d_K_change_248 ⟨Nat.le_of_ble_eq_true rfl, Nat.le_of_ble_eq_true rfl⟩) (fun r248 F248 H locs q248 hw => ?_)
                      have hkr := hDk.k (fun y9 h9 => hf239 (y9) (by omega)) (show u < 16 by omega) (hBT).1 (hBT).bn q248
                      rw [← hQ]
                      refine W.widen (k := 8) (n := 48) (Nat.le_of_ble_eq_true rfl) (Nat.le_of_ble_eq_true rfl) ?_
                      exact vx_ret (pw_iret hx hb hr hlocks hw (by
                        rw [dPost, o_change_ok ⟨hRto, hRa⟩ (by omega) hd eu ex, show kd = 6 by omega, ch_6]
                        dsimp only
                        rw [s_lay_1 _ _ _ _ (Nat.gcd_one_right _)]
                        rw [sg_0] at hkr
                        exact ⟨rfl, hkr⟩) d_K_change_251)
        · refine lv_aload hx hb d_K_change_39 (lv_at hl 0 rfl) ?_
          refine pw_calli hw (va_runV (As := []) (rest := []) ⟨hx, hb, hml, hown, hq⟩ (c_F_signum l D ty ad M F H.size (2 + 5 * x) xt (bS g x) xs (by omega) hFx) (cwV 0 hq (gV ml_K_61 im_F_signum se_F_signum in_F m_F_signum) rfl rfl rfl (by decide +kernel) ⟨Nat.le_of_ble_eq_true rfl, Nat.le_of_ble_eq_true rfl⟩) (pw_preV hw (by omega) hOx rfl) rfl rfl hl.1 rfl (lv_room (Nat.le_of_ble_eq_true rfl)) d_K_change_41 ⟨Nat.le_of_ble_eq_true rfl, Nat.le_of_ble_eq_true rfl⟩) (fun r41 F41 H locs q41 hw => ?_)
          obtain ⟨er41, eF41⟩ := q41
          rw [eF41] at hw
          clear eF41
          subst er41
          have hsb := sgn_b xs xt
          refine wz_if_ne (tgt := 50) hx hb d_K_change_44 (by decide) (by omega) (by omega) (fun c44 => ?_) (fun c44 => ?_)
          · have hd : ¬ (kd = 2 ∧ zS g x = 0) := fun h9 => c44 ((sgn_z hsx).mpr (by rw [hzx]; exact h9.2))
            refine lv_iload_n hx hb d_K_change_50 rfl (lv_at hl 4 rfl) ?_
            by_cases c51_0 : kd = 0
            · refine wz_tabIn (k := 0) (off := 37) (tgt := 88) hx hb d_K_change_51 c51_0 (by omega) (by omega) (by decide) rfl (by decide) ?_
              refine lv_aload_n hx hb d_K_change_88 rfl (lv_at hl 2 rfl) ?_
              refine pw_get (ci := 5) (C := R_K) (T := T_K) (N := 4) hx hb hq i_K hown hw (by omega) hK rfl 1 (by decide) (hq _ fl_K_19) (fun _ h9 => h9) rfl d_K_change_89 ?_
              refine lv_aload hx hb d_K_change_92 (lv_at hl 0 rfl) ?_
              refine pw_get (ci := 1) (C := R_F) (T := T_F) (N := 3) hx hb hq i_F hown hw (by omega) hOx rfl 0 (by decide) (hq _ fl_K_100) (fun _ h9 => h9) rfl d_K_change_94 ?_
              refine lv_aload hx hb d_K_change_97 (lv_at hl 0 rfl) ?_
              refine pw_get (ci := 1) (C := R_F) (T := T_F) (N := 3) hx hb hq i_F hown hw (by omega) hOx rfl 1 (by decide) (hq _ fl_K_104) (fun _ h9 => h9) rfl d_K_change_99 ?_
              refine lv_aload hx hb d_K_change_102 (lv_at hl 0 rfl) ?_
              refine pw_get (ci := 1) (C := R_F) (T := T_F) (N := 3) hx hb hq i_F hown hw (by omega) hOx rfl 2 (by decide) (hq _ fl_K_65) (fun _ h9 => h9) rfl d_K_change_104 ?_
              refine wz_if_ne (tgt := 114) hx hb d_K_change_107 (by decide) (by omega) (by omega) (fun c107 => ?_) (fun c107 => ?_)
              · refine wz_iconst (n := 0) hx hb d_K_change_114 ?_
                obtain ⟨⟨bb9, -, hB9⟩, hw83, hw85, -⟩ := id hBn
                refine pw_callv hw (va_runV (As := [.ref (ad (2 + 5 * x + 1)), .ref (ad (2 + 5 * x + 3)), .int (iI (0))]) (rest := []) ⟨hx, hb, hml, hown, hq⟩ (c_B_takeParts l D ty ad M F H.size hM (2 + 5 * x + 1) (2 + 5 * x + 3) 67 67 (xt) (bS g x) 0 bb9 (by omega) (by omega) (by omega) (by omega) (by omega) (by omega) (by omega) hsmx1.f136 hsmx2.f136 hB9 hw83 hw85 (hFx).2.2.1 (hFx).2.2.2) (cwV 3 hq (gV ml_K_107 im_B_takeParts se_B_takeParts in_B m_B_takeParts) rfl rfl rfl (by decide +kernel) ⟨Nat.le_of_ble_eq_true rfl, Nat.le_of_ble_eq_true rfl⟩) (pw_preBn hw hM hBn) rfl rfl hl.1 rfl (lv_room (Nat.le_of_ble_eq_true rfl)) d_K_change_115 ⟨Nat.le_of_ble_eq_true rfl, Nat.le_of_ble_eq_true rfl⟩) (fun F115 H locs q115 hw => ?_)
                have hBT := BnT.of_take hBn (by omega) q115
                have hf115 : ∀ y, y < 82 ∨ 86 < y → F115 y = F y := q115.2.2.2
                have hK_at_115 : F115 (0) = .inr (5, [.ref (ad (1)), .ref (ad (82)), .ref (ad (96)), .int (iI (pS g))]) := (hf115 (0) (by omega)).trans hK
                have hOu_at_115 : F115 (2 + 5 * u) = .inr (1, [.ref (ad (2 + 5 * u + 1)), .ref (ad (2 + 5 * u + 3)), .int (iI ((us : Int)))]) := (hf115 (2 + 5 * u) (by omega)).trans hOu
                have hFu_at_115 : Frc ty ad F115 (2 + 5 * u) ut (bS g u) us := Frc.m5 hFu (hf115 (2 + 5 * u) (by omega)) (hf115 (2 + 5 * u + 1) (by omega)) (hf115 (2 + 5 * u + 2) (by omega)) (hf115 (2 + 5 * u + 3) (by omega)) (hf115 (2 + 5 * u + 4) (by omega))
                have hOx_at_115 : F115 (2 + 5 * x) = .inr (1, [.ref (ad (2 + 5 * x + 1)), .ref (ad (2 + 5 * x + 3)), .int (iI ((xs : Int)))]) := (hf115 (2 + 5 * x) (by omega)).trans hOx
                have hFx_at_115 : Frc ty ad F115 (2 + 5 * x) xt (bS g x) xs := Frc.m5 hFx (hf115 (2 + 5 * x) (by omega)) (hf115 (2 + 5 * x + 1) (by omega)) (hf115 (2 + 5 * x + 2) (by omega)) (hf115 (2 + 5 * x + 3) (by omega)) (hf115 (2 + 5 * x + 4) (by omega))
                refine lv_goto (tgt := 242) hx hb d_K_change_118 (by decide) ?_
                refine lv_aload_n hx hb d_K_change_242 rfl (lv_at hl 2 rfl) ?_
                refine pw_get (ci := 5) (C := R_K) (T := T_K) (N := 4) hx hb hq i_K hown hw (by omega) hK_at_115 rfl 1 (by decide) (hq _ fl_K_19) (fun _ h9 => h9) rfl d_K_change_243 ?_
                refine lv_aload hx hb d_K_change_246 (lv_at hl 1 rfl) ?_
                refine pw_calli hw (va_runV (As := [.ref (ad (2 + 5 * u))]) (rest := []) ⟨hx, hb, hml, hown, hq⟩ (c_B_keep l D ty ad M F115 H.size hM (xt) (bS g x) (0) hBT (2 + 5 * u) ut (bS g u) us (by omega) hFu_at_115 (by omega)) (cwV 1 hq (gV ml_K_88 im_B_keep se_B_keep in_B m_B_keep) rfl rfl rfl (by decide +kernel) ⟨Nat.le_of_ble_eq_true rfl, Nat.le_of_ble_eq_true rfl⟩) (pw_preBn hw hM (hBT).bn) rfl rfl hl.1 rfl (lv_room (Nat.le_of_ble_eq_true rfl)) d_K_change_248 ⟨Nat.le_of_ble_eq_true rfl, Nat.le_of_ble_eq_true rfl⟩) (fun r248 F248 H locs q248 hw => ?_)
                have hkr := hDk.k (fun y9 h9 => hf115 (y9) (by omega)) (show u < 16 by omega) (hBT).1 (hBT).bn q248
                rw [← hQ]
                refine W.widen (k := 8) (n := 48) (Nat.le_of_ble_eq_true rfl) (Nat.le_of_ble_eq_true rfl) ?_
                exact vx_ret (pw_iret hx hb hr hlocks hw (by
                  rw [dPost, o_change_ok ⟨hRto, hRa⟩ (by omega) hd eu ex, c51_0, ch_0]
                  dsimp only
                  rw [s_lay_1 _ _ _ _ (by rw [Int.natAbs_neg, show (zS g x).natAbs = xt from ext.symm]; exact hgx)]
                  rw [sg_flip (s := xs) (show xs + 0 = 1 by omega), hzx] at hkr
                  exact ⟨rfl, hkr⟩) d_K_change_251)
              · refine wz_iconst (n := 1) hx hb d_K_change_110 ?_
                refine lv_goto (tgt := 115) hx hb d_K_change_111 (by decide) ?_
                obtain ⟨⟨bb9, -, hB9⟩, hw83, hw85, -⟩ := id hBn
                refine pw_callv hw (va_runV (As := [.ref (ad (2 + 5 * x + 1)), .ref (ad (2 + 5 * x + 3)), .int (iI (1))]) (rest := []) ⟨hx, hb, hml, hown, hq⟩ (c_B_takeParts l D ty ad M F H.size hM (2 + 5 * x + 1) (2 + 5 * x + 3) 67 67 (xt) (bS g x) 1 bb9 (by omega) (by omega) (by omega) (by omega) (by omega) (by omega) (by omega) hsmx1.f136 hsmx2.f136 hB9 hw83 hw85 (hFx).2.2.1 (hFx).2.2.2) (cwV 3 hq (gV ml_K_107 im_B_takeParts se_B_takeParts in_B m_B_takeParts) rfl rfl rfl (by decide +kernel) ⟨Nat.le_of_ble_eq_true rfl, Nat.le_of_ble_eq_true rfl⟩) (pw_preBn hw hM hBn) rfl rfl hl.1 rfl (lv_room (Nat.le_of_ble_eq_true rfl)) d_K_change_115 ⟨Nat.le_of_ble_eq_true rfl, Nat.le_of_ble_eq_true rfl⟩) (fun F115 H locs q115 hw => ?_)
                have hBT := BnT.of_take hBn (by omega) q115
                have hf115 : ∀ y, y < 82 ∨ 86 < y → F115 y = F y := q115.2.2.2
                have hK_at_115 : F115 (0) = .inr (5, [.ref (ad (1)), .ref (ad (82)), .ref (ad (96)), .int (iI (pS g))]) := (hf115 (0) (by omega)).trans hK
                have hOu_at_115 : F115 (2 + 5 * u) = .inr (1, [.ref (ad (2 + 5 * u + 1)), .ref (ad (2 + 5 * u + 3)), .int (iI ((us : Int)))]) := (hf115 (2 + 5 * u) (by omega)).trans hOu
                have hFu_at_115 : Frc ty ad F115 (2 + 5 * u) ut (bS g u) us := Frc.m5 hFu (hf115 (2 + 5 * u) (by omega)) (hf115 (2 + 5 * u + 1) (by omega)) (hf115 (2 + 5 * u + 2) (by omega)) (hf115 (2 + 5 * u + 3) (by omega)) (hf115 (2 + 5 * u + 4) (by omega))
                have hOx_at_115 : F115 (2 + 5 * x) = .inr (1, [.ref (ad (2 + 5 * x + 1)), .ref (ad (2 + 5 * x + 3)), .int (iI ((xs : Int)))]) := (hf115 (2 + 5 * x) (by omega)).trans hOx
                have hFx_at_115 : Frc ty ad F115 (2 + 5 * x) xt (bS g x) xs := Frc.m5 hFx (hf115 (2 + 5 * x) (by omega)) (hf115 (2 + 5 * x + 1) (by omega)) (hf115 (2 + 5 * x + 2) (by omega)) (hf115 (2 + 5 * x + 3) (by omega)) (hf115 (2 + 5 * x + 4) (by omega))
                refine lv_goto (tgt := 242) hx hb d_K_change_118 (by decide) ?_
                refine lv_aload_n hx hb d_K_change_242 rfl (lv_at hl 2 rfl) ?_
                refine pw_get (ci := 5) (C := R_K) (T := T_K) (N := 4) hx hb hq i_K hown hw (by omega) hK_at_115 rfl 1 (by decide) (hq _ fl_K_19) (fun _ h9 => h9) rfl d_K_change_243 ?_
                refine lv_aload hx hb d_K_change_246 (lv_at hl 1 rfl) ?_
                refine pw_calli hw (va_runV (As := [.ref (ad (2 + 5 * u))]) (rest := []) ⟨hx, hb, hml, hown, hq⟩ (c_B_keep l D ty ad M F115 H.size hM (xt) (bS g x) (1) hBT (2 + 5 * u) ut (bS g u) us (by omega) hFu_at_115 (by omega)) (cwV 1 hq (gV ml_K_88 im_B_keep se_B_keep in_B m_B_keep) rfl rfl rfl (by decide +kernel) ⟨Nat.le_of_ble_eq_true rfl, Nat.le_of_ble_eq_true rfl⟩) (pw_preBn hw hM (hBT).bn) rfl rfl hl.1 rfl (lv_room (Nat.le_of_ble_eq_true rfl)) d_K_change_248 ⟨Nat.le_of_ble_eq_true rfl, Nat.le_of_ble_eq_true rfl⟩) (fun r248 F248 H locs q248 hw => ?_)
                have hkr := hDk.k (fun y9 h9 => hf115 (y9) (by omega)) (show u < 16 by omega) (hBT).1 (hBT).bn q248
                rw [← hQ]
                refine W.widen (k := 8) (n := 48) (Nat.le_of_ble_eq_true rfl) (Nat.le_of_ble_eq_true rfl) ?_
                exact vx_ret (pw_iret hx hb hr hlocks hw (by
                  rw [dPost, o_change_ok ⟨hRto, hRa⟩ (by omega) hd eu ex, c51_0, ch_0]
                  dsimp only
                  rw [s_lay_1 _ _ _ _ (by rw [Int.natAbs_neg, show (zS g x).natAbs = xt from ext.symm]; exact hgx)]
                  rw [sg_flip (s := xs) (show xs + 1 = 1 by omega), hzx] at hkr
                  exact ⟨rfl, hkr⟩) d_K_change_251)
            · skip
              by_cases c51_1 : kd = 1
              · refine wz_tabIn (k := 1) (off := 70) (tgt := 121) hx hb d_K_change_51 c51_1 (by omega) (by omega) (by decide) rfl (by decide) ?_
                refine lv_aload_n hx hb d_K_change_121 rfl (lv_at hl 2 rfl) ?_
                refine pw_get (ci := 5) (C := R_K) (T := T_K) (N := 4) hx hb hq i_K hown hw (by omega) hK rfl 1 (by decide) (hq _ fl_K_19) (fun _ h9 => h9) rfl d_K_change_122 ?_
                refine lv_aload hx hb d_K_change_125 (lv_at hl 0 rfl) ?_
                refine pw_get (ci := 1) (C := R_F) (T := T_F) (N := 3) hx hb hq i_F hown hw (by omega) hOx rfl 0 (by decide) (hq _ fl_K_100) (fun _ h9 => h9) rfl d_K_change_127 ?_
                refine lv_aload hx hb d_K_change_130 (lv_at hl 0 rfl) ?_
                refine pw_get (ci := 1) (C := R_F) (T := T_F) (N := 3) hx hb hq i_F hown hw (by omega) hOx rfl 1 (by decide) (hq _ fl_K_104) (fun _ h9 => h9) rfl d_K_change_132 ?_
                refine wz_iconst (n := 0) hx hb d_K_change_135 ?_
                obtain ⟨⟨bb9, -, hB9⟩, hw83, hw85, -⟩ := id hBn
                refine pw_callv hw (va_runV (As := [.ref (ad (2 + 5 * x + 1)), .ref (ad (2 + 5 * x + 3)), .int (iI (0))]) (rest := []) ⟨hx, hb, hml, hown, hq⟩ (c_B_takeParts l D ty ad M F H.size hM (2 + 5 * x + 1) (2 + 5 * x + 3) 67 67 (xt) (bS g x) 0 bb9 (by omega) (by omega) (by omega) (by omega) (by omega) (by omega) (by omega) hsmx1.f136 hsmx2.f136 hB9 hw83 hw85 (hFx).2.2.1 (hFx).2.2.2) (cwV 3 hq (gV ml_K_107 im_B_takeParts se_B_takeParts in_B m_B_takeParts) rfl rfl rfl (by decide +kernel) ⟨Nat.le_of_ble_eq_true rfl, Nat.le_of_ble_eq_true rfl⟩) (pw_preBn hw hM hBn) rfl rfl hl.1 rfl (lv_room (Nat.le_of_ble_eq_true rfl)) d_K_change_136 ⟨Nat.le_of_ble_eq_true rfl, Nat.le_of_ble_eq_true rfl⟩) (fun F136 H locs q136 hw => ?_)
                have hBT := BnT.of_take hBn (by omega) q136
                have hf136 : ∀ y, y < 82 ∨ 86 < y → F136 y = F y := q136.2.2.2
                have hK_at_136 : F136 (0) = .inr (5, [.ref (ad (1)), .ref (ad (82)), .ref (ad (96)), .int (iI (pS g))]) := (hf136 (0) (by omega)).trans hK
                have hOu_at_136 : F136 (2 + 5 * u) = .inr (1, [.ref (ad (2 + 5 * u + 1)), .ref (ad (2 + 5 * u + 3)), .int (iI ((us : Int)))]) := (hf136 (2 + 5 * u) (by omega)).trans hOu
                have hFu_at_136 : Frc ty ad F136 (2 + 5 * u) ut (bS g u) us := Frc.m5 hFu (hf136 (2 + 5 * u) (by omega)) (hf136 (2 + 5 * u + 1) (by omega)) (hf136 (2 + 5 * u + 2) (by omega)) (hf136 (2 + 5 * u + 3) (by omega)) (hf136 (2 + 5 * u + 4) (by omega))
                have hOx_at_136 : F136 (2 + 5 * x) = .inr (1, [.ref (ad (2 + 5 * x + 1)), .ref (ad (2 + 5 * x + 3)), .int (iI ((xs : Int)))]) := (hf136 (2 + 5 * x) (by omega)).trans hOx
                have hFx_at_136 : Frc ty ad F136 (2 + 5 * x) xt (bS g x) xs := Frc.m5 hFx (hf136 (2 + 5 * x) (by omega)) (hf136 (2 + 5 * x + 1) (by omega)) (hf136 (2 + 5 * x + 2) (by omega)) (hf136 (2 + 5 * x + 3) (by omega)) (hf136 (2 + 5 * x + 4) (by omega))
                refine lv_goto (tgt := 242) hx hb d_K_change_139 (by decide) ?_
                refine lv_aload_n hx hb d_K_change_242 rfl (lv_at hl 2 rfl) ?_
                refine pw_get (ci := 5) (C := R_K) (T := T_K) (N := 4) hx hb hq i_K hown hw (by omega) hK_at_136 rfl 1 (by decide) (hq _ fl_K_19) (fun _ h9 => h9) rfl d_K_change_243 ?_
                refine lv_aload hx hb d_K_change_246 (lv_at hl 1 rfl) ?_
                refine pw_calli hw (va_runV (As := [.ref (ad (2 + 5 * u))]) (rest := []) ⟨hx, hb, hml, hown, hq⟩ (c_B_keep l D ty ad M F136 H.size hM (xt) (bS g x) (0) hBT (2 + 5 * u) ut (bS g u) us (by omega) hFu_at_136 (by omega)) (cwV 1 hq (gV ml_K_88 im_B_keep se_B_keep in_B m_B_keep) rfl rfl rfl (by decide +kernel) ⟨Nat.le_of_ble_eq_true rfl, Nat.le_of_ble_eq_true rfl⟩) (pw_preBn hw hM (hBT).bn) rfl rfl hl.1 rfl (lv_room (Nat.le_of_ble_eq_true rfl)) d_K_change_248 ⟨Nat.le_of_ble_eq_true rfl, Nat.le_of_ble_eq_true rfl⟩) (fun r248 F248 H locs q248 hw => ?_)
                have hkr := hDk.k (fun y9 h9 => hf136 (y9) (by omega)) (show u < 16 by omega) (hBT).1 (hBT).bn q248
                rw [← hQ]
                refine W.widen (k := 8) (n := 48) (Nat.le_of_ble_eq_true rfl) (Nat.le_of_ble_eq_true rfl) ?_
                exact vx_ret (pw_iret hx hb hr hlocks hw (by
                  rw [dPost, o_change_ok ⟨hRto, hRa⟩ (by omega) hd eu ex, c51_1, ch_1]
                  dsimp only
                  rw [s_lay_1 _ _ _ _ (by rw [Int.natAbs_natCast, show (zS g x).natAbs = xt from ext.symm]; exact hgx)]
                  rw [sg_0, ext, ab] at hkr
                  exact ⟨rfl, hkr⟩) d_K_change_251)
              · skip
                by_cases c51_2 : kd = 2
                · refine wz_tabIn (k := 2) (off := 91) (tgt := 142) hx hb d_K_change_51 c51_2 (by omega) (by omega) (by decide) rfl (by decide) ?_
                  refine lv_aload_n hx hb d_K_change_142 rfl (lv_at hl 2 rfl) ?_
                  refine pw_get (ci := 5) (C := R_K) (T := T_K) (N := 4) hx hb hq i_K hown hw (by omega) hK rfl 1 (by decide) (hq _ fl_K_19) (fun _ h9 => h9) rfl d_K_change_143 ?_
                  refine lv_aload hx hb d_K_change_146 (lv_at hl 0 rfl) ?_
                  refine pw_get (ci := 1) (C := R_F) (T := T_F) (N := 3) hx hb hq i_F hown hw (by omega) hOx rfl 1 (by decide) (hq _ fl_K_104) (fun _ h9 => h9) rfl d_K_change_148 ?_
                  refine lv_aload hx hb d_K_change_151 (lv_at hl 0 rfl) ?_
                  refine pw_get (ci := 1) (C := R_F) (T := T_F) (N := 3) hx hb hq i_F hown hw (by omega) hOx rfl 0 (by decide) (hq _ fl_K_100) (fun _ h9 => h9) rfl d_K_change_153 ?_
                  refine lv_aload hx hb d_K_change_156 (lv_at hl 0 rfl) ?_
                  refine pw_get (ci := 1) (C := R_F) (T := T_F) (N := 3) hx hb hq i_F hown hw (by omega) hOx rfl 2 (by decide) (hq _ fl_K_65) (fun _ h9 => h9) rfl d_K_change_158 ?_
                  obtain ⟨⟨bb9, -, hB9⟩, hw83, hw85, -⟩ := id hBn
                  refine pw_callv hw (va_runV (As := [.ref (ad (2 + 5 * x + 3)), .ref (ad (2 + 5 * x + 1)), .int (iI ((xs : Int)))]) (rest := []) ⟨hx, hb, hml, hown, hq⟩ (c_B_takeParts l D ty ad M F H.size hM (2 + 5 * x + 3) (2 + 5 * x + 1) 67 67 (bS g x) (xt) xs bb9 hsx (by omega) (by omega) (by omega) (by omega) (by omega) (by omega) hsmx2.f136 hsmx1.f136 hB9 hw83 hw85 (hFx).2.2.2 (hFx).2.2.1) (cwV 3 hq (gV ml_K_107 im_B_takeParts se_B_takeParts in_B m_B_takeParts) rfl rfl rfl (by decide +kernel) ⟨Nat.le_of_ble_eq_true rfl, Nat.le_of_ble_eq_true rfl⟩) (pw_preBn hw hM hBn) rfl rfl hl.1 rfl (lv_room (Nat.le_of_ble_eq_true rfl)) d_K_change_161 ⟨Nat.le_of_ble_eq_true rfl, Nat.le_of_ble_eq_true rfl⟩) (fun F161 H locs q161 hw => ?_)
                  have hBT := BnT.of_take hBn hsx q161
                  have hf161 : ∀ y, y < 82 ∨ 86 < y → F161 y = F y := q161.2.2.2
                  have hK_at_161 : F161 (0) = .inr (5, [.ref (ad (1)), .ref (ad (82)), .ref (ad (96)), .int (iI (pS g))]) := (hf161 (0) (by omega)).trans hK
                  have hOu_at_161 : F161 (2 + 5 * u) = .inr (1, [.ref (ad (2 + 5 * u + 1)), .ref (ad (2 + 5 * u + 3)), .int (iI ((us : Int)))]) := (hf161 (2 + 5 * u) (by omega)).trans hOu
                  have hFu_at_161 : Frc ty ad F161 (2 + 5 * u) ut (bS g u) us := Frc.m5 hFu (hf161 (2 + 5 * u) (by omega)) (hf161 (2 + 5 * u + 1) (by omega)) (hf161 (2 + 5 * u + 2) (by omega)) (hf161 (2 + 5 * u + 3) (by omega)) (hf161 (2 + 5 * u + 4) (by omega))
                  have hOx_at_161 : F161 (2 + 5 * x) = .inr (1, [.ref (ad (2 + 5 * x + 1)), .ref (ad (2 + 5 * x + 3)), .int (iI ((xs : Int)))]) := (hf161 (2 + 5 * x) (by omega)).trans hOx
                  have hFx_at_161 : Frc ty ad F161 (2 + 5 * x) xt (bS g x) xs := Frc.m5 hFx (hf161 (2 + 5 * x) (by omega)) (hf161 (2 + 5 * x + 1) (by omega)) (hf161 (2 + 5 * x + 2) (by omega)) (hf161 (2 + 5 * x + 3) (by omega)) (hf161 (2 + 5 * x + 4) (by omega))
                  refine lv_goto (tgt := 242) hx hb d_K_change_164 (by decide) ?_
                  refine lv_aload_n hx hb d_K_change_242 rfl (lv_at hl 2 rfl) ?_
                  refine pw_get (ci := 5) (C := R_K) (T := T_K) (N := 4) hx hb hq i_K hown hw (by omega) hK_at_161 rfl 1 (by decide) (hq _ fl_K_19) (fun _ h9 => h9) rfl d_K_change_243 ?_
                  refine lv_aload hx hb d_K_change_246 (lv_at hl 1 rfl) ?_
                  refine pw_calli hw (va_runV (As := [.ref (ad (2 + 5 * u))]) (rest := []) ⟨hx, hb, hml, hown, hq⟩ (c_B_keep l D ty ad M F161 H.size hM (bS g x) (xt) (xs) hBT (2 + 5 * u) ut (bS g u) us (by omega) hFu_at_161 (by omega)) (cwV 1 hq (gV ml_K_88 im_B_keep se_B_keep in_B m_B_keep) rfl rfl rfl (by decide +kernel) ⟨Nat.le_of_ble_eq_true rfl, Nat.le_of_ble_eq_true rfl⟩) (pw_preBn hw hM (hBT).bn) rfl rfl hl.1 rfl (lv_room (Nat.le_of_ble_eq_true rfl)) d_K_change_248 ⟨Nat.le_of_ble_eq_true rfl, Nat.le_of_ble_eq_true rfl⟩) (fun r248 F248 H locs q248 hw => ?_)
                  have hkr := hDk.k (fun y9 h9 => hf161 (y9) (by omega)) (show u < 16 by omega) (hBT).1 (hBT).bn q248
                  rw [← hQ]
                  refine W.widen (k := 8) (n := 48) (Nat.le_of_ble_eq_true rfl) (Nat.le_of_ble_eq_true rfl) ?_
                  exact vx_ret (pw_iret hx hb hr hlocks hw (by
                    rw [dPost, o_change_ok ⟨hRto, hRa⟩ (by omega) hd eu ex, c51_2, ch_2]
                    dsimp only
                    rw [s_lay_1 _ _ _ _ (by rw [flZ_abs, Int.natAbs_natCast, show (zS g x).natAbs = xt from ext.symm, Nat.gcd_comm]; exact hgx)]
                    rw [sg_fl (sB_1 exs), ext, ab] at hkr
                    exact ⟨rfl, hkr⟩) d_K_change_251)
                · skip
                  by_cases c51_3 : kd = 3
                  · refine wz_tabIn (k := 3) (off := 116) (tgt := 167) hx hb d_K_change_51 c51_3 (by omega) (by omega) (by decide) rfl (by decide) ?_
                    refine lv_aload_n hx hb d_K_change_167 rfl (lv_at hl 2 rfl) ?_
                    refine pw_get (ci := 5) (C := R_K) (T := T_K) (N := 4) hx hb hq i_K hown hw (by omega) hK rfl 1 (by decide) (hq _ fl_K_19) (fun _ h9 => h9) rfl d_K_change_168 ?_
                    refine lv_aload hx hb d_K_change_171 (lv_at hl 0 rfl) ?_
                    refine lv_aload hx hb d_K_change_173 (lv_at hl 0 rfl) ?_
                    refine pw_get (ci := 1) (C := R_F) (T := T_F) (N := 3) hx hb hq i_F hown hw (by omega) hOx rfl 2 (by decide) (hq _ fl_K_65) (fun _ h9 => h9) rfl d_K_change_175 ?_
                    refine pw_callv hw (va_runV (As := [.ref (ad (2 + 5 * x)), .int (iI ((xs : Int)))]) (rest := []) ⟨hx, hb, hml, hown, hq⟩ (c_B_round l D ty ad M F H.size hM hBn (2 + 5 * x) xt (bS g x) xs (by omega) hFx (by omega) hsmx1 hsmx2 xs hsx) (cwV 2 hq (gV ml_K_111 im_B_round se_B_round in_B m_B_round) rfl rfl rfl (by decide +kernel) ⟨Nat.le_of_ble_eq_true rfl, Nat.le_of_ble_eq_true rfl⟩) (pw_preBn hw hM hBn) rfl rfl hl.1 rfl (lv_room (Nat.le_of_ble_eq_true rfl)) d_K_change_178 ⟨Nat.le_of_ble_eq_true rfl, Nat.le_of_ble_eq_true rfl⟩) (fun F178 H locs q178 hw => ?_)
                    obtain ⟨hBT, hf178⟩ := q178
                    have hK_at_178 : F178 (0) = .inr (5, [.ref (ad (1)), .ref (ad (82)), .ref (ad (96)), .int (iI (pS g))]) := (hf178 (0) (by omega)).trans hK
                    have hOu_at_178 : F178 (2 + 5 * u) = .inr (1, [.ref (ad (2 + 5 * u + 1)), .ref (ad (2 + 5 * u + 3)), .int (iI ((us : Int)))]) := (hf178 (2 + 5 * u) (by omega)).trans hOu
                    have hFu_at_178 : Frc ty ad F178 (2 + 5 * u) ut (bS g u) us := Frc.m5 hFu (hf178 (2 + 5 * u) (by omega)) (hf178 (2 + 5 * u + 1) (by omega)) (hf178 (2 + 5 * u + 2) (by omega)) (hf178 (2 + 5 * u + 3) (by omega)) (hf178 (2 + 5 * u + 4) (by omega))
                    have hOx_at_178 : F178 (2 + 5 * x) = .inr (1, [.ref (ad (2 + 5 * x + 1)), .ref (ad (2 + 5 * x + 3)), .int (iI ((xs : Int)))]) := (hf178 (2 + 5 * x) (by omega)).trans hOx
                    have hFx_at_178 : Frc ty ad F178 (2 + 5 * x) xt (bS g x) xs := Frc.m5 hFx (hf178 (2 + 5 * x) (by omega)) (hf178 (2 + 5 * x + 1) (by omega)) (hf178 (2 + 5 * x + 2) (by omega)) (hf178 (2 + 5 * x + 3) (by omega)) (hf178 (2 + 5 * x + 4) (by omega))
                    refine lv_goto (tgt := 242) hx hb d_K_change_181 (by decide) ?_
                    refine lv_aload_n hx hb d_K_change_242 rfl (lv_at hl 2 rfl) ?_
                    refine pw_get (ci := 5) (C := R_K) (T := T_K) (N := 4) hx hb hq i_K hown hw (by omega) hK_at_178 rfl 1 (by decide) (hq _ fl_K_19) (fun _ h9 => h9) rfl d_K_change_243 ?_
                    refine lv_aload hx hb d_K_change_246 (lv_at hl 1 rfl) ?_
                    refine pw_calli hw (va_runV (As := [.ref (ad (2 + 5 * u))]) (rest := []) ⟨hx, hb, hml, hown, hq⟩ (c_B_keep l D ty ad M F178 H.size hM (if xs = 1 ∧ xt % bS g x ≠ 0 then xt / bS g x + 1 else xt / bS g x) (1) (xs) hBT (2 + 5 * u) ut (bS g u) us (by omega) hFu_at_178 (by omega)) (cwV 1 hq (gV ml_K_88 im_B_keep se_B_keep in_B m_B_keep) rfl rfl rfl (by decide +kernel) ⟨Nat.le_of_ble_eq_true rfl, Nat.le_of_ble_eq_true rfl⟩) (pw_preBn hw hM (hBT).bn) rfl rfl hl.1 rfl (lv_room (Nat.le_of_ble_eq_true rfl)) d_K_change_248 ⟨Nat.le_of_ble_eq_true rfl, Nat.le_of_ble_eq_true rfl⟩) (fun r248 F248 H locs q248 hw => ?_)
                    have hkr := hDk.k (fun y9 h9 => hf178 (y9) (by omega)) (show u < 16 by omega) (hBT).1 (hBT).bn q248
                    rw [← hQ]
                    refine W.widen (k := 8) (n := 48) (Nat.le_of_ble_eq_true rfl) (Nat.le_of_ble_eq_true rfl) ?_
                    exact vx_ret (pw_iret hx hb hr hlocks hw (by
                      rw [dPost, o_change_ok ⟨hRto, hRa⟩ (by omega) hd eu ex, c51_3, ch_3]
                      dsimp only
                      rw [s_lay_1 _ _ _ _ (Nat.gcd_one_right _)]
                      rw [← sg_floor hsx hpx, hzx] at hkr
                      exact ⟨rfl, hkr⟩) d_K_change_251)
                  · skip
                    by_cases c51_4 : kd = 4
                    · refine wz_tabIn (k := 4) (off := 133) (tgt := 184) hx hb d_K_change_51 c51_4 (by omega) (by omega) (by decide) rfl (by decide) ?_
                      refine lv_aload_n hx hb d_K_change_184 rfl (lv_at hl 2 rfl) ?_
                      refine pw_get (ci := 5) (C := R_K) (T := T_K) (N := 4) hx hb hq i_K hown hw (by omega) hK rfl 1 (by decide) (hq _ fl_K_19) (fun _ h9 => h9) rfl d_K_change_185 ?_
                      refine lv_aload hx hb d_K_change_188 (lv_at hl 0 rfl) ?_
                      refine lv_aload hx hb d_K_change_190 (lv_at hl 0 rfl) ?_
                      refine pw_get (ci := 1) (C := R_F) (T := T_F) (N := 3) hx hb hq i_F hown hw (by omega) hOx rfl 2 (by decide) (hq _ fl_K_65) (fun _ h9 => h9) rfl d_K_change_192 ?_
                      refine wz_if_ne (tgt := 202) hx hb d_K_change_195 (by decide) (by omega) (by omega) (fun c195 => ?_) (fun c195 => ?_)
                      · refine wz_iconst (n := 0) hx hb d_K_change_202 ?_
                        refine pw_callv hw (va_runV (As := [.ref (ad (2 + 5 * x)), .int (iI (0))]) (rest := []) ⟨hx, hb, hml, hown, hq⟩ (c_B_round l D ty ad M F H.size hM hBn (2 + 5 * x) xt (bS g x) xs (by omega) hFx (by omega) hsmx1 hsmx2 0 (by omega)) (cwV 2 hq (gV ml_K_111 im_B_round se_B_round in_B m_B_round) rfl rfl rfl (by decide +kernel) ⟨Nat.le_of_ble_eq_true rfl, Nat.le_of_ble_eq_true rfl⟩) (pw_preBn hw hM hBn) rfl rfl hl.1 rfl (lv_room (Nat.le_of_ble_eq_true rfl)) d_K_change_203 ⟨Nat.le_of_ble_eq_true rfl, Nat.le_of_ble_eq_true rfl⟩) (fun F203 H locs q203 hw => ?_)
                        obtain ⟨hBT, hf203⟩ := q203
                        have hK_at_203 : F203 (0) = .inr (5, [.ref (ad (1)), .ref (ad (82)), .ref (ad (96)), .int (iI (pS g))]) := (hf203 (0) (by omega)).trans hK
                        have hOu_at_203 : F203 (2 + 5 * u) = .inr (1, [.ref (ad (2 + 5 * u + 1)), .ref (ad (2 + 5 * u + 3)), .int (iI ((us : Int)))]) := (hf203 (2 + 5 * u) (by omega)).trans hOu
                        have hFu_at_203 : Frc ty ad F203 (2 + 5 * u) ut (bS g u) us := Frc.m5 hFu (hf203 (2 + 5 * u) (by omega)) (hf203 (2 + 5 * u + 1) (by omega)) (hf203 (2 + 5 * u + 2) (by omega)) (hf203 (2 + 5 * u + 3) (by omega)) (hf203 (2 + 5 * u + 4) (by omega))
                        have hOx_at_203 : F203 (2 + 5 * x) = .inr (1, [.ref (ad (2 + 5 * x + 1)), .ref (ad (2 + 5 * x + 3)), .int (iI ((xs : Int)))]) := (hf203 (2 + 5 * x) (by omega)).trans hOx
                        have hFx_at_203 : Frc ty ad F203 (2 + 5 * x) xt (bS g x) xs := Frc.m5 hFx (hf203 (2 + 5 * x) (by omega)) (hf203 (2 + 5 * x + 1) (by omega)) (hf203 (2 + 5 * x + 2) (by omega)) (hf203 (2 + 5 * x + 3) (by omega)) (hf203 (2 + 5 * x + 4) (by omega))
                        refine lv_goto (tgt := 242) hx hb d_K_change_206 (by decide) ?_
                        refine lv_aload_n hx hb d_K_change_242 rfl (lv_at hl 2 rfl) ?_
                        refine pw_get (ci := 5) (C := R_K) (T := T_K) (N := 4) hx hb hq i_K hown hw (by omega) hK_at_203 rfl 1 (by decide) (hq _ fl_K_19) (fun _ h9 => h9) rfl d_K_change_243 ?_
                        refine lv_aload hx hb d_K_change_246 (lv_at hl 1 rfl) ?_
                        refine pw_calli hw (va_runV (As := [.ref (ad (2 + 5 * u))]) (rest := []) ⟨hx, hb, hml, hown, hq⟩ (c_B_keep l D ty ad M F203 H.size hM (if 0 = 1 ∧ xt % bS g x ≠ 0 then xt / bS g x + 1 else xt / bS g x) (1) (xs) hBT (2 + 5 * u) ut (bS g u) us (by omega) hFu_at_203 (by omega)) (cwV 1 hq (gV ml_K_88 im_B_keep se_B_keep in_B m_B_keep) rfl rfl rfl (by decide +kernel) ⟨Nat.le_of_ble_eq_true rfl, Nat.le_of_ble_eq_true rfl⟩) (pw_preBn hw hM (hBT).bn) rfl rfl hl.1 rfl (lv_room (Nat.le_of_ble_eq_true rfl)) d_K_change_248 ⟨Nat.le_of_ble_eq_true rfl, Nat.le_of_ble_eq_true rfl⟩) (fun r248 F248 H locs q248 hw => ?_)
                        have hkr := hDk.k (fun y9 h9 => hf203 (y9) (by omega)) (show u < 16 by omega) (hBT).1 (hBT).bn q248
                        rw [← hQ]
                        refine W.widen (k := 8) (n := 48) (Nat.le_of_ble_eq_true rfl) (Nat.le_of_ble_eq_true rfl) ?_
                        exact vx_ret (pw_iret hx hb hr hlocks hw (by
                          rw [dPost, o_change_ok ⟨hRto, hRa⟩ (by omega) hd eu ex, c51_4, ch_4]
                          dsimp only
                          rw [s_lay_1 _ _ _ _ (Nat.gcd_one_right _)]
                          rw [sg_flip (s := 0) (t := xs) (show 0 + xs = 1 by omega), ← sg_floor (s := 0) (by omega) hpx, sg_flip (s := xs) (show xs + 0 = 1 by omega), hzx] at hkr
                          exact ⟨rfl, hkr⟩) d_K_change_251)
                      · refine wz_iconst (n := 1) hx hb d_K_change_198 ?_
                        refine lv_goto (tgt := 203) hx hb d_K_change_199 (by decide) ?_
                        refine pw_callv hw (va_runV (As := [.ref (ad (2 + 5 * x)), .int (iI (1))]) (rest := []) ⟨hx, hb, hml, hown, hq⟩ (c_B_round l D ty ad M F H.size hM hBn (2 + 5 * x) xt (bS g x) xs (by omega) hFx (by omega) hsmx1 hsmx2 1 (by omega)) (cwV 2 hq (gV ml_K_111 im_B_round se_B_round in_B m_B_round) rfl rfl rfl (by decide +kernel) ⟨Nat.le_of_ble_eq_true rfl, Nat.le_of_ble_eq_true rfl⟩) (pw_preBn hw hM hBn) rfl rfl hl.1 rfl (lv_room (Nat.le_of_ble_eq_true rfl)) d_K_change_203 ⟨Nat.le_of_ble_eq_true rfl, Nat.le_of_ble_eq_true rfl⟩) (fun F203 H locs q203 hw => ?_)
                        obtain ⟨hBT, hf203⟩ := q203
                        have hK_at_203 : F203 (0) = .inr (5, [.ref (ad (1)), .ref (ad (82)), .ref (ad (96)), .int (iI (pS g))]) := (hf203 (0) (by omega)).trans hK
                        have hOu_at_203 : F203 (2 + 5 * u) = .inr (1, [.ref (ad (2 + 5 * u + 1)), .ref (ad (2 + 5 * u + 3)), .int (iI ((us : Int)))]) := (hf203 (2 + 5 * u) (by omega)).trans hOu
                        have hFu_at_203 : Frc ty ad F203 (2 + 5 * u) ut (bS g u) us := Frc.m5 hFu (hf203 (2 + 5 * u) (by omega)) (hf203 (2 + 5 * u + 1) (by omega)) (hf203 (2 + 5 * u + 2) (by omega)) (hf203 (2 + 5 * u + 3) (by omega)) (hf203 (2 + 5 * u + 4) (by omega))
                        have hOx_at_203 : F203 (2 + 5 * x) = .inr (1, [.ref (ad (2 + 5 * x + 1)), .ref (ad (2 + 5 * x + 3)), .int (iI ((xs : Int)))]) := (hf203 (2 + 5 * x) (by omega)).trans hOx
                        have hFx_at_203 : Frc ty ad F203 (2 + 5 * x) xt (bS g x) xs := Frc.m5 hFx (hf203 (2 + 5 * x) (by omega)) (hf203 (2 + 5 * x + 1) (by omega)) (hf203 (2 + 5 * x + 2) (by omega)) (hf203 (2 + 5 * x + 3) (by omega)) (hf203 (2 + 5 * x + 4) (by omega))
                        refine lv_goto (tgt := 242) hx hb d_K_change_206 (by decide) ?_
                        refine lv_aload_n hx hb d_K_change_242 rfl (lv_at hl 2 rfl) ?_
                        refine pw_get (ci := 5) (C := R_K) (T := T_K) (N := 4) hx hb hq i_K hown hw (by omega) hK_at_203 rfl 1 (by decide) (hq _ fl_K_19) (fun _ h9 => h9) rfl d_K_change_243 ?_
                        refine lv_aload hx hb d_K_change_246 (lv_at hl 1 rfl) ?_
                        refine pw_calli hw (va_runV (As := [.ref (ad (2 + 5 * u))]) (rest := []) ⟨hx, hb, hml, hown, hq⟩ (c_B_keep l D ty ad M F203 H.size hM (if 1 = 1 ∧ xt % bS g x ≠ 0 then xt / bS g x + 1 else xt / bS g x) (1) (xs) hBT (2 + 5 * u) ut (bS g u) us (by omega) hFu_at_203 (by omega)) (cwV 1 hq (gV ml_K_88 im_B_keep se_B_keep in_B m_B_keep) rfl rfl rfl (by decide +kernel) ⟨Nat.le_of_ble_eq_true rfl, Nat.le_of_ble_eq_true rfl⟩) (pw_preBn hw hM (hBT).bn) rfl rfl hl.1 rfl (lv_room (Nat.le_of_ble_eq_true rfl)) d_K_change_248 ⟨Nat.le_of_ble_eq_true rfl, Nat.le_of_ble_eq_true rfl⟩) (fun r248 F248 H locs q248 hw => ?_)
                        have hkr := hDk.k (fun y9 h9 => hf203 (y9) (by omega)) (show u < 16 by omega) (hBT).1 (hBT).bn q248
                        rw [← hQ]
                        refine W.widen (k := 8) (n := 48) (Nat.le_of_ble_eq_true rfl) (Nat.le_of_ble_eq_true rfl) ?_
                        exact vx_ret (pw_iret hx hb hr hlocks hw (by
                          rw [dPost, o_change_ok ⟨hRto, hRa⟩ (by omega) hd eu ex, c51_4, ch_4]
                          dsimp only
                          rw [s_lay_1 _ _ _ _ (Nat.gcd_one_right _)]
                          rw [sg_flip (s := 1) (t := xs) (show 1 + xs = 1 by omega), ← sg_floor (s := 1) (by omega) hpx, sg_flip (s := xs) (show xs + 1 = 1 by omega), hzx] at hkr
                          exact ⟨rfl, hkr⟩) d_K_change_251)
                    · skip
                      by_cases c51_5 : kd = 5
                      · refine wz_tabIn (k := 5) (off := 158) (tgt := 209) hx hb d_K_change_51 c51_5 (by omega) (by omega) (by decide) rfl (by decide) ?_
                        refine lv_aload_n hx hb d_K_change_209 rfl (lv_at hl 2 rfl) ?_
                        refine pw_get (ci := 5) (C := R_K) (T := T_K) (N := 4) hx hb hq i_K hown hw (by omega) hK rfl 1 (by decide) (hq _ fl_K_19) (fun _ h9 => h9) rfl d_K_change_210 ?_
                        refine lv_aload hx hb d_K_change_213 (lv_at hl 0 rfl) ?_
                        refine pw_get (ci := 1) (C := R_F) (T := T_F) (N := 3) hx hb hq i_F hown hw (by omega) hOx rfl 0 (by decide) (hq _ fl_K_100) (fun _ h9 => h9) rfl d_K_change_215 ?_
                        refine lv_aload hx hb d_K_change_218 (lv_at hl 0 rfl) ?_
                        refine pw_get (ci := 1) (C := R_F) (T := T_F) (N := 3) hx hb hq i_F hown hw (by omega) hOx rfl 2 (by decide) (hq _ fl_K_65) (fun _ h9 => h9) rfl d_K_change_220 ?_
                        obtain ⟨⟨bb9, -, hB9⟩, hw83, hw85, -⟩ := id hBn
                        refine pw_callv hw (va_runV (As := [.ref (ad (2 + 5 * x + 1)), .int (iI ((xs : Int)))]) (rest := []) ⟨hx, hb, hml, hown, hq⟩ (c_B_takeWhole l D ty ad M F H.size hM (2 + 5 * x + 1) 67 (xt) xs bb9 hsx (by omega) (by omega) (by omega) hsmx1.f136 hB9 hw83 hw85 (hFx).2.2.1) (cwV 2 hq (gV ml_K_115 im_B_takeWhole se_B_takeWhole in_B m_B_takeWhole) rfl rfl rfl (by decide +kernel) ⟨Nat.le_of_ble_eq_true rfl, Nat.le_of_ble_eq_true rfl⟩) (pw_preBn hw hM hBn) rfl rfl hl.1 rfl (lv_room (Nat.le_of_ble_eq_true rfl)) d_K_change_223 ⟨Nat.le_of_ble_eq_true rfl, Nat.le_of_ble_eq_true rfl⟩) (fun F223 H locs q223 hw => ?_)
                        have hBT := BnT.of_take hBn hsx q223
                        have hf223 : ∀ y, y < 82 ∨ 86 < y → F223 y = F y := q223.2.2.2
                        have hK_at_223 : F223 (0) = .inr (5, [.ref (ad (1)), .ref (ad (82)), .ref (ad (96)), .int (iI (pS g))]) := (hf223 (0) (by omega)).trans hK
                        have hOu_at_223 : F223 (2 + 5 * u) = .inr (1, [.ref (ad (2 + 5 * u + 1)), .ref (ad (2 + 5 * u + 3)), .int (iI ((us : Int)))]) := (hf223 (2 + 5 * u) (by omega)).trans hOu
                        have hFu_at_223 : Frc ty ad F223 (2 + 5 * u) ut (bS g u) us := Frc.m5 hFu (hf223 (2 + 5 * u) (by omega)) (hf223 (2 + 5 * u + 1) (by omega)) (hf223 (2 + 5 * u + 2) (by omega)) (hf223 (2 + 5 * u + 3) (by omega)) (hf223 (2 + 5 * u + 4) (by omega))
                        have hOx_at_223 : F223 (2 + 5 * x) = .inr (1, [.ref (ad (2 + 5 * x + 1)), .ref (ad (2 + 5 * x + 3)), .int (iI ((xs : Int)))]) := (hf223 (2 + 5 * x) (by omega)).trans hOx
                        have hFx_at_223 : Frc ty ad F223 (2 + 5 * x) xt (bS g x) xs := Frc.m5 hFx (hf223 (2 + 5 * x) (by omega)) (hf223 (2 + 5 * x + 1) (by omega)) (hf223 (2 + 5 * x + 2) (by omega)) (hf223 (2 + 5 * x + 3) (by omega)) (hf223 (2 + 5 * x + 4) (by omega))
                        refine lv_goto (tgt := 242) hx hb d_K_change_226 (by decide) ?_
                        refine lv_aload_n hx hb d_K_change_242 rfl (lv_at hl 2 rfl) ?_
                        refine pw_get (ci := 5) (C := R_K) (T := T_K) (N := 4) hx hb hq i_K hown hw (by omega) hK_at_223 rfl 1 (by decide) (hq _ fl_K_19) (fun _ h9 => h9) rfl d_K_change_243 ?_
                        refine lv_aload hx hb d_K_change_246 (lv_at hl 1 rfl) ?_
                        refine pw_calli hw (va_runV (As := [.ref (ad (2 + 5 * u))]) (rest := []) ⟨hx, hb, hml, hown, hq⟩ (c_B_keep l D ty ad M F223 H.size hM (xt) (1) (xs) hBT (2 + 5 * u) ut (bS g u) us (by omega) hFu_at_223 (by omega)) (cwV 1 hq (gV ml_K_88 im_B_keep se_B_keep in_B m_B_keep) rfl rfl rfl (by decide +kernel) ⟨Nat.le_of_ble_eq_true rfl, Nat.le_of_ble_eq_true rfl⟩) (pw_preBn hw hM (hBT).bn) rfl rfl hl.1 rfl (lv_room (Nat.le_of_ble_eq_true rfl)) d_K_change_248 ⟨Nat.le_of_ble_eq_true rfl, Nat.le_of_ble_eq_true rfl⟩) (fun r248 F248 H locs q248 hw => ?_)
                        have hkr := hDk.k (fun y9 h9 => hf223 (y9) (by omega)) (show u < 16 by omega) (hBT).1 (hBT).bn q248
                        rw [← hQ]
                        refine W.widen (k := 8) (n := 48) (Nat.le_of_ble_eq_true rfl) (Nat.le_of_ble_eq_true rfl) ?_
                        exact vx_ret (pw_iret hx hb hr hlocks hw (by
                          rw [dPost, o_change_ok ⟨hRto, hRa⟩ (by omega) hd eu ex, c51_5, ch_5]
                          dsimp only
                          rw [s_lay_1 _ _ _ _ (Nat.gcd_one_right _)]
                          rw [hzx] at hkr
                          exact ⟨rfl, hkr⟩) d_K_change_251)
                      · skip
                        refine wz_tabOut (tgt := 229) hx hb d_K_change_51 (by omega) (by omega) (by omega) (by decide) ?_
                        refine lv_aload_n hx hb d_K_change_229 rfl (lv_at hl 2 rfl) ?_
                        refine pw_get (ci := 5) (C := R_K) (T := T_K) (N := 4) hx hb hq i_K hown hw (by omega) hK rfl 1 (by decide) (hq _ fl_K_19) (fun _ h9 => h9) rfl d_K_change_230 ?_
                        refine lv_aload hx hb d_K_change_233 (lv_at hl 0 rfl) ?_
                        refine pw_get (ci := 1) (C := R_F) (T := T_F) (N := 3) hx hb hq i_F hown hw (by omega) hOx rfl 1 (by decide) (hq _ fl_K_104) (fun _ h9 => h9) rfl d_K_change_235 ?_
                        refine wz_iconst (n := 0) hx hb d_K_change_238 ?_
                        obtain ⟨⟨bb9, -, hB9⟩, hw83, hw85, -⟩ := id hBn
                        refine pw_callv hw (va_runV (As := [.ref (ad (2 + 5 * x + 3)), .int (iI (0))]) (rest := []) ⟨hx, hb, hml, hown, hq⟩ (c_B_takeWhole l D ty ad M F H.size hM (2 + 5 * x + 3) 67 (bS g x) 0 bb9 (by omega) (by omega) (by omega) (by omega) hsmx2.f136 hB9 hw83 hw85 (hFx).2.2.2) (cwV 2 hq (gV ml_K_115 im_B_takeWhole se_B_takeWhole in_B m_B_takeWhole) rfl rfl rfl (by decide +kernel) ⟨Nat.le_of_ble_eq_true rfl, Nat.le_of_ble_eq_true rfl⟩) (pw_preBn hw hM hBn) rfl rfl hl.1 rfl (lv_room (Nat.le_of_ble_eq_true rfl)) d_K_change_239 ⟨Nat.le_of_ble_eq_true rfl, Nat.le_of_ble_eq_true rfl⟩) (fun F239 H locs q239 hw => ?_)
                        have hBT := BnT.of_take hBn (by omega) q239
                        have hf239 : ∀ y, y < 82 ∨ 86 < y → F239 y = F y := q239.2.2.2
                        have hK_at_239 : F239 (0) = .inr (5, [.ref (ad (1)), .ref (ad (82)), .ref (ad (96)), .int (iI (pS g))]) := (hf239 (0) (by omega)).trans hK
                        have hOu_at_239 : F239 (2 + 5 * u) = .inr (1, [.ref (ad (2 + 5 * u + 1)), .ref (ad (2 + 5 * u + 3)), .int (iI ((us : Int)))]) := (hf239 (2 + 5 * u) (by omega)).trans hOu
                        have hFu_at_239 : Frc ty ad F239 (2 + 5 * u) ut (bS g u) us := Frc.m5 hFu (hf239 (2 + 5 * u) (by omega)) (hf239 (2 + 5 * u + 1) (by omega)) (hf239 (2 + 5 * u + 2) (by omega)) (hf239 (2 + 5 * u + 3) (by omega)) (hf239 (2 + 5 * u + 4) (by omega))
                        have hOx_at_239 : F239 (2 + 5 * x) = .inr (1, [.ref (ad (2 + 5 * x + 1)), .ref (ad (2 + 5 * x + 3)), .int (iI ((xs : Int)))]) := (hf239 (2 + 5 * x) (by omega)).trans hOx
                        have hFx_at_239 : Frc ty ad F239 (2 + 5 * x) xt (bS g x) xs := Frc.m5 hFx (hf239 (2 + 5 * x) (by omega)) (hf239 (2 + 5 * x + 1) (by omega)) (hf239 (2 + 5 * x + 2) (by omega)) (hf239 (2 + 5 * x + 3) (by omega)) (hf239 (2 + 5 * x + 4) (by omega))
                        refine lv_aload_n hx hb d_K_change_242 rfl (lv_at hl 2 rfl) ?_
                        refine pw_get (ci := 5) (C := R_K) (T := T_K) (N := 4) hx hb hq i_K hown hw (by omega) hK_at_239 rfl 1 (by decide) (hq _ fl_K_19) (fun _ h9 => h9) rfl d_K_change_243 ?_
                        refine lv_aload hx hb d_K_change_246 (lv_at hl 1 rfl) ?_
                        refine pw_calli hw (va_runV (As := [.ref (ad (2 + 5 * u))]) (rest := []) ⟨hx, hb, hml, hown, hq⟩ (c_B_keep l D ty ad M F239 H.size hM (bS g x) (1) (0) hBT (2 + 5 * u) ut (bS g u) us (by omega) hFu_at_239 (by omega)) (cwV 1 hq (gV ml_K_88 im_B_keep se_B_keep in_B m_B_keep) rfl rfl rfl (by decide +kernel) ⟨Nat.le_of_ble_eq_true rfl, Nat.le_of_ble_eq_true rfl⟩) (pw_preBn hw hM (hBT).bn) rfl rfl hl.1 rfl (lv_room (Nat.le_of_ble_eq_true rfl)) d_K_change_248 ⟨Nat.le_of_ble_eq_true rfl, Nat.le_of_ble_eq_true rfl⟩) (fun r248 F248 H locs q248 hw => ?_)
                        have hkr := hDk.k (fun y9 h9 => hf239 (y9) (by omega)) (show u < 16 by omega) (hBT).1 (hBT).bn q248
                        rw [← hQ]
                        refine W.widen (k := 8) (n := 48) (Nat.le_of_ble_eq_true rfl) (Nat.le_of_ble_eq_true rfl) ?_
                        exact vx_ret (pw_iret hx hb hr hlocks hw (by
                          rw [dPost, o_change_ok ⟨hRto, hRa⟩ (by omega) hd eu ex, show kd = 6 by omega, ch_6]
                          dsimp only
                          rw [s_lay_1 _ _ _ _ (Nat.gcd_one_right _)]
                          rw [sg_0] at hkr
                          exact ⟨rfl, hkr⟩) d_K_change_251)
          · refine wz_bipush (n := -2) hx hb d_K_change_47 (by decide) ?_
            rw [← hQ]
            refine W.widen (k := 8) (n := 48) (Nat.le_of_ble_eq_true rfl) (Nat.le_of_ble_eq_true rfl) ?_
            exact vx_ret (pw_iret hx hb hr hlocks hw (by
              rw [dPost, o_change, cif_pos ⟨⟨hRto, hRa⟩, by omega⟩, cif_pos ⟨by omega, by rw [show a.toNat = x from ex.symm, ← hzx]; exact (sgn_z hsx).mp c44⟩]
              exact ⟨rfl, rfl, hDk, fun _ _ => rfl⟩) d_K_change_49)
      · rw [← hQ]
        exact px_throwA (is := 53) (text := "no such kind") hx hb hl0 hown hq hxk (by decide) hw (hl.1.trans hml.symm) d_K_change_24 d_K_change_27 d_K_change_28 d_K_change_30 d_K_change_33 hex (Nat.le_of_ble_eq_true rfl) (Nat.le_of_ble_eq_true rfl) (Nat.le_of_ble_eq_true rfl) (Nat.le_of_ble_eq_true rfl) hlocks (by
          rw [dPx, o_change, cif_neg (fun h9 => by have := h9.2; omega)]
          exact ⟨Or.inl ⟨rfl, rfl⟩, hDk, fun _ _ => rfl⟩) (Nat.le_of_ble_eq_true rfl) (Nat.le_of_ble_eq_true rfl)
  rw [hH, hlo] at hgo
  exact hgo
set_option maxHeartbeats 4000000 in
set_option maxRecDepth 100000 in
/-- power(to, a, n) -/
theorem c_K_power (l : Launch) (D : va_G) (ty : Nat → ClassId) (ad : Nat → Nat) (M : Nat) (F : Nat → va_E) (sz : Nat) (hl0 : l.stackTraces = false) (hM : 97 < M) (g : Sg) (hDk : Dk ty ad F g) (hok : okS g) (to : Int) (hto : -2147483648 ≤ to ∧ to < 2147483648) (a : Int) (ha : -2147483648 ≤ a ∧ a < 2147483648) (n : Int) (hn : -2147483648 ≤ n ∧ n < 2147483648) :
    XI l y_K_power w_K_power ({ frames := 7, cells := 8, slots := 48, locals := 151 } : Room) [.ref (ad (0)), .int (iI (to)), .int (iI (a)), .int (iI (n))] D ty ad M F sz 8 48 (dPost ty ad F (o_power g to a n)) (dPx ty ad F (o_power g to a n)) := by
  refine vx_ofW (cc := b_K_power) (maxL := 6) (ret := (some .int)) (by decide) rfl ?_
  intro p e s m args below meth c s₁ B hml hex hv
  obtain ⟨rfl, ⟨hsz, hP, hK, hD0⟩, hxk⟩ := hv
  have hx := B.exec
  have hb := B.bytes
  have hr := B.returns
  have hts := atoms_spec (ws := w_K_power) B.pre
  have hq : ∀ w ∈ wT, w.before _ s = true := fun w h => hts w (List.mem_cons_of_mem _ h)
  have hown : s.vm.findClass R_K = some m.cls := findClass_of_methodNamed B.named
  have hlocks := B.notSynchronized
  subst hsz
  have hw := pw_start hP hK hD0
  have hl := lv_entry ([.ref (ad (0)), .int (iI (to)), .int (iI (a)), .int (iI (n))]) (n := 6) (Nat.le_of_ble_eq_true rfl)
  rw [lg_entry_eq]
  generalize (lg_sl ([.ref (ad (0)), .int (iI (to)), .int (iI (a)), .int (iI (n))]) ++ List.replicate (6 - (lg_sl ([.ref (ad (0)), .int (iI (to)), .int (iI (a)), .int (iI (n))])).length) Slot.unset).toArray = ls at hl ⊢
  have hl : lv_has ls 6 [(0, .ref (ad (0))), (1, .int (iI (to))), (2, .int (iI (a))), (3, .int (iI (n)))] := hl
  change W p l e ({ frames := 7, cells := 8, slots := 48, locals := 151 } : Room) s m ([.ref (ad (0)), .int (iI (to)), .int (iI (a)), .int (iI (n))]).toArray below meth c s.heap [] 0 0 (vx_MQ below (va_Qi (dPost ty ad F (o_power g to a n)) (pAt D classes (tysL ty) ad M (pA ad M s.heap.size)) (pA ad M s.heap.size)) (xX D ty ad M s.heap.size (dPx ty ad F (o_power g to a n))) ([.ref (ad (0)), .int (iI (to)), .int (iI (a)), .int (iI (n))]).toArray s 8 48 (pA ad M s.heap.size)) (F0 m 0 ls [])
  generalize hQ : vx_MQ below (va_Qi (dPost ty ad F (o_power g to a n)) (pAt D classes (tysL ty) ad M (pA ad M s.heap.size)) (pA ad M s.heap.size)) (xX D ty ad M s.heap.size (dPx ty ad F (o_power g to a n))) ([.ref (ad (0)), .int (iI (to)), .int (iI (a)), .int (iI (n))]).toArray s 8 48 (pA ad M s.heap.size) = Q
  obtain ⟨H, hH⟩ : ∃ H, H = s.heap := ⟨_, rfl⟩
  obtain ⟨locs, hlo⟩ : ∃ z : List Loc, z = [] := ⟨_, rfl⟩
  have hw : pw D classes (tysL ty) ad M F (pA ad M s.heap.size) s H locs := by rw [hH, hlo]; exact hw
  have hgo : W p l e ({ frames := 7, cells := 8, slots := 48, locals := 151 } : Room) s m ([.ref (ad (0)), .int (iI (to)), .int (iI (a)), .int (iI (n))]).toArray below meth c H locs 0 0 Q (F0 m 0 ls []) := by
    obtain ⟨hK, hRg, hBn, hTx⟩ := id hDk
    obtain ⟨⟨q0, hR1, hq0⟩, hRf⟩ := id hRg
    refine lv_aload_n hx hb d_K_power_0 rfl (lv_at hl 0 rfl) ?_
    refine lv_iload_n hx hb d_K_power_1 rfl (lv_at hl 1 rfl) ?_
    refine px_callr hw (vx_runV (As := [.int (iI (to))]) (rest := []) ⟨hx, hb, hml, hown, hq⟩ (c_K_register l D ty ad M F H.size hl0 hM g hDk hok to hto) (cwV 1 hq (gV ml_K_34 im_K_register se_K_register in_K m_K_register) rfl rfl rfl (by decide +kernel) ⟨Nat.le_of_ble_eq_true rfl, Nat.le_of_ble_eq_true rfl⟩) (px_preV hw hxk (by omega) hK rfl) rfl rfl hl.1 rfl (lv_room (Nat.le_of_ble_eq_true rfl)) d_K_power_2 ⟨Nat.le_of_ble_eq_true rfl, Nat.le_of_ble_eq_true rfl⟩) ?_ ?_
    · intro E9 ce9 q9 F9 H9 l9 hp9 hw9 h1 h2 h3
      rw [← hQ]
      refine px_out hex hlocks hw9 h1 h2 h3 ?_ (Nat.le_of_ble_eq_true rfl) (Nat.le_of_ble_eq_true rfl)
      exact by
        obtain ⟨h7, h8, h6⟩ := hp9
        dsimp only at h8 h6
        subst h8; subst h6
        rw [dPx, o_power, cif_neg (fun h9 => h7 (h9.1.1))]
        exact ⟨Or.inl ⟨rfl, rfl⟩, hDk, fun _ _ => rfl⟩
    intro r2 F2 H locs q2 hw
    obtain ⟨hRto, er2, eF2⟩ := q2
    dsimp only at er2 eF2
    rw [eF2] at hw
    clear eF2
    obtain ⟨u, eu⟩ : ∃ z : Nat, z = rN to := ⟨_, rfl⟩
    rw [show to.toNat = u from eu.symm] at er2
    subst er2
    have hu16 : u < 16 := by rw [eu]; exact rN_lt hRto
    have hoku := hok.at hu16
    obtain ⟨us, eus⟩ : ∃ z : Nat, z = sB (zS g u) := ⟨_, rfl⟩
    obtain ⟨ut, eut⟩ : ∃ z : Nat, z = ab (zS g u) := ⟨_, rfl⟩
    have hFu : Frc ty ad F (2 + 5 * u) ut (bS g u) us := by rw [eus, eut]; exact hRf u hu16
    have hzu : sg us ut = zS g u := by rw [eus, eut]; exact sg_self _
    have hsu : us ≤ 1 := by rw [eus]; exact sB_le _
    obtain ⟨hsmu1, hsmu2, hpu, hgu⟩ := hoku
    rw [show (zS g u).natAbs = ut from eut.symm] at hsmu1 hgu
    have hOu := hFu.2.1
    refine lv_astore (lv' := [(4, .ref (ad (2 + 5 * u))), (0, .ref (ad (0))), (1, .int (iI (to))), (2, .int (iI (a))), (3, .int (iI (n)))]) hx hb d_K_power_5 hl (by decide) rfl (fun ls hl => ?_)
    refine lv_aload_n hx hb d_K_power_7 rfl (lv_at hl 1 rfl) ?_
    refine lv_iload_n hx hb d_K_power_8 rfl (lv_at hl 3 rfl) ?_
    refine px_callr hw (vx_runV (As := [.int (iI (a))]) (rest := []) ⟨hx, hb, hml, hown, hq⟩ (c_K_register l D ty ad M F H.size hl0 hM g hDk hok a ha) (cwV 1 hq (gV ml_K_34 im_K_register se_K_register in_K m_K_register) rfl rfl rfl (by decide +kernel) ⟨Nat.le_of_ble_eq_true rfl, Nat.le_of_ble_eq_true rfl⟩) (px_preV hw hxk (by omega) hK rfl) rfl rfl hl.1 rfl (lv_room (Nat.le_of_ble_eq_true rfl)) d_K_power_9 ⟨Nat.le_of_ble_eq_true rfl, Nat.le_of_ble_eq_true rfl⟩) ?_ ?_
    · intro E9 ce9 q9 F9 H9 l9 hp9 hw9 h1 h2 h3
      rw [← hQ]
      refine px_out hex hlocks hw9 h1 h2 h3 ?_ (Nat.le_of_ble_eq_true rfl) (Nat.le_of_ble_eq_true rfl)
      exact by
        obtain ⟨h7, h8, h6⟩ := hp9
        dsimp only at h8 h6
        subst h8; subst h6
        rw [dPx, o_power, cif_neg (fun h9 => h7 (h9.1.2))]
        exact ⟨Or.inl ⟨rfl, rfl⟩, hDk, fun _ _ => rfl⟩
    intro r9 F9 H locs q9 hw
    obtain ⟨hRa, er9, eF9⟩ := q9
    dsimp only at er9 eF9
    rw [eF9] at hw
    clear eF9
    obtain ⟨x, ex⟩ : ∃ z : Nat, z = rN a := ⟨_, rfl⟩
    rw [show a.toNat = x from ex.symm] at er9
    subst er9
    have hx16 : x < 16 := by rw [ex]; exact rN_lt hRa
    have hokx := hok.at hx16
    obtain ⟨xs, exs⟩ : ∃ z : Nat, z = sB (zS g x) := ⟨_, rfl⟩
    obtain ⟨xt, ext⟩ : ∃ z : Nat, z = ab (zS g x) := ⟨_, rfl⟩
    have hFx : Frc ty ad F (2 + 5 * x) xt (bS g x) xs := by rw [exs, ext]; exact hRf x hx16
    have hzx : sg xs xt = zS g x := by rw [exs, ext]; exact sg_self _
    have hsx : xs ≤ 1 := by rw [exs]; exact sB_le _
    obtain ⟨hsmx1, hsmx2, hpx, hgx⟩ := hokx
    rw [show (zS g x).natAbs = xt from ext.symm] at hsmx1 hgx
    have hOx := hFx.2.1
    refine lv_astore (lv' := [(5, .ref (ad (2 + 5 * x))), (4, .ref (ad (2 + 5 * u))), (0, .ref (ad (0))), (1, .int (iI (to))), (2, .int (iI (a))), (3, .int (iI (n)))]) hx hb d_K_power_12 hl (by decide) rfl (fun ls hl => ?_)
    refine lv_iload_n hx hb d_K_power_14 rfl (lv_at hl 5 rfl) ?_
    refine wz_sipush (n := -2048) hx hb d_K_power_15 (by decide) ?_
    refine wz_icmp_lt (tgt := 28) hx hb d_K_power_18 (by decide) (by omega) (by omega) (by omega) (by omega) (fun c18 => ?_) (fun c18 => ?_)
    · rw [← hQ]
      exact px_throwA (is := 119) (text := "no such power") hx hb hl0 hown hq hxk (by decide) hw (hl.1.trans hml.symm) d_K_power_28 d_K_power_31 d_K_power_32 d_K_power_34 d_K_power_37 hex (Nat.le_of_ble_eq_true rfl) (Nat.le_of_ble_eq_true rfl) (Nat.le_of_ble_eq_true rfl) (Nat.le_of_ble_eq_true rfl) hlocks (by
        rw [dPx, o_power, cif_neg (fun h9 => by have := h9.2; omega)]
        exact ⟨Or.inl ⟨rfl, rfl⟩, hDk, fun _ _ => rfl⟩) (Nat.le_of_ble_eq_true rfl) (Nat.le_of_ble_eq_true rfl)
    · refine lv_iload_n hx hb d_K_power_21 rfl (lv_at hl 5 rfl) ?_
      refine wz_sipush (n := 2048) hx hb d_K_power_22 (by decide) ?_
      refine wz_icmp_le (tgt := 38) hx hb d_K_power_25 (by decide) (by omega) (by omega) (by omega) (by omega) (fun c25 => ?_) (fun c25 => ?_)
      · refine lv_iload_n hx hb d_K_power_38 rfl (lv_at hl 5 rfl) ?_
        refine wz_if_ge (tgt := 53) hx hb d_K_power_39 (by decide) (by omega) (by omega) (fun c39 => ?_) (fun c39 => ?_)
        · have hd : ¬ (n < 0 ∧ zS g x = 0) := fun h9 => absurd h9.1 (by omega)
          refine lv_aload_n hx hb d_K_power_53 rfl (lv_at hl 2 rfl) ?_
          refine pw_get (ci := 5) (C := R_K) (T := T_K) (N := 4) hx hb hq i_K hown hw (by omega) hK rfl 1 (by decide) (hq _ fl_K_19) (fun _ h9 => h9) rfl d_K_power_54 ?_
          refine lv_aload hx hb d_K_power_57 (lv_at hl 0 rfl) ?_
          refine lv_iload_n hx hb d_K_power_59 rfl (lv_at hl 5 rfl) ?_
          refine pw_callv hw (va_runV (As := [.ref (ad (2 + 5 * x)), .int (iI (n))]) (rest := []) ⟨hx, hb, hml, hown, hq⟩ (c_B_raise l D ty ad M F H.size hM hBn (2 + 5 * x) xt (bS g x) xs (by omega) hFx (by omega) hsmx1 hsmx2 n (by omega)) (cwV 2 hq (gV ml_K_121 im_B_raise se_B_raise in_B m_B_raise) rfl rfl rfl (by decide +kernel) ⟨Nat.le_of_ble_eq_true rfl, Nat.le_of_ble_eq_true rfl⟩) (pw_preBn hw hM hBn) rfl rfl hl.1 rfl (lv_room (Nat.le_of_ble_eq_true rfl)) d_K_power_60 ⟨Nat.le_of_ble_eq_true rfl, Nat.le_of_ble_eq_true rfl⟩) (fun F60 H locs q60 hw => ?_)
          obtain ⟨⟨tq, bq, hBT, ⟨hq1, hq2⟩, hq3, hq4⟩, hf60⟩ := q60
          have hK_at_60 : F60 (0) = .inr (5, [.ref (ad (1)), .ref (ad (82)), .ref (ad (96)), .int (iI (pS g))]) := (hf60 (0) (by omega)).trans hK
          have hOu_at_60 : F60 (2 + 5 * u) = .inr (1, [.ref (ad (2 + 5 * u + 1)), .ref (ad (2 + 5 * u + 3)), .int (iI ((us : Int)))]) := (hf60 (2 + 5 * u) (by omega)).trans hOu
          have hFu_at_60 : Frc ty ad F60 (2 + 5 * u) ut (bS g u) us := Frc.m5 hFu (hf60 (2 + 5 * u) (by omega)) (hf60 (2 + 5 * u + 1) (by omega)) (hf60 (2 + 5 * u + 2) (by omega)) (hf60 (2 + 5 * u + 3) (by omega)) (hf60 (2 + 5 * u + 4) (by omega))
          have hOx_at_60 : F60 (2 + 5 * x) = .inr (1, [.ref (ad (2 + 5 * x + 1)), .ref (ad (2 + 5 * x + 3)), .int (iI ((xs : Int)))]) := (hf60 (2 + 5 * x) (by omega)).trans hOx
          have hFx_at_60 : Frc ty ad F60 (2 + 5 * x) xt (bS g x) xs := Frc.m5 hFx (hf60 (2 + 5 * x) (by omega)) (hf60 (2 + 5 * x + 1) (by omega)) (hf60 (2 + 5 * x + 2) (by omega)) (hf60 (2 + 5 * x + 3) (by omega)) (hf60 (2 + 5 * x + 4) (by omega))
          refine lv_aload_n hx hb d_K_power_63 rfl (lv_at hl 2 rfl) ?_
          refine pw_get (ci := 5) (C := R_K) (T := T_K) (N := 4) hx hb hq i_K hown hw (by omega) hK_at_60 rfl 1 (by decide) (hq _ fl_K_19) (fun _ h9 => h9) rfl d_K_power_64 ?_
          refine lv_aload hx hb d_K_power_67 (lv_at hl 1 rfl) ?_
          refine pw_calli hw (va_runV (As := [.ref (ad (2 + 5 * u))]) (rest := []) ⟨hx, hb, hml, hown, hq⟩ (c_B_keep l D ty ad M F60 H.size hM (tq) (bq) (if xs = 1 ∧ n.natAbs % 2 = 1 then 1 else 0) hBT (2 + 5 * u) ut (bS g u) us (by omega) hFu_at_60 (by omega)) (cwV 1 hq (gV ml_K_88 im_B_keep se_B_keep in_B m_B_keep) rfl rfl rfl (by decide +kernel) ⟨Nat.le_of_ble_eq_true rfl, Nat.le_of_ble_eq_true rfl⟩) (pw_preBn hw hM (hBT).bn) rfl rfl hl.1 rfl (lv_room (Nat.le_of_ble_eq_true rfl)) d_K_power_69 ⟨Nat.le_of_ble_eq_true rfl, Nat.le_of_ble_eq_true rfl⟩) (fun r69 F69 H locs q69 hw => ?_)
          have hkr := hDk.k (fun y9 h9 => hf60 (y9) (by omega)) (show u < 16 by omega) (hBT).1 (hBT).bn q69
          rw [← hQ]
          refine W.widen (k := 8) (n := 48) (Nat.le_of_ble_eq_true rfl) (Nat.le_of_ble_eq_true rfl) ?_
          exact vx_ret (pw_iret hx hb hr hlocks hw (by
            rw [dPost, o_power_ok ⟨hRto, hRa⟩ (by omega) hd eu ex]
            rw [s_keep_eq hq1 hq2 hq3 hq4] at hkr
            rw [pw_lay hsx (sB_1 exs) hzx (by rw [ext]; rfl) hgx]
            exact ⟨rfl, hkr⟩) d_K_power_72)
        · refine lv_aload hx hb d_K_power_42 (lv_at hl 0 rfl) ?_
          refine pw_calli hw (va_runV (As := []) (rest := []) ⟨hx, hb, hml, hown, hq⟩ (c_F_signum l D ty ad M F H.size (2 + 5 * x) xt (bS g x) xs (by omega) hFx) (cwV 0 hq (gV ml_K_61 im_F_signum se_F_signum in_F m_F_signum) rfl rfl rfl (by decide +kernel) ⟨Nat.le_of_ble_eq_true rfl, Nat.le_of_ble_eq_true rfl⟩) (pw_preV hw (by omega) hOx rfl) rfl rfl hl.1 rfl (lv_room (Nat.le_of_ble_eq_true rfl)) d_K_power_44 ⟨Nat.le_of_ble_eq_true rfl, Nat.le_of_ble_eq_true rfl⟩) (fun r44 F44 H locs q44 hw => ?_)
          obtain ⟨er44, eF44⟩ := q44
          rw [eF44] at hw
          clear eF44
          subst er44
          have hsb := sgn_b xs xt
          refine wz_if_ne (tgt := 53) hx hb d_K_power_47 (by decide) (by omega) (by omega) (fun c47 => ?_) (fun c47 => ?_)
          · have hd : ¬ (n < 0 ∧ zS g x = 0) := fun h9 => c47 ((sgn_z hsx).mpr (by rw [hzx]; exact h9.2))
            refine lv_aload_n hx hb d_K_power_53 rfl (lv_at hl 2 rfl) ?_
            refine pw_get (ci := 5) (C := R_K) (T := T_K) (N := 4) hx hb hq i_K hown hw (by omega) hK rfl 1 (by decide) (hq _ fl_K_19) (fun _ h9 => h9) rfl d_K_power_54 ?_
            refine lv_aload hx hb d_K_power_57 (lv_at hl 0 rfl) ?_
            refine lv_iload_n hx hb d_K_power_59 rfl (lv_at hl 5 rfl) ?_
            refine pw_callv hw (va_runV (As := [.ref (ad (2 + 5 * x)), .int (iI (n))]) (rest := []) ⟨hx, hb, hml, hown, hq⟩ (c_B_raise l D ty ad M F H.size hM hBn (2 + 5 * x) xt (bS g x) xs (by omega) hFx (by omega) hsmx1 hsmx2 n (by omega)) (cwV 2 hq (gV ml_K_121 im_B_raise se_B_raise in_B m_B_raise) rfl rfl rfl (by decide +kernel) ⟨Nat.le_of_ble_eq_true rfl, Nat.le_of_ble_eq_true rfl⟩) (pw_preBn hw hM hBn) rfl rfl hl.1 rfl (lv_room (Nat.le_of_ble_eq_true rfl)) d_K_power_60 ⟨Nat.le_of_ble_eq_true rfl, Nat.le_of_ble_eq_true rfl⟩) (fun F60 H locs q60 hw => ?_)
            obtain ⟨⟨tq, bq, hBT, ⟨hq1, hq2⟩, hq3, hq4⟩, hf60⟩ := q60
            have hK_at_60 : F60 (0) = .inr (5, [.ref (ad (1)), .ref (ad (82)), .ref (ad (96)), .int (iI (pS g))]) := (hf60 (0) (by omega)).trans hK
            have hOu_at_60 : F60 (2 + 5 * u) = .inr (1, [.ref (ad (2 + 5 * u + 1)), .ref (ad (2 + 5 * u + 3)), .int (iI ((us : Int)))]) := (hf60 (2 + 5 * u) (by omega)).trans hOu
            have hFu_at_60 : Frc ty ad F60 (2 + 5 * u) ut (bS g u) us := Frc.m5 hFu (hf60 (2 + 5 * u) (by omega)) (hf60 (2 + 5 * u + 1) (by omega)) (hf60 (2 + 5 * u + 2) (by omega)) (hf60 (2 + 5 * u + 3) (by omega)) (hf60 (2 + 5 * u + 4) (by omega))
            have hOx_at_60 : F60 (2 + 5 * x) = .inr (1, [.ref (ad (2 + 5 * x + 1)), .ref (ad (2 + 5 * x + 3)), .int (iI ((xs : Int)))]) := (hf60 (2 + 5 * x) (by omega)).trans hOx
            have hFx_at_60 : Frc ty ad F60 (2 + 5 * x) xt (bS g x) xs := Frc.m5 hFx (hf60 (2 + 5 * x) (by omega)) (hf60 (2 + 5 * x + 1) (by omega)) (hf60 (2 + 5 * x + 2) (by omega)) (hf60 (2 + 5 * x + 3) (by omega)) (hf60 (2 + 5 * x + 4) (by omega))
            refine lv_aload_n hx hb d_K_power_63 rfl (lv_at hl 2 rfl) ?_
            refine pw_get (ci := 5) (C := R_K) (T := T_K) (N := 4) hx hb hq i_K hown hw (by omega) hK_at_60 rfl 1 (by decide) (hq _ fl_K_19) (fun _ h9 => h9) rfl d_K_power_64 ?_
            refine lv_aload hx hb d_K_power_67 (lv_at hl 1 rfl) ?_
            refine pw_calli hw (va_runV (As := [.ref (ad (2 + 5 * u))]) (rest := []) ⟨hx, hb, hml, hown, hq⟩ (c_B_keep l D ty ad M F60 H.size hM (tq) (bq) (if xs = 1 ∧ n.natAbs % 2 = 1 then 1 else 0) hBT (2 + 5 * u) ut (bS g u) us (by omega) hFu_at_60 (by omega)) (cwV 1 hq (gV ml_K_88 im_B_keep se_B_keep in_B m_B_keep) rfl rfl rfl (by decide +kernel) ⟨Nat.le_of_ble_eq_true rfl, Nat.le_of_ble_eq_true rfl⟩) (pw_preBn hw hM (hBT).bn) rfl rfl hl.1 rfl (lv_room (Nat.le_of_ble_eq_true rfl)) d_K_power_69 ⟨Nat.le_of_ble_eq_true rfl, Nat.le_of_ble_eq_true rfl⟩) (fun r69 F69 H locs q69 hw => ?_)
            have hkr := hDk.k (fun y9 h9 => hf60 (y9) (by omega)) (show u < 16 by omega) (hBT).1 (hBT).bn q69
            rw [← hQ]
            refine W.widen (k := 8) (n := 48) (Nat.le_of_ble_eq_true rfl) (Nat.le_of_ble_eq_true rfl) ?_
            exact vx_ret (pw_iret hx hb hr hlocks hw (by
              rw [dPost, o_power_ok ⟨hRto, hRa⟩ (by omega) hd eu ex]
              rw [s_keep_eq hq1 hq2 hq3 hq4] at hkr
              rw [pw_lay hsx (sB_1 exs) hzx (by rw [ext]; rfl) hgx]
              exact ⟨rfl, hkr⟩) d_K_power_72)
          · refine wz_bipush (n := -2) hx hb d_K_power_50 (by decide) ?_
            rw [← hQ]
            refine W.widen (k := 8) (n := 48) (Nat.le_of_ble_eq_true rfl) (Nat.le_of_ble_eq_true rfl) ?_
            exact vx_ret (pw_iret hx hb hr hlocks hw (by
              rw [dPost, o_power, cif_pos ⟨⟨hRto, hRa⟩, by omega⟩, cif_pos ⟨by omega, by rw [show a.toNat = x from ex.symm, ← hzx]; exact (sgn_z hsx).mp c47⟩]
              exact ⟨rfl, rfl, hDk, fun _ _ => rfl⟩) d_K_power_52)
      · rw [← hQ]
        exact px_throwA (is := 119) (text := "no such power") hx hb hl0 hown hq hxk (by decide) hw (hl.1.trans hml.symm) d_K_power_28 d_K_power_31 d_K_power_32 d_K_power_34 d_K_power_37 hex (Nat.le_of_ble_eq_true rfl) (Nat.le_of_ble_eq_true rfl) (Nat.le_of_ble_eq_true rfl) (Nat.le_of_ble_eq_true rfl) hlocks (by
          rw [dPx, o_power, cif_neg (fun h9 => by have := h9.2; omega)]
          exact ⟨Or.inl ⟨rfl, rfl⟩, hDk, fun _ _ => rfl⟩) (Nat.le_of_ble_eq_true rfl) (Nat.le_of_ble_eq_true rfl)
  rw [hH, hlo] at hgo
  exact hgo
