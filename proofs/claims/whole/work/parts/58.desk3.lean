/-! FractionDesk.combine: by program -/
set_option maxHeartbeats 4000000 in
set_option maxRecDepth 100000 in
/-- combine(to, kind, a, b) -/
theorem c_K_combine (l : Launch) (D : va_G) (ty : Nat → ClassId) (ad : Nat → Nat) (M : Nat) (F : Nat → va_E) (sz : Nat) (hl0 : l.stackTraces = false) (hM : 97 < M) (g : Sg) (hDk : Dk ty ad F g) (hok : okS g) (to : Int) (hto : -2147483648 ≤ to ∧ to < 2147483648) (kd : Int) (hkd : -2147483648 ≤ kd ∧ kd < 2147483648) (a : Int) (ha : -2147483648 ≤ a ∧ a < 2147483648) (b1 : Int) (hb1 : -2147483648 ≤ b1 ∧ b1 < 2147483648) :
    XI l y_K_combine w_K_combine ({ frames := 7, cells := 8, slots := 48, locals := 157 } : Room) [.ref (ad (0)), .int (iI (to)), .int (iI (kd)), .int (iI (a)), .int (iI (b1))] D ty ad M F sz 8 48 (dPost ty ad F (o_combine g to kd a b1)) (dPx ty ad F (o_combine g to kd a b1)) := by
  refine vx_ofW (cc := b_K_combine) (maxL := 9) (ret := (some .int)) (by decide) rfl ?_
  intro p e s m args below meth c s₁ B hml hex hv
  obtain ⟨rfl, ⟨hsz, hP, hK, hD0⟩, hxk⟩ := hv
  have hx := B.exec
  have hb := B.bytes
  have hr := B.returns
  have hts := atoms_spec (ws := w_K_combine) B.pre
  have hq : ∀ w ∈ wT, w.before _ s = true := fun w h => hts w (List.mem_cons_of_mem _ h)
  have hown : s.vm.findClass R_K = some m.cls := findClass_of_methodNamed B.named
  have hlocks := B.notSynchronized
  subst hsz
  have hw := pw_start hP hK hD0
  have hl := lv_entry ([.ref (ad (0)), .int (iI (to)), .int (iI (kd)), .int (iI (a)), .int (iI (b1))]) (n := 9) (Nat.le_of_ble_eq_true rfl)
  rw [lg_entry_eq]
  generalize (lg_sl ([.ref (ad (0)), .int (iI (to)), .int (iI (kd)), .int (iI (a)), .int (iI (b1))]) ++ List.replicate (9 - (lg_sl ([.ref (ad (0)), .int (iI (to)), .int (iI (kd)), .int (iI (a)), .int (iI (b1))])).length) Slot.unset).toArray = ls at hl ⊢
  have hl : lv_has ls 9 [(0, .ref (ad (0))), (1, .int (iI (to))), (2, .int (iI (kd))), (3, .int (iI (a))), (4, .int (iI (b1)))] := hl
  change W p l e ({ frames := 7, cells := 8, slots := 48, locals := 157 } : Room) s m ([.ref (ad (0)), .int (iI (to)), .int (iI (kd)), .int (iI (a)), .int (iI (b1))]).toArray below meth c s.heap [] 0 0 (vx_MQ below (va_Qi (dPost ty ad F (o_combine g to kd a b1)) (pAt D classes (tysL ty) ad M (pA ad M s.heap.size)) (pA ad M s.heap.size)) (xX D ty ad M s.heap.size (dPx ty ad F (o_combine g to kd a b1))) ([.ref (ad (0)), .int (iI (to)), .int (iI (kd)), .int (iI (a)), .int (iI (b1))]).toArray s 8 48 (pA ad M s.heap.size)) (F0 m 0 ls [])
  generalize hQ : vx_MQ below (va_Qi (dPost ty ad F (o_combine g to kd a b1)) (pAt D classes (tysL ty) ad M (pA ad M s.heap.size)) (pA ad M s.heap.size)) (xX D ty ad M s.heap.size (dPx ty ad F (o_combine g to kd a b1))) ([.ref (ad (0)), .int (iI (to)), .int (iI (kd)), .int (iI (a)), .int (iI (b1))]).toArray s 8 48 (pA ad M s.heap.size) = Q
  obtain ⟨H, hH⟩ : ∃ H, H = s.heap := ⟨_, rfl⟩
  obtain ⟨locs, hlo⟩ : ∃ z : List Loc, z = [] := ⟨_, rfl⟩
  have hw : pw D classes (tysL ty) ad M F (pA ad M s.heap.size) s H locs := by rw [hH, hlo]; exact hw
  have hgo : W p l e ({ frames := 7, cells := 8, slots := 48, locals := 157 } : Room) s m ([.ref (ad (0)), .int (iI (to)), .int (iI (kd)), .int (iI (a)), .int (iI (b1))]).toArray below meth c H locs 0 0 Q (F0 m 0 ls []) := by
    obtain ⟨hK, hRg, hBn, hTx⟩ := id hDk
    obtain ⟨⟨q0, hR1, hq0⟩, hRf⟩ := id hRg
    refine lv_aload_n hx hb d_K_combine_0 rfl (lv_at hl 0 rfl) ?_
    refine lv_iload_n hx hb d_K_combine_1 rfl (lv_at hl 1 rfl) ?_
    refine px_callr hw (vx_runV (As := [.int (iI (to))]) (rest := []) ⟨hx, hb, hml, hown, hq⟩ (c_K_register l D ty ad M F H.size hl0 hM g hDk hok to hto) (cwV 1 hq (gV ml_K_34 im_K_register se_K_register in_K m_K_register) rfl rfl rfl (by decide +kernel) ⟨Nat.le_of_ble_eq_true rfl, Nat.le_of_ble_eq_true rfl⟩) (px_preV hw hxk (by omega) hK rfl) rfl rfl hl.1 rfl (lv_room (Nat.le_of_ble_eq_true rfl)) d_K_combine_2 ⟨Nat.le_of_ble_eq_true rfl, Nat.le_of_ble_eq_true rfl⟩) ?_ ?_
    · intro E9 ce9 q9 F9 H9 l9 hp9 hw9 h1 h2 h3
      rw [← hQ]
      refine px_out hex hlocks hw9 h1 h2 h3 ?_ (Nat.le_of_ble_eq_true rfl) (Nat.le_of_ble_eq_true rfl)
      exact by
        obtain ⟨h7, h8, h6⟩ := hp9
        dsimp only at h8 h6
        subst h8; subst h6
        rw [dPx, o_combine, cif_neg (fun h9 => h7 (h9.1.1))]
        exact ⟨Or.inl ⟨rfl, rfl⟩, hDk, fun _ _ => rfl⟩
    intro r2 F2 H locs q2 hw
    obtain ⟨hRto, er2, eF2⟩ := q2
    dsimp only at er2 eF2
    rw [eF2] at hw
    clear eF2
    obtain ⟨u, eu⟩ : ∃ z : Nat, z = rN to := ⟨_, rfl⟩
    rw [show to.toNat = u from eu.symm] at er2
    subst er2
    have hu16 : u < 16 := by rw [eu]; exact rN_lt hRto
    have hoku := hok.at hu16
    obtain ⟨us, eus⟩ : ∃ z : Nat, z = sB (zS g u) := ⟨_, rfl⟩
    obtain ⟨ut, eut⟩ : ∃ z : Nat, z = ab (zS g u) := ⟨_, rfl⟩
    have hFu : Frc ty ad F (2 + 5 * u) ut (bS g u) us := by rw [eus, eut]; exact hRf u hu16
    have hzu : sg us ut = zS g u := by rw [eus, eut]; exact sg_self _
    have hsu : us ≤ 1 := by rw [eus]; exact sB_le _
    obtain ⟨hsmu1, hsmu2, hpu, hgu⟩ := hoku
    rw [show (zS g u).natAbs = ut from eut.symm] at hsmu1 hgu
    have hOu := hFu.2.1
    refine lv_astore (lv' := [(5, .ref (ad (2 + 5 * u))), (0, .ref (ad (0))), (1, .int (iI (to))), (2, .int (iI (kd))), (3, .int (iI (a))), (4, .int (iI (b1)))]) hx hb d_K_combine_5 hl (by decide) rfl (fun ls hl => ?_)
    refine lv_aload_n hx hb d_K_combine_7 rfl (lv_at hl 1 rfl) ?_
    refine lv_iload_n hx hb d_K_combine_8 rfl (lv_at hl 4 rfl) ?_
    refine px_callr hw (vx_runV (As := [.int (iI (a))]) (rest := []) ⟨hx, hb, hml, hown, hq⟩ (c_K_register l D ty ad M F H.size hl0 hM g hDk hok a ha) (cwV 1 hq (gV ml_K_34 im_K_register se_K_register in_K m_K_register) rfl rfl rfl (by decide +kernel) ⟨Nat.le_of_ble_eq_true rfl, Nat.le_of_ble_eq_true rfl⟩) (px_preV hw hxk (by omega) hK rfl) rfl rfl hl.1 rfl (lv_room (Nat.le_of_ble_eq_true rfl)) d_K_combine_9 ⟨Nat.le_of_ble_eq_true rfl, Nat.le_of_ble_eq_true rfl⟩) ?_ ?_
    · intro E9 ce9 q9 F9 H9 l9 hp9 hw9 h1 h2 h3
      rw [← hQ]
      refine px_out hex hlocks hw9 h1 h2 h3 ?_ (Nat.le_of_ble_eq_true rfl) (Nat.le_of_ble_eq_true rfl)
      exact by
        obtain ⟨h7, h8, h6⟩ := hp9
        dsimp only at h8 h6
        subst h8; subst h6
        rw [dPx, o_combine, cif_neg (fun h9 => h7 (h9.1.2.1))]
        exact ⟨Or.inl ⟨rfl, rfl⟩, hDk, fun _ _ => rfl⟩
    intro r9 F9 H locs q9 hw
    obtain ⟨hRa, er9, eF9⟩ := q9
    dsimp only at er9 eF9
    rw [eF9] at hw
    clear eF9
    obtain ⟨x, ex⟩ : ∃ z : Nat, z = rN a := ⟨_, rfl⟩
    rw [show a.toNat = x from ex.symm] at er9
    subst er9
    have hx16 : x < 16 := by rw [ex]; exact rN_lt hRa
    have hokx := hok.at hx16
    obtain ⟨xs, exs⟩ : ∃ z : Nat, z = sB (zS g x) := ⟨_, rfl⟩
    obtain ⟨xt, ext⟩ : ∃ z : Nat, z = ab (zS g x) := ⟨_, rfl⟩
    have hFx : Frc ty ad F (2 + 5 * x) xt (bS g x) xs := by rw [exs, ext]; exact hRf x hx16
    have hzx : sg xs xt = zS g x := by rw [exs, ext]; exact sg_self _
    have hsx : xs ≤ 1 := by rw [exs]; exact sB_le _
    obtain ⟨hsmx1, hsmx2, hpx, hgx⟩ := hokx
    rw [show (zS g x).natAbs = xt from ext.symm] at hsmx1 hgx
    have hOx := hFx.2.1
    refine lv_astore (lv' := [(6, .ref (ad (2 + 5 * x))), (5, .ref (ad (2 + 5 * u))), (0, .ref (ad (0))), (1, .int (iI (to))), (2, .int (iI (kd))), (3, .int (iI (a))), (4, .int (iI (b1)))]) hx hb d_K_combine_12 hl (by decide) rfl (fun ls hl => ?_)
    refine lv_aload_n hx hb d_K_combine_14 rfl (lv_at hl 2 rfl) ?_
    refine lv_iload hx hb d_K_combine_15 (lv_at hl 6 rfl) ?_
    refine px_callr hw (vx_runV (As := [.int (iI (b1))]) (rest := []) ⟨hx, hb, hml, hown, hq⟩ (c_K_register l D ty ad M F H.size hl0 hM g hDk hok b1 hb1) (cwV 1 hq (gV ml_K_34 im_K_register se_K_register in_K m_K_register) rfl rfl rfl (by decide +kernel) ⟨Nat.le_of_ble_eq_true rfl, Nat.le_of_ble_eq_true rfl⟩) (px_preV hw hxk (by omega) hK rfl) rfl rfl hl.1 rfl (lv_room (Nat.le_of_ble_eq_true rfl)) d_K_combine_17 ⟨Nat.le_of_ble_eq_true rfl, Nat.le_of_ble_eq_true rfl⟩) ?_ ?_
    · intro E9 ce9 q9 F9 H9 l9 hp9 hw9 h1 h2 h3
      rw [← hQ]
      refine px_out hex hlocks hw9 h1 h2 h3 ?_ (Nat.le_of_ble_eq_true rfl) (Nat.le_of_ble_eq_true rfl)
      exact by
        obtain ⟨h7, h8, h6⟩ := hp9
        dsimp only at h8 h6
        subst h8; subst h6
        rw [dPx, o_combine, cif_neg (fun h9 => h7 (h9.1.2.2))]
        exact ⟨Or.inl ⟨rfl, rfl⟩, hDk, fun _ _ => rfl⟩
    intro r17 F17 H locs q17 hw
    obtain ⟨hRb1, er17, eF17⟩ := q17
    dsimp only at er17 eF17
    rw [eF17] at hw
    clear eF17
    obtain ⟨y, ey⟩ : ∃ z : Nat, z = rN b1 := ⟨_, rfl⟩
    rw [show b1.toNat = y from ey.symm] at er17
    subst er17
    have hy16 : y < 16 := by rw [ey]; exact rN_lt hRb1
    have hoky := hok.at hy16
    obtain ⟨ys, eys⟩ : ∃ z : Nat, z = sB (zS g y) := ⟨_, rfl⟩
    obtain ⟨yt, eyt⟩ : ∃ z : Nat, z = ab (zS g y) := ⟨_, rfl⟩
    have hFy : Frc ty ad F (2 + 5 * y) yt (bS g y) ys := by rw [eys, eyt]; exact hRf y hy16
    have hzy : sg ys yt = zS g y := by rw [eys, eyt]; exact sg_self _
    have hsy : ys ≤ 1 := by rw [eys]; exact sB_le _
    obtain ⟨hsmy1, hsmy2, hpy, hgy⟩ := hoky
    rw [show (zS g y).natAbs = yt from eyt.symm] at hsmy1 hgy
    have hOy := hFy.2.1
    refine lv_astore (lv' := [(7, .ref (ad (2 + 5 * y))), (6, .ref (ad (2 + 5 * x))), (5, .ref (ad (2 + 5 * u))), (0, .ref (ad (0))), (1, .int (iI (to))), (2, .int (iI (kd))), (3, .int (iI (a))), (4, .int (iI (b1)))]) hx hb d_K_combine_20 hl (by decide) rfl (fun ls hl => ?_)
    have K114 : ∀  (F114 : Nat → va_E) (H : Heap) (locs : List Loc) (ls : Array Slot), (0 ≤ kd ∧ kd ≤ 8) → (cm8 kd (bS g x) (bS g y)) → (cmD kd (zS g y)) → (F114 = F) → F114 (0) = .inr (5, [.ref (ad (1)), .ref (ad (82)), .ref (ad (96)), .int (iI (pS g))]) → Bn ty ad F114 → F114 (2 + 5 * u) = .inr (1, [.ref (ad (2 + 5 * u + 1)), .ref (ad (2 + 5 * u + 3)), .int (iI ((us : Int)))]) → Frc ty ad F114 (2 + 5 * u) ut (bS g u) us → F114 (2 + 5 * x) = .inr (1, [.ref (ad (2 + 5 * x + 1)), .ref (ad (2 + 5 * x + 3)), .int (iI ((xs : Int)))]) → Frc ty ad F114 (2 + 5 * x) xt (bS g x) xs → F114 (2 + 5 * y) = .inr (1, [.ref (ad (2 + 5 * y + 1)), .ref (ad (2 + 5 * y + 3)), .int (iI ((ys : Int)))]) → Frc ty ad F114 (2 + 5 * y) yt (bS g y) ys → pw D classes (tysL ty) ad M F114 (pA ad M s.heap.size) s H locs → lv_has ls 9 [(0, .ref (ad (0))), (2, .int (iI (kd))), (5, .ref (ad (2 + 5 * u))), (6, .ref (ad (2 + 5 * x))), (7, .ref (ad (2 + 5 * y)))] → W p l e ({ frames := 7, cells := 8, slots := 48, locals := 157 } : Room) s m ([.ref (ad (0)), .int (iI (to)), .int (iI (kd)), .int (iI (a)), .int (iI (b1))]).toArray below meth c H locs 3 18 Q (F0 m 114 ls []) := by
      intro F114 H locs ls hk h8 hd hFe hK hBn hOu hFu hOx hFx hOy hFy hw hl
      refine lv_iload_n hx hb d_K_combine_114 rfl (lv_at hl 1 rfl) ?_
      by_cases c115_0 : kd = 0
      · refine wz_tabIn (k := 0) (off := 45) (tgt := 160) hx hb d_K_combine_115 c115_0 (by omega) (by omega) (by decide) rfl (by decide) ?_
        refine lv_aload_n hx hb d_K_combine_160 rfl (lv_at hl 0 rfl) ?_
        refine pw_get (ci := 5) (C := R_K) (T := T_K) (N := 4) hx hb hq i_K hown hw (by omega) hK rfl 1 (by decide) (hq _ fl_K_19) (fun _ h9 => h9) rfl d_K_combine_161 ?_
        refine lv_aload hx hb d_K_combine_164 (lv_at hl 3 rfl) ?_
        refine lv_aload hx hb d_K_combine_166 (lv_at hl 4 rfl) ?_
        refine lv_aload hx hb d_K_combine_168 (lv_at hl 4 rfl) ?_
        refine pw_get (ci := 1) (C := R_F) (T := T_F) (N := 3) hx hb hq i_F hown hw (by omega) hOy rfl 2 (by decide) (hq _ fl_K_65) (fun _ h9 => h9) rfl d_K_combine_170 ?_
        refine pw_callv hw (va_runV (As := [.ref (ad (2 + 5 * x)), .ref (ad (2 + 5 * y)), .int (iI ((ys : Int)))]) (rest := []) ⟨hx, hb, hml, hown, hq⟩ (c_B_add l D ty ad M F114 H.size hM hBn (2 + 5 * x) xt (bS g x) xs (by omega) hFx (by omega) hsmx1 hsmx2 (2 + 5 * y) yt (bS g y) ys (by omega) hFy (by omega) hsmy1 hsmy2 ys hsy) (cwV 3 hq (gV ml_K_69 im_B_add se_B_add in_B m_B_add) rfl rfl rfl (by decide +kernel) ⟨Nat.le_of_ble_eq_true rfl, Nat.le_of_ble_eq_true rfl⟩) (pw_preBn hw hM hBn) rfl rfl hl.1 rfl (lv_room (Nat.le_of_ble_eq_true rfl)) d_K_combine_173 ⟨Nat.le_of_ble_eq_true rfl, Nat.le_of_ble_eq_true rfl⟩) (fun F173 H locs q173 hw => ?_)
        obtain ⟨⟨tv, sv, hBT, hsv, hmd⟩, hf173⟩ := q173
        rw [sg_cmp, sg_cmp, hzx, hzy] at hsv
        have hK_at_173 : F173 (0) = .inr (5, [.ref (ad (1)), .ref (ad (82)), .ref (ad (96)), .int (iI (pS g))]) := (hf173 (0) (by omega)).trans hK
        have hOu_at_173 : F173 (2 + 5 * u) = .inr (1, [.ref (ad (2 + 5 * u + 1)), .ref (ad (2 + 5 * u + 3)), .int (iI ((us : Int)))]) := (hf173 (2 + 5 * u) (by omega)).trans hOu
        have hFu_at_173 : Frc ty ad F173 (2 + 5 * u) ut (bS g u) us := Frc.m5 hFu (hf173 (2 + 5 * u) (by omega)) (hf173 (2 + 5 * u + 1) (by omega)) (hf173 (2 + 5 * u + 2) (by omega)) (hf173 (2 + 5 * u + 3) (by omega)) (hf173 (2 + 5 * u + 4) (by omega))
        have hOx_at_173 : F173 (2 + 5 * x) = .inr (1, [.ref (ad (2 + 5 * x + 1)), .ref (ad (2 + 5 * x + 3)), .int (iI ((xs : Int)))]) := (hf173 (2 + 5 * x) (by omega)).trans hOx
        have hFx_at_173 : Frc ty ad F173 (2 + 5 * x) xt (bS g x) xs := Frc.m5 hFx (hf173 (2 + 5 * x) (by omega)) (hf173 (2 + 5 * x + 1) (by omega)) (hf173 (2 + 5 * x + 2) (by omega)) (hf173 (2 + 5 * x + 3) (by omega)) (hf173 (2 + 5 * x + 4) (by omega))
        have hOy_at_173 : F173 (2 + 5 * y) = .inr (1, [.ref (ad (2 + 5 * y + 1)), .ref (ad (2 + 5 * y + 3)), .int (iI ((ys : Int)))]) := (hf173 (2 + 5 * y) (by omega)).trans hOy
        have hFy_at_173 : Frc ty ad F173 (2 + 5 * y) yt (bS g y) ys := Frc.m5 hFy (hf173 (2 + 5 * y) (by omega)) (hf173 (2 + 5 * y + 1) (by omega)) (hf173 (2 + 5 * y + 2) (by omega)) (hf173 (2 + 5 * y + 3) (by omega)) (hf173 (2 + 5 * y + 4) (by omega))
        refine lv_aload_n hx hb d_K_combine_176 rfl (lv_at hl 0 rfl) ?_
        refine pw_get (ci := 5) (C := R_K) (T := T_K) (N := 4) hx hb hq i_K hown hw (by omega) hK_at_173 rfl 1 (by decide) (hq _ fl_K_19) (fun _ h9 => h9) rfl d_K_combine_177 ?_
        refine lv_aload hx hb d_K_combine_180 (lv_at hl 2 rfl) ?_
        refine pw_calli hw (va_runV (As := [.ref (ad (2 + 5 * u))]) (rest := []) ⟨hx, hb, hml, hown, hq⟩ (c_B_keepReduced l D ty ad M F173 H.size hM (tv) ((bS g x * bS g y)) (sv) hBT (hmd) ((hsmx2.mul hsmy2).toMd) (2 + 5 * u) ut (bS g u) us (by omega) hFu_at_173 (by omega)) (cwV 1 hq (gV ml_K_49 im_B_keepReduced se_B_keepReduced in_B m_B_keepReduced) rfl rfl rfl (by decide +kernel) ⟨Nat.le_of_ble_eq_true rfl, Nat.le_of_ble_eq_true rfl⟩) (pw_preBn hw hM (hBT).bn) rfl rfl hl.1 rfl (lv_room (Nat.le_of_ble_eq_true rfl)) d_K_combine_182 ⟨Nat.le_of_ble_eq_true rfl, Nat.le_of_ble_eq_true rfl⟩) (fun r182 F182 H locs q182 hw => ?_)
        have hkr := hDk.kr (fun y9 h9 => (hf173 (y9) (by omega)).trans ((congrFun hFe y9))) (show u < 16 by omega) (hBT).1 q182.1.1 q182.1.2 q182.2
        rw [← hQ]
        refine W.widen (k := 8) (n := 48) (Nat.le_of_ble_eq_true rfl) (Nat.le_of_ble_eq_true rfl) ?_
        exact vx_ret (pw_iret hx hb hr hlocks hw (by
          rw [dPost, o_combine_ok ⟨hRto, hRa, hRb1⟩ hk h8 hd eu ex ey, c115_0, cmb_0]
          dsimp only
          rw [hsv] at hkr
          exact ⟨rfl, hkr⟩) d_K_combine_185)
      · skip
        by_cases c115_1 : kd = 1
        · refine wz_tabIn (k := 1) (off := 71) (tgt := 186) hx hb d_K_combine_115 c115_1 (by omega) (by omega) (by decide) rfl (by decide) ?_
          refine lv_aload_n hx hb d_K_combine_186 rfl (lv_at hl 0 rfl) ?_
          refine pw_get (ci := 5) (C := R_K) (T := T_K) (N := 4) hx hb hq i_K hown hw (by omega) hK rfl 1 (by decide) (hq _ fl_K_19) (fun _ h9 => h9) rfl d_K_combine_187 ?_
          refine lv_aload hx hb d_K_combine_190 (lv_at hl 3 rfl) ?_
          refine lv_aload hx hb d_K_combine_192 (lv_at hl 4 rfl) ?_
          refine lv_aload hx hb d_K_combine_194 (lv_at hl 4 rfl) ?_
          refine pw_get (ci := 1) (C := R_F) (T := T_F) (N := 3) hx hb hq i_F hown hw (by omega) hOy rfl 2 (by decide) (hq _ fl_K_65) (fun _ h9 => h9) rfl d_K_combine_196 ?_
          refine wz_if_ne (tgt := 206) hx hb d_K_combine_199 (by decide) (by omega) (by omega) (fun c199 => ?_) (fun c199 => ?_)
          · refine wz_iconst (n := 0) hx hb d_K_combine_206 ?_
            refine pw_callv hw (va_runV (As := [.ref (ad (2 + 5 * x)), .ref (ad (2 + 5 * y)), .int (iI (0))]) (rest := []) ⟨hx, hb, hml, hown, hq⟩ (c_B_add l D ty ad M F114 H.size hM hBn (2 + 5 * x) xt (bS g x) xs (by omega) hFx (by omega) hsmx1 hsmx2 (2 + 5 * y) yt (bS g y) ys (by omega) hFy (by omega) hsmy1 hsmy2 0 (by omega)) (cwV 3 hq (gV ml_K_69 im_B_add se_B_add in_B m_B_add) rfl rfl rfl (by decide +kernel) ⟨Nat.le_of_ble_eq_true rfl, Nat.le_of_ble_eq_true rfl⟩) (pw_preBn hw hM hBn) rfl rfl hl.1 rfl (lv_room (Nat.le_of_ble_eq_true rfl)) d_K_combine_207 ⟨Nat.le_of_ble_eq_true rfl, Nat.le_of_ble_eq_true rfl⟩) (fun F207 H locs q207 hw => ?_)
            obtain ⟨⟨tv, sv, hBT, hsv, hmd⟩, hf207⟩ := q207
            rw [sg_cmp, sg_cmp, hzx, sg_flip (s := ys) (show ys + 0 = 1 by omega), hzy, Int.neg_mul, ← Int.sub_eq_add_neg] at hsv
            have hK_at_207 : F207 (0) = .inr (5, [.ref (ad (1)), .ref (ad (82)), .ref (ad (96)), .int (iI (pS g))]) := (hf207 (0) (by omega)).trans hK
            have hOu_at_207 : F207 (2 + 5 * u) = .inr (1, [.ref (ad (2 + 5 * u + 1)), .ref (ad (2 + 5 * u + 3)), .int (iI ((us : Int)))]) := (hf207 (2 + 5 * u) (by omega)).trans hOu
            have hFu_at_207 : Frc ty ad F207 (2 + 5 * u) ut (bS g u) us := Frc.m5 hFu (hf207 (2 + 5 * u) (by omega)) (hf207 (2 + 5 * u + 1) (by omega)) (hf207 (2 + 5 * u + 2) (by omega)) (hf207 (2 + 5 * u + 3) (by omega)) (hf207 (2 + 5 * u + 4) (by omega))
            have hOx_at_207 : F207 (2 + 5 * x) = .inr (1, [.ref (ad (2 + 5 * x + 1)), .ref (ad (2 + 5 * x + 3)), .int (iI ((xs : Int)))]) := (hf207 (2 + 5 * x) (by omega)).trans hOx
            have hFx_at_207 : Frc ty ad F207 (2 + 5 * x) xt (bS g x) xs := Frc.m5 hFx (hf207 (2 + 5 * x) (by omega)) (hf207 (2 + 5 * x + 1) (by omega)) (hf207 (2 + 5 * x + 2) (by omega)) (hf207 (2 + 5 * x + 3) (by omega)) (hf207 (2 + 5 * x + 4) (by omega))
            have hOy_at_207 : F207 (2 + 5 * y) = .inr (1, [.ref (ad (2 + 5 * y + 1)), .ref (ad (2 + 5 * y + 3)), .int (iI ((ys : Int)))]) := (hf207 (2 + 5 * y) (by omega)).trans hOy
            have hFy_at_207 : Frc ty ad F207 (2 + 5 * y) yt (bS g y) ys := Frc.m5 hFy (hf207 (2 + 5 * y) (by omega)) (hf207 (2 + 5 * y + 1) (by omega)) (hf207 (2 + 5 * y + 2) (by omega)) (hf207 (2 + 5 * y + 3) (by omega)) (hf207 (2 + 5 * y + 4) (by omega))
            refine lv_aload_n hx hb d_K_combine_210 rfl (lv_at hl 0 rfl) ?_
            refine pw_get (ci := 5) (C := R_K) (T := T_K) (N := 4) hx hb hq i_K hown hw (by omega) hK_at_207 rfl 1 (by decide) (hq _ fl_K_19) (fun _ h9 => h9) rfl d_K_combine_211 ?_
            refine lv_aload hx hb d_K_combine_214 (lv_at hl 2 rfl) ?_
            refine pw_calli hw (va_runV (As := [.ref (ad (2 + 5 * u))]) (rest := []) ⟨hx, hb, hml, hown, hq⟩ (c_B_keepReduced l D ty ad M F207 H.size hM (tv) ((bS g x * bS g y)) (sv) hBT (hmd) ((hsmx2.mul hsmy2).toMd) (2 + 5 * u) ut (bS g u) us (by omega) hFu_at_207 (by omega)) (cwV 1 hq (gV ml_K_49 im_B_keepReduced se_B_keepReduced in_B m_B_keepReduced) rfl rfl rfl (by decide +kernel) ⟨Nat.le_of_ble_eq_true rfl, Nat.le_of_ble_eq_true rfl⟩) (pw_preBn hw hM (hBT).bn) rfl rfl hl.1 rfl (lv_room (Nat.le_of_ble_eq_true rfl)) d_K_combine_216 ⟨Nat.le_of_ble_eq_true rfl, Nat.le_of_ble_eq_true rfl⟩) (fun r216 F216 H locs q216 hw => ?_)
            have hkr := hDk.kr (fun y9 h9 => (hf207 (y9) (by omega)).trans ((congrFun hFe y9))) (show u < 16 by omega) (hBT).1 q216.1.1 q216.1.2 q216.2
            rw [← hQ]
            refine W.widen (k := 8) (n := 48) (Nat.le_of_ble_eq_true rfl) (Nat.le_of_ble_eq_true rfl) ?_
            exact vx_ret (pw_iret hx hb hr hlocks hw (by
              rw [dPost, o_combine_ok ⟨hRto, hRa, hRb1⟩ hk h8 hd eu ex ey, c115_1, cmb_1]
              dsimp only
              rw [hsv] at hkr
              exact ⟨rfl, hkr⟩) d_K_combine_219)
          · refine wz_iconst (n := 1) hx hb d_K_combine_202 ?_
            refine lv_goto (tgt := 207) hx hb d_K_combine_203 (by decide) ?_
            refine pw_callv hw (va_runV (As := [.ref (ad (2 + 5 * x)), .ref (ad (2 + 5 * y)), .int (iI (1))]) (rest := []) ⟨hx, hb, hml, hown, hq⟩ (c_B_add l D ty ad M F114 H.size hM hBn (2 + 5 * x) xt (bS g x) xs (by omega) hFx (by omega) hsmx1 hsmx2 (2 + 5 * y) yt (bS g y) ys (by omega) hFy (by omega) hsmy1 hsmy2 1 (by omega)) (cwV 3 hq (gV ml_K_69 im_B_add se_B_add in_B m_B_add) rfl rfl rfl (by decide +kernel) ⟨Nat.le_of_ble_eq_true rfl, Nat.le_of_ble_eq_true rfl⟩) (pw_preBn hw hM hBn) rfl rfl hl.1 rfl (lv_room (Nat.le_of_ble_eq_true rfl)) d_K_combine_207 ⟨Nat.le_of_ble_eq_true rfl, Nat.le_of_ble_eq_true rfl⟩) (fun F207 H locs q207 hw => ?_)
            obtain ⟨⟨tv, sv, hBT, hsv, hmd⟩, hf207⟩ := q207
            rw [sg_cmp, sg_cmp, hzx, sg_flip (s := ys) (show ys + 1 = 1 by omega), hzy, Int.neg_mul, ← Int.sub_eq_add_neg] at hsv
            have hK_at_207 : F207 (0) = .inr (5, [.ref (ad (1)), .ref (ad (82)), .ref (ad (96)), .int (iI (pS g))]) := (hf207 (0) (by omega)).trans hK
            have hOu_at_207 : F207 (2 + 5 * u) = .inr (1, [.ref (ad (2 + 5 * u + 1)), .ref (ad (2 + 5 * u + 3)), .int (iI ((us : Int)))]) := (hf207 (2 + 5 * u) (by omega)).trans hOu
            have hFu_at_207 : Frc ty ad F207 (2 + 5 * u) ut (bS g u) us := Frc.m5 hFu (hf207 (2 + 5 * u) (by omega)) (hf207 (2 + 5 * u + 1) (by omega)) (hf207 (2 + 5 * u + 2) (by omega)) (hf207 (2 + 5 * u + 3) (by omega)) (hf207 (2 + 5 * u + 4) (by omega))
            have hOx_at_207 : F207 (2 + 5 * x) = .inr (1, [.ref (ad (2 + 5 * x + 1)), .ref (ad (2 + 5 * x + 3)), .int (iI ((xs : Int)))]) := (hf207 (2 + 5 * x) (by omega)).trans hOx
            have hFx_at_207 : Frc ty ad F207 (2 + 5 * x) xt (bS g x) xs := Frc.m5 hFx (hf207 (2 + 5 * x) (by omega)) (hf207 (2 + 5 * x + 1) (by omega)) (hf207 (2 + 5 * x + 2) (by omega)) (hf207 (2 + 5 * x + 3) (by omega)) (hf207 (2 + 5 * x + 4) (by omega))
            have hOy_at_207 : F207 (2 + 5 * y) = .inr (1, [.ref (ad (2 + 5 * y + 1)), .ref (ad (2 + 5 * y + 3)), .int (iI ((ys : Int)))]) := (hf207 (2 + 5 * y) (by omega)).trans hOy
            have hFy_at_207 : Frc ty ad F207 (2 + 5 * y) yt (bS g y) ys := Frc.m5 hFy (hf207 (2 + 5 * y) (by omega)) (hf207 (2 + 5 * y + 1) (by omega)) (hf207 (2 + 5 * y + 2) (by omega)) (hf207 (2 + 5 * y + 3) (by omega)) (hf207 (2 + 5 * y + 4) (by omega))
            refine lv_aload_n hx hb d_K_combine_210 rfl (lv_at hl 0 rfl) ?_
            refine pw_get (ci := 5) (C := R_K) (T := T_K) (N := 4) hx hb hq i_K hown hw (by omega) hK_at_207 rfl 1 (by decide) (hq _ fl_K_19) (fun _ h9 => h9) rfl d_K_combine_211 ?_
            refine lv_aload hx hb d_K_combine_214 (lv_at hl 2 rfl) ?_
            refine pw_calli hw (va_runV (As := [.ref (ad (2 + 5 * u))]) (rest := []) ⟨hx, hb, hml, hown, hq⟩ (c_B_keepReduced l D ty ad M F207 H.size hM (tv) ((bS g x * bS g y)) (sv) hBT (hmd) ((hsmx2.mul hsmy2).toMd) (2 + 5 * u) ut (bS g u) us (by omega) hFu_at_207 (by omega)) (cwV 1 hq (gV ml_K_49 im_B_keepReduced se_B_keepReduced in_B m_B_keepReduced) rfl rfl rfl (by decide +kernel) ⟨Nat.le_of_ble_eq_true rfl, Nat.le_of_ble_eq_true rfl⟩) (pw_preBn hw hM (hBT).bn) rfl rfl hl.1 rfl (lv_room (Nat.le_of_ble_eq_true rfl)) d_K_combine_216 ⟨Nat.le_of_ble_eq_true rfl, Nat.le_of_ble_eq_true rfl⟩) (fun r216 F216 H locs q216 hw => ?_)
            have hkr := hDk.kr (fun y9 h9 => (hf207 (y9) (by omega)).trans ((congrFun hFe y9))) (show u < 16 by omega) (hBT).1 q216.1.1 q216.1.2 q216.2
            rw [← hQ]
            refine W.widen (k := 8) (n := 48) (Nat.le_of_ble_eq_true rfl) (Nat.le_of_ble_eq_true rfl) ?_
            exact vx_ret (pw_iret hx hb hr hlocks hw (by
              rw [dPost, o_combine_ok ⟨hRto, hRa, hRb1⟩ hk h8 hd eu ex ey, c115_1, cmb_1]
              dsimp only
              rw [hsv] at hkr
              exact ⟨rfl, hkr⟩) d_K_combine_219)
        · skip
          by_cases c115_2 : kd = 2
          · refine wz_tabIn (k := 2) (off := 105) (tgt := 220) hx hb d_K_combine_115 c115_2 (by omega) (by omega) (by decide) rfl (by decide) ?_
            refine lv_aload_n hx hb d_K_combine_220 rfl (lv_at hl 0 rfl) ?_
            refine pw_get (ci := 5) (C := R_K) (T := T_K) (N := 4) hx hb hq i_K hown hw (by omega) hK rfl 1 (by decide) (hq _ fl_K_19) (fun _ h9 => h9) rfl d_K_combine_221 ?_
            refine lv_aload hx hb d_K_combine_224 (lv_at hl 3 rfl) ?_
            refine lv_aload hx hb d_K_combine_226 (lv_at hl 4 rfl) ?_
            refine pw_callv hw (va_runV (As := [.ref (ad (2 + 5 * x)), .ref (ad (2 + 5 * y))]) (rest := []) ⟨hx, hb, hml, hown, hq⟩ (c_B_multiply l D ty ad M F114 H.size hM hBn (2 + 5 * x) xt (bS g x) xs (by omega) hFx (by omega) hsmx1 hsmx2 (2 + 5 * y) yt (bS g y) ys (by omega) hFy (by omega) hsmy1 hsmy2) (cwV 2 hq (gV ml_K_73 im_B_multiply se_B_multiply in_B m_B_multiply) rfl rfl rfl (by decide +kernel) ⟨Nat.le_of_ble_eq_true rfl, Nat.le_of_ble_eq_true rfl⟩) (pw_preBn hw hM hBn) rfl rfl hl.1 rfl (lv_room (Nat.le_of_ble_eq_true rfl)) d_K_combine_228 ⟨Nat.le_of_ble_eq_true rfl, Nat.le_of_ble_eq_true rfl⟩) (fun F228 H locs q228 hw => ?_)
            obtain ⟨hBT, hf228⟩ := q228
            have hK_at_228 : F228 (0) = .inr (5, [.ref (ad (1)), .ref (ad (82)), .ref (ad (96)), .int (iI (pS g))]) := (hf228 (0) (by omega)).trans hK
            have hOu_at_228 : F228 (2 + 5 * u) = .inr (1, [.ref (ad (2 + 5 * u + 1)), .ref (ad (2 + 5 * u + 3)), .int (iI ((us : Int)))]) := (hf228 (2 + 5 * u) (by omega)).trans hOu
            have hFu_at_228 : Frc ty ad F228 (2 + 5 * u) ut (bS g u) us := Frc.m5 hFu (hf228 (2 + 5 * u) (by omega)) (hf228 (2 + 5 * u + 1) (by omega)) (hf228 (2 + 5 * u + 2) (by omega)) (hf228 (2 + 5 * u + 3) (by omega)) (hf228 (2 + 5 * u + 4) (by omega))
            have hOx_at_228 : F228 (2 + 5 * x) = .inr (1, [.ref (ad (2 + 5 * x + 1)), .ref (ad (2 + 5 * x + 3)), .int (iI ((xs : Int)))]) := (hf228 (2 + 5 * x) (by omega)).trans hOx
            have hFx_at_228 : Frc ty ad F228 (2 + 5 * x) xt (bS g x) xs := Frc.m5 hFx (hf228 (2 + 5 * x) (by omega)) (hf228 (2 + 5 * x + 1) (by omega)) (hf228 (2 + 5 * x + 2) (by omega)) (hf228 (2 + 5 * x + 3) (by omega)) (hf228 (2 + 5 * x + 4) (by omega))
            have hOy_at_228 : F228 (2 + 5 * y) = .inr (1, [.ref (ad (2 + 5 * y + 1)), .ref (ad (2 + 5 * y + 3)), .int (iI ((ys : Int)))]) := (hf228 (2 + 5 * y) (by omega)).trans hOy
            have hFy_at_228 : Frc ty ad F228 (2 + 5 * y) yt (bS g y) ys := Frc.m5 hFy (hf228 (2 + 5 * y) (by omega)) (hf228 (2 + 5 * y + 1) (by omega)) (hf228 (2 + 5 * y + 2) (by omega)) (hf228 (2 + 5 * y + 3) (by omega)) (hf228 (2 + 5 * y + 4) (by omega))
            refine lv_aload_n hx hb d_K_combine_231 rfl (lv_at hl 0 rfl) ?_
            refine pw_get (ci := 5) (C := R_K) (T := T_K) (N := 4) hx hb hq i_K hown hw (by omega) hK_at_228 rfl 1 (by decide) (hq _ fl_K_19) (fun _ h9 => h9) rfl d_K_combine_232 ?_
            refine lv_aload hx hb d_K_combine_235 (lv_at hl 2 rfl) ?_
            refine pw_calli hw (va_runV (As := [.ref (ad (2 + 5 * u))]) (rest := []) ⟨hx, hb, hml, hown, hq⟩ (c_B_keepReduced l D ty ad M F228 H.size hM (xt * yt) ((bS g x * bS g y)) (if xs = ys then 0 else 1) hBT ((hsmx1.mul hsmy1).toMd) ((hsmx2.mul hsmy2).toMd) (2 + 5 * u) ut (bS g u) us (by omega) hFu_at_228 (by omega)) (cwV 1 hq (gV ml_K_49 im_B_keepReduced se_B_keepReduced in_B m_B_keepReduced) rfl rfl rfl (by decide +kernel) ⟨Nat.le_of_ble_eq_true rfl, Nat.le_of_ble_eq_true rfl⟩) (pw_preBn hw hM (hBT).bn) rfl rfl hl.1 rfl (lv_room (Nat.le_of_ble_eq_true rfl)) d_K_combine_237 ⟨Nat.le_of_ble_eq_true rfl, Nat.le_of_ble_eq_true rfl⟩) (fun r237 F237 H locs q237 hw => ?_)
            have hkr := hDk.kr (fun y9 h9 => (hf228 (y9) (by omega)).trans ((congrFun hFe y9))) (show u < 16 by omega) (hBT).1 q237.1.1 q237.1.2 q237.2
            rw [← hQ]
            refine W.widen (k := 8) (n := 48) (Nat.le_of_ble_eq_true rfl) (Nat.le_of_ble_eq_true rfl) ?_
            exact vx_ret (pw_iret hx hb hr hlocks hw (by
              rw [dPost, o_combine_ok ⟨hRto, hRa, hRb1⟩ hk h8 hd eu ex ey, c115_2, cmb_2]
              dsimp only
              rw [sg_mul hsx hsy rfl, hzx, hzy] at hkr
              exact ⟨rfl, hkr⟩) d_K_combine_240)
          · skip
            by_cases c115_3 : kd = 3
            · refine wz_tabIn (k := 3) (off := 126) (tgt := 241) hx hb d_K_combine_115 c115_3 (by omega) (by omega) (by decide) rfl (by decide) ?_
              refine lv_aload_n hx hb d_K_combine_241 rfl (lv_at hl 0 rfl) ?_
              refine pw_get (ci := 5) (C := R_K) (T := T_K) (N := 4) hx hb hq i_K hown hw (by omega) hK rfl 1 (by decide) (hq _ fl_K_19) (fun _ h9 => h9) rfl d_K_combine_242 ?_
              refine lv_aload hx hb d_K_combine_245 (lv_at hl 3 rfl) ?_
              refine lv_aload hx hb d_K_combine_247 (lv_at hl 4 rfl) ?_
              refine pw_callv hw (va_runV (As := [.ref (ad (2 + 5 * x)), .ref (ad (2 + 5 * y))]) (rest := []) ⟨hx, hb, hml, hown, hq⟩ (c_B_divide l D ty ad M F114 H.size hM hBn (2 + 5 * x) xt (bS g x) xs (by omega) hFx (by omega) hsmx1 hsmx2 (2 + 5 * y) yt (bS g y) ys (by omega) hFy (by omega) hsmy1 hsmy2) (cwV 2 hq (gV ml_K_77 im_B_divide se_B_divide in_B m_B_divide) rfl rfl rfl (by decide +kernel) ⟨Nat.le_of_ble_eq_true rfl, Nat.le_of_ble_eq_true rfl⟩) (pw_preBn hw hM hBn) rfl rfl hl.1 rfl (lv_room (Nat.le_of_ble_eq_true rfl)) d_K_combine_249 ⟨Nat.le_of_ble_eq_true rfl, Nat.le_of_ble_eq_true rfl⟩) (fun F249 H locs q249 hw => ?_)
              obtain ⟨hBT, hf249⟩ := q249
              have hK_at_249 : F249 (0) = .inr (5, [.ref (ad (1)), .ref (ad (82)), .ref (ad (96)), .int (iI (pS g))]) := (hf249 (0) (by omega)).trans hK
              have hOu_at_249 : F249 (2 + 5 * u) = .inr (1, [.ref (ad (2 + 5 * u + 1)), .ref (ad (2 + 5 * u + 3)), .int (iI ((us : Int)))]) := (hf249 (2 + 5 * u) (by omega)).trans hOu
              have hFu_at_249 : Frc ty ad F249 (2 + 5 * u) ut (bS g u) us := Frc.m5 hFu (hf249 (2 + 5 * u) (by omega)) (hf249 (2 + 5 * u + 1) (by omega)) (hf249 (2 + 5 * u + 2) (by omega)) (hf249 (2 + 5 * u + 3) (by omega)) (hf249 (2 + 5 * u + 4) (by omega))
              have hOx_at_249 : F249 (2 + 5 * x) = .inr (1, [.ref (ad (2 + 5 * x + 1)), .ref (ad (2 + 5 * x + 3)), .int (iI ((xs : Int)))]) := (hf249 (2 + 5 * x) (by omega)).trans hOx
              have hFx_at_249 : Frc ty ad F249 (2 + 5 * x) xt (bS g x) xs := Frc.m5 hFx (hf249 (2 + 5 * x) (by omega)) (hf249 (2 + 5 * x + 1) (by omega)) (hf249 (2 + 5 * x + 2) (by omega)) (hf249 (2 + 5 * x + 3) (by omega)) (hf249 (2 + 5 * x + 4) (by omega))
              have hOy_at_249 : F249 (2 + 5 * y) = .inr (1, [.ref (ad (2 + 5 * y + 1)), .ref (ad (2 + 5 * y + 3)), .int (iI ((ys : Int)))]) := (hf249 (2 + 5 * y) (by omega)).trans hOy
              have hFy_at_249 : Frc ty ad F249 (2 + 5 * y) yt (bS g y) ys := Frc.m5 hFy (hf249 (2 + 5 * y) (by omega)) (hf249 (2 + 5 * y + 1) (by omega)) (hf249 (2 + 5 * y + 2) (by omega)) (hf249 (2 + 5 * y + 3) (by omega)) (hf249 (2 + 5 * y + 4) (by omega))
              refine lv_aload_n hx hb d_K_combine_252 rfl (lv_at hl 0 rfl) ?_
              refine pw_get (ci := 5) (C := R_K) (T := T_K) (N := 4) hx hb hq i_K hown hw (by omega) hK_at_249 rfl 1 (by decide) (hq _ fl_K_19) (fun _ h9 => h9) rfl d_K_combine_253 ?_
              refine lv_aload hx hb d_K_combine_256 (lv_at hl 2 rfl) ?_
              refine pw_calli hw (va_runV (As := [.ref (ad (2 + 5 * u))]) (rest := []) ⟨hx, hb, hml, hown, hq⟩ (c_B_keepReduced l D ty ad M F249 H.size hM (xt * bS g y) (yt * bS g x) (if xs = ys then 0 else 1) hBT ((hsmx1.mul hsmy2).toMd) ((hsmy1.mul hsmx2).toMd) (2 + 5 * u) ut (bS g u) us (by omega) hFu_at_249 (by omega)) (cwV 1 hq (gV ml_K_49 im_B_keepReduced se_B_keepReduced in_B m_B_keepReduced) rfl rfl rfl (by decide +kernel) ⟨Nat.le_of_ble_eq_true rfl, Nat.le_of_ble_eq_true rfl⟩) (pw_preBn hw hM (hBT).bn) rfl rfl hl.1 rfl (lv_room (Nat.le_of_ble_eq_true rfl)) d_K_combine_258 ⟨Nat.le_of_ble_eq_true rfl, Nat.le_of_ble_eq_true rfl⟩) (fun r258 F258 H locs q258 hw => ?_)
              have hkr := hDk.kr (fun y9 h9 => (hf249 (y9) (by omega)).trans ((congrFun hFe y9))) (show u < 16 by omega) (hBT).1 q258.1.1 q258.1.2 q258.2
              rw [← hQ]
              refine W.widen (k := 8) (n := 48) (Nat.le_of_ble_eq_true rfl) (Nat.le_of_ble_eq_true rfl) ?_
              exact vx_ret (pw_iret hx hb hr hlocks hw (by
                rw [dPost, o_combine_ok ⟨hRto, hRa, hRb1⟩ hk h8 hd eu ex ey, c115_3, cmb_3]
                dsimp only
                rw [sg_q hsx hsy (sB_1 eys), sg_cmp, hzx, eyt, ab] at hkr
                exact ⟨rfl, hkr⟩) d_K_combine_261)
            · skip
              by_cases c115_4 : kd = 4
              · refine wz_tabIn (k := 4) (off := 147) (tgt := 262) hx hb d_K_combine_115 c115_4 (by omega) (by omega) (by decide) rfl (by decide) ?_
                refine lv_aload_n hx hb d_K_combine_262 rfl (lv_at hl 0 rfl) ?_
                refine pw_get (ci := 5) (C := R_K) (T := T_K) (N := 4) hx hb hq i_K hown hw (by omega) hK rfl 1 (by decide) (hq _ fl_K_19) (fun _ h9 => h9) rfl d_K_combine_263 ?_
                refine lv_aload_n hx hb d_K_combine_266 rfl (lv_at hl 0 rfl) ?_
                refine pw_get (ci := 5) (C := R_K) (T := T_K) (N := 4) hx hb hq i_K hown hw (by omega) hK rfl 1 (by decide) (hq _ fl_K_19) (fun _ h9 => h9) rfl d_K_combine_267 ?_
                refine lv_aload hx hb d_K_combine_270 (lv_at hl 3 rfl) ?_
                refine lv_aload hx hb d_K_combine_272 (lv_at hl 4 rfl) ?_
                refine pw_calli hw (va_runV (As := [.ref (ad (2 + 5 * x)), .ref (ad (2 + 5 * y))]) (rest := [.ref (ad (82))]) ⟨hx, hb, hml, hown, hq⟩ (c_B_compareFractions l D ty ad M F114 H.size hM hBn (2 + 5 * x) xt (bS g x) xs (by omega) hFx (by omega) hsmx1 hsmx2 (2 + 5 * y) yt (bS g y) ys (by omega) hFy (by omega) hsmy1 hsmy2 (sB_ab exs ext) (sB_ab eys eyt) hpx hpy) (cwV 2 hq (gV ml_K_80 im_B_compareFractions se_B_compareFractions in_B m_B_compareFractions) rfl rfl rfl (by decide +kernel) ⟨Nat.le_of_ble_eq_true rfl, Nat.le_of_ble_eq_true rfl⟩) (pw_preBn hw hM hBn) rfl rfl hl.1 rfl (lv_room (Nat.le_of_ble_eq_true rfl)) d_K_combine_274 ⟨Nat.le_of_ble_eq_true rfl, Nat.le_of_ble_eq_true rfl⟩) (fun r274 F274 H locs q274 hw => ?_)
                obtain ⟨er274, hBn, hf274⟩ := q274
                rw [sg_cmp, sg_cmp, hzx, hzy] at er274
                subst er274
                have hcz := cmpZ_b (zS g x * bS g y) (zS g y * bS g x)
                have hK_at_274 : F274 (0) = .inr (5, [.ref (ad (1)), .ref (ad (82)), .ref (ad (96)), .int (iI (pS g))]) := (hf274 (0) (by omega)).trans hK
                have hOu_at_274 : F274 (2 + 5 * u) = .inr (1, [.ref (ad (2 + 5 * u + 1)), .ref (ad (2 + 5 * u + 3)), .int (iI ((us : Int)))]) := (hf274 (2 + 5 * u) (by omega)).trans hOu
                have hFu_at_274 : Frc ty ad F274 (2 + 5 * u) ut (bS g u) us := Frc.m5 hFu (hf274 (2 + 5 * u) (by omega)) (hf274 (2 + 5 * u + 1) (by omega)) (hf274 (2 + 5 * u + 2) (by omega)) (hf274 (2 + 5 * u + 3) (by omega)) (hf274 (2 + 5 * u + 4) (by omega))
                have hOx_at_274 : F274 (2 + 5 * x) = .inr (1, [.ref (ad (2 + 5 * x + 1)), .ref (ad (2 + 5 * x + 3)), .int (iI ((xs : Int)))]) := (hf274 (2 + 5 * x) (by omega)).trans hOx
                have hFx_at_274 : Frc ty ad F274 (2 + 5 * x) xt (bS g x) xs := Frc.m5 hFx (hf274 (2 + 5 * x) (by omega)) (hf274 (2 + 5 * x + 1) (by omega)) (hf274 (2 + 5 * x + 2) (by omega)) (hf274 (2 + 5 * x + 3) (by omega)) (hf274 (2 + 5 * x + 4) (by omega))
                have hOy_at_274 : F274 (2 + 5 * y) = .inr (1, [.ref (ad (2 + 5 * y + 1)), .ref (ad (2 + 5 * y + 3)), .int (iI ((ys : Int)))]) := (hf274 (2 + 5 * y) (by omega)).trans hOy
                have hFy_at_274 : Frc ty ad F274 (2 + 5 * y) yt (bS g y) ys := Frc.m5 hFy (hf274 (2 + 5 * y) (by omega)) (hf274 (2 + 5 * y + 1) (by omega)) (hf274 (2 + 5 * y + 2) (by omega)) (hf274 (2 + 5 * y + 3) (by omega)) (hf274 (2 + 5 * y + 4) (by omega))
                refine wz_if_gt (tgt := 285) hx hb d_K_combine_277 (by decide) (by omega) (by omega) (fun c277 => ?_) (fun c277 => ?_)
                · refine lv_aload hx hb d_K_combine_285 (lv_at hl 4 rfl) ?_
                  obtain ⟨⟨bb9, -, hB9⟩, hw83, hw85, -⟩ := id hBn
                  refine pw_callv hw (va_runV (As := [.ref (ad (2 + 5 * y))]) (rest := []) ⟨hx, hb, hml, hown, hq⟩ (c_B_take l D ty ad M F274 H.size hM bb9 (2 + 5 * y) yt (bS g y) ys (by omega) hFy_at_274 (by omega) hsmy1 hsmy2 hB9 hw83 hw85) (cwV 1 hq (gV ml_K_84 im_B_take se_B_take in_B m_B_take) rfl rfl rfl (by decide +kernel) ⟨Nat.le_of_ble_eq_true rfl, Nat.le_of_ble_eq_true rfl⟩) (pw_preBn hw hM hBn) rfl rfl hl.1 rfl (lv_room (Nat.le_of_ble_eq_true rfl)) d_K_combine_287 ⟨Nat.le_of_ble_eq_true rfl, Nat.le_of_ble_eq_true rfl⟩) (fun F287 H locs q287 hw => ?_)
                  have hBT := BnT.of_take hBn hsy q287
                  have hf287 : ∀ y, y < 82 ∨ 86 < y → F287 y = F274 y := q287.2.2.2
                  have hK_at_287 : F287 (0) = .inr (5, [.ref (ad (1)), .ref (ad (82)), .ref (ad (96)), .int (iI (pS g))]) := (hf287 (0) (by omega)).trans hK_at_274
                  have hOu_at_287 : F287 (2 + 5 * u) = .inr (1, [.ref (ad (2 + 5 * u + 1)), .ref (ad (2 + 5 * u + 3)), .int (iI ((us : Int)))]) := (hf287 (2 + 5 * u) (by omega)).trans hOu_at_274
                  have hFu_at_287 : Frc ty ad F287 (2 + 5 * u) ut (bS g u) us := Frc.m5 hFu_at_274 (hf287 (2 + 5 * u) (by omega)) (hf287 (2 + 5 * u + 1) (by omega)) (hf287 (2 + 5 * u + 2) (by omega)) (hf287 (2 + 5 * u + 3) (by omega)) (hf287 (2 + 5 * u + 4) (by omega))
                  have hOx_at_287 : F287 (2 + 5 * x) = .inr (1, [.ref (ad (2 + 5 * x + 1)), .ref (ad (2 + 5 * x + 3)), .int (iI ((xs : Int)))]) := (hf287 (2 + 5 * x) (by omega)).trans hOx_at_274
                  have hFx_at_287 : Frc ty ad F287 (2 + 5 * x) xt (bS g x) xs := Frc.m5 hFx_at_274 (hf287 (2 + 5 * x) (by omega)) (hf287 (2 + 5 * x + 1) (by omega)) (hf287 (2 + 5 * x + 2) (by omega)) (hf287 (2 + 5 * x + 3) (by omega)) (hf287 (2 + 5 * x + 4) (by omega))
                  have hOy_at_287 : F287 (2 + 5 * y) = .inr (1, [.ref (ad (2 + 5 * y + 1)), .ref (ad (2 + 5 * y + 3)), .int (iI ((ys : Int)))]) := (hf287 (2 + 5 * y) (by omega)).trans hOy_at_274
                  have hFy_at_287 : Frc ty ad F287 (2 + 5 * y) yt (bS g y) ys := Frc.m5 hFy_at_274 (hf287 (2 + 5 * y) (by omega)) (hf287 (2 + 5 * y + 1) (by omega)) (hf287 (2 + 5 * y + 2) (by omega)) (hf287 (2 + 5 * y + 3) (by omega)) (hf287 (2 + 5 * y + 4) (by omega))
                  refine lv_aload_n hx hb d_K_combine_290 rfl (lv_at hl 0 rfl) ?_
                  refine pw_get (ci := 5) (C := R_K) (T := T_K) (N := 4) hx hb hq i_K hown hw (by omega) hK_at_287 rfl 1 (by decide) (hq _ fl_K_19) (fun _ h9 => h9) rfl d_K_combine_291 ?_
                  refine lv_aload hx hb d_K_combine_294 (lv_at hl 2 rfl) ?_
                  refine pw_calli hw (va_runV (As := [.ref (ad (2 + 5 * u))]) (rest := []) ⟨hx, hb, hml, hown, hq⟩ (c_B_keep l D ty ad M F287 H.size hM (yt) (bS g y) (ys) hBT (2 + 5 * u) ut (bS g u) us (by omega) hFu_at_287 (by omega)) (cwV 1 hq (gV ml_K_88 im_B_keep se_B_keep in_B m_B_keep) rfl rfl rfl (by decide +kernel) ⟨Nat.le_of_ble_eq_true rfl, Nat.le_of_ble_eq_true rfl⟩) (pw_preBn hw hM (hBT).bn) rfl rfl hl.1 rfl (lv_room (Nat.le_of_ble_eq_true rfl)) d_K_combine_296 ⟨Nat.le_of_ble_eq_true rfl, Nat.le_of_ble_eq_true rfl⟩) (fun r296 F296 H locs q296 hw => ?_)
                  have hkr := hDk.k (fun y9 h9 => (hf287 (y9) (by omega)).trans ((hf274 (y9) (by omega)).trans ((congrFun hFe y9)))) (show u < 16 by omega) (hBT).1 (hBT).bn q296
                  rw [← hQ]
                  refine W.widen (k := 8) (n := 48) (Nat.le_of_ble_eq_true rfl) (Nat.le_of_ble_eq_true rfl) ?_
                  exact vx_ret (pw_iret hx hb hr hlocks hw (by
                    rw [dPost, o_combine_ok ⟨hRto, hRa, hRb1⟩ hk h8 hd eu ex ey, c115_4, cmb_4, if_neg (fun h9 => absurd (cmpZ_le.mpr h9) (by omega))]
                    dsimp only
                    rw [s_lay_1 _ _ _ _ (by rw [show (zS g y).natAbs = yt from eyt.symm]; exact hgy)]
                    rw [hzy] at hkr
                    exact ⟨rfl, hkr⟩) d_K_combine_299)
                · refine lv_aload hx hb d_K_combine_280 (lv_at hl 3 rfl) ?_
                  refine lv_goto (tgt := 287) hx hb d_K_combine_282 (by decide) ?_
                  obtain ⟨⟨bb9, -, hB9⟩, hw83, hw85, -⟩ := id hBn
                  refine pw_callv hw (va_runV (As := [.ref (ad (2 + 5 * x))]) (rest := []) ⟨hx, hb, hml, hown, hq⟩ (c_B_take l D ty ad M F274 H.size hM bb9 (2 + 5 * x) xt (bS g x) xs (by omega) hFx_at_274 (by omega) hsmx1 hsmx2 hB9 hw83 hw85) (cwV 1 hq (gV ml_K_84 im_B_take se_B_take in_B m_B_take) rfl rfl rfl (by decide +kernel) ⟨Nat.le_of_ble_eq_true rfl, Nat.le_of_ble_eq_true rfl⟩) (pw_preBn hw hM hBn) rfl rfl hl.1 rfl (lv_room (Nat.le_of_ble_eq_true rfl)) d_K_combine_287 ⟨Nat.le_of_ble_eq_true rfl, Nat.le_of_ble_eq_true rfl⟩) (fun F287 H locs q287 hw => ?_)
                  have hBT := BnT.of_take hBn hsx q287
                  have hf287 : ∀ y, y < 82 ∨ 86 < y → F287 y = F274 y := q287.2.2.2
                  have hK_at_287 : F287 (0) = .inr (5, [.ref (ad (1)), .ref (ad (82)), .ref (ad (96)), .int (iI (pS g))]) := (hf287 (0) (by omega)).trans hK_at_274
                  have hOu_at_287 : F287 (2 + 5 * u) = .inr (1, [.ref (ad (2 + 5 * u + 1)), .ref (ad (2 + 5 * u + 3)), .int (iI ((us : Int)))]) := (hf287 (2 + 5 * u) (by omega)).trans hOu_at_274
                  have hFu_at_287 : Frc ty ad F287 (2 + 5 * u) ut (bS g u) us := Frc.m5 hFu_at_274 (hf287 (2 + 5 * u) (by omega)) (hf287 (2 + 5 * u + 1) (by omega)) (hf287 (2 + 5 * u + 2) (by omega)) (hf287 (2 + 5 * u + 3) (by omega)) (hf287 (2 + 5 * u + 4) (by omega))
                  have hOx_at_287 : F287 (2 + 5 * x) = .inr (1, [.ref (ad (2 + 5 * x + 1)), .ref (ad (2 + 5 * x + 3)), .int (iI ((xs : Int)))]) := (hf287 (2 + 5 * x) (by omega)).trans hOx_at_274
                  have hFx_at_287 : Frc ty ad F287 (2 + 5 * x) xt (bS g x) xs := Frc.m5 hFx_at_274 (hf287 (2 + 5 * x) (by omega)) (hf287 (2 + 5 * x + 1) (by omega)) (hf287 (2 + 5 * x + 2) (by omega)) (hf287 (2 + 5 * x + 3) (by omega)) (hf287 (2 + 5 * x + 4) (by omega))
                  have hOy_at_287 : F287 (2 + 5 * y) = .inr (1, [.ref (ad (2 + 5 * y + 1)), .ref (ad (2 + 5 * y + 3)), .int (iI ((ys : Int)))]) := (hf287 (2 + 5 * y) (by omega)).trans hOy_at_274
                  have hFy_at_287 : Frc ty ad F287 (2 + 5 * y) yt (bS g y) ys := Frc.m5 hFy_at_274 (hf287 (2 + 5 * y) (by omega)) (hf287 (2 + 5 * y + 1) (by omega)) (hf287 (2 + 5 * y + 2) (by omega)) (hf287 (2 + 5 * y + 3) (by omega)) (hf287 (2 + 5 * y + 4) (by omega))
                  refine lv_aload_n hx hb d_K_combine_290 rfl (lv_at hl 0 rfl) ?_
                  refine pw_get (ci := 5) (C := R_K) (T := T_K) (N := 4) hx hb hq i_K hown hw (by omega) hK_at_287 rfl 1 (by decide) (hq _ fl_K_19) (fun _ h9 => h9) rfl d_K_combine_291 ?_
                  refine lv_aload hx hb d_K_combine_294 (lv_at hl 2 rfl) ?_
                  refine pw_calli hw (va_runV (As := [.ref (ad (2 + 5 * u))]) (rest := []) ⟨hx, hb, hml, hown, hq⟩ (c_B_keep l D ty ad M F287 H.size hM (xt) (bS g x) (xs) hBT (2 + 5 * u) ut (bS g u) us (by omega) hFu_at_287 (by omega)) (cwV 1 hq (gV ml_K_88 im_B_keep se_B_keep in_B m_B_keep) rfl rfl rfl (by decide +kernel) ⟨Nat.le_of_ble_eq_true rfl, Nat.le_of_ble_eq_true rfl⟩) (pw_preBn hw hM (hBT).bn) rfl rfl hl.1 rfl (lv_room (Nat.le_of_ble_eq_true rfl)) d_K_combine_296 ⟨Nat.le_of_ble_eq_true rfl, Nat.le_of_ble_eq_true rfl⟩) (fun r296 F296 H locs q296 hw => ?_)
                  have hkr := hDk.k (fun y9 h9 => (hf287 (y9) (by omega)).trans ((hf274 (y9) (by omega)).trans ((congrFun hFe y9)))) (show u < 16 by omega) (hBT).1 (hBT).bn q296
                  rw [← hQ]
                  refine W.widen (k := 8) (n := 48) (Nat.le_of_ble_eq_true rfl) (Nat.le_of_ble_eq_true rfl) ?_
                  exact vx_ret (pw_iret hx hb hr hlocks hw (by
                    rw [dPost, o_combine_ok ⟨hRto, hRa, hRb1⟩ hk h8 hd eu ex ey, c115_4, cmb_4, if_pos (cmpZ_le.mp c277)]
                    dsimp only
                    rw [s_lay_1 _ _ _ _ (by rw [show (zS g x).natAbs = xt from ext.symm]; exact hgx)]
                    rw [hzx] at hkr
                    exact ⟨rfl, hkr⟩) d_K_combine_299)
              · skip
                by_cases c115_5 : kd = 5
                · refine wz_tabIn (k := 5) (off := 185) (tgt := 300) hx hb d_K_combine_115 c115_5 (by omega) (by omega) (by decide) rfl (by decide) ?_
                  refine lv_aload_n hx hb d_K_combine_300 rfl (lv_at hl 0 rfl) ?_
                  refine pw_get (ci := 5) (C := R_K) (T := T_K) (N := 4) hx hb hq i_K hown hw (by omega) hK rfl 1 (by decide) (hq _ fl_K_19) (fun _ h9 => h9) rfl d_K_combine_301 ?_
                  refine lv_aload_n hx hb d_K_combine_304 rfl (lv_at hl 0 rfl) ?_
                  refine pw_get (ci := 5) (C := R_K) (T := T_K) (N := 4) hx hb hq i_K hown hw (by omega) hK rfl 1 (by decide) (hq _ fl_K_19) (fun _ h9 => h9) rfl d_K_combine_305 ?_
                  refine lv_aload hx hb d_K_combine_308 (lv_at hl 3 rfl) ?_
                  refine lv_aload hx hb d_K_combine_310 (lv_at hl 4 rfl) ?_
                  refine pw_calli hw (va_runV (As := [.ref (ad (2 + 5 * x)), .ref (ad (2 + 5 * y))]) (rest := [.ref (ad (82))]) ⟨hx, hb, hml, hown, hq⟩ (c_B_compareFractions l D ty ad M F114 H.size hM hBn (2 + 5 * x) xt (bS g x) xs (by omega) hFx (by omega) hsmx1 hsmx2 (2 + 5 * y) yt (bS g y) ys (by omega) hFy (by omega) hsmy1 hsmy2 (sB_ab exs ext) (sB_ab eys eyt) hpx hpy) (cwV 2 hq (gV ml_K_80 im_B_compareFractions se_B_compareFractions in_B m_B_compareFractions) rfl rfl rfl (by decide +kernel) ⟨Nat.le_of_ble_eq_true rfl, Nat.le_of_ble_eq_true rfl⟩) (pw_preBn hw hM hBn) rfl rfl hl.1 rfl (lv_room (Nat.le_of_ble_eq_true rfl)) d_K_combine_312 ⟨Nat.le_of_ble_eq_true rfl, Nat.le_of_ble_eq_true rfl⟩) (fun r312 F312 H locs q312 hw => ?_)
                  obtain ⟨er312, hBn, hf312⟩ := q312
                  rw [sg_cmp, sg_cmp, hzx, hzy] at er312
                  subst er312
                  have hcz := cmpZ_b (zS g x * bS g y) (zS g y * bS g x)
                  have hK_at_312 : F312 (0) = .inr (5, [.ref (ad (1)), .ref (ad (82)), .ref (ad (96)), .int (iI (pS g))]) := (hf312 (0) (by omega)).trans hK
                  have hOu_at_312 : F312 (2 + 5 * u) = .inr (1, [.ref (ad (2 + 5 * u + 1)), .ref (ad (2 + 5 * u + 3)), .int (iI ((us : Int)))]) := (hf312 (2 + 5 * u) (by omega)).trans hOu
                  have hFu_at_312 : Frc ty ad F312 (2 + 5 * u) ut (bS g u) us := Frc.m5 hFu (hf312 (2 + 5 * u) (by omega)) (hf312 (2 + 5 * u + 1) (by omega)) (hf312 (2 + 5 * u + 2) (by omega)) (hf312 (2 + 5 * u + 3) (by omega)) (hf312 (2 + 5 * u + 4) (by omega))
                  have hOx_at_312 : F312 (2 + 5 * x) = .inr (1, [.ref (ad (2 + 5 * x + 1)), .ref (ad (2 + 5 * x + 3)), .int (iI ((xs : Int)))]) := (hf312 (2 + 5 * x) (by omega)).trans hOx
                  have hFx_at_312 : Frc ty ad F312 (2 + 5 * x) xt (bS g x) xs := Frc.m5 hFx (hf312 (2 + 5 * x) (by omega)) (hf312 (2 + 5 * x + 1) (by omega)) (hf312 (2 + 5 * x + 2) (by omega)) (hf312 (2 + 5 * x + 3) (by omega)) (hf312 (2 + 5 * x + 4) (by omega))
                  have hOy_at_312 : F312 (2 + 5 * y) = .inr (1, [.ref (ad (2 + 5 * y + 1)), .ref (ad (2 + 5 * y + 3)), .int (iI ((ys : Int)))]) := (hf312 (2 + 5 * y) (by omega)).trans hOy
                  have hFy_at_312 : Frc ty ad F312 (2 + 5 * y) yt (bS g y) ys := Frc.m5 hFy (hf312 (2 + 5 * y) (by omega)) (hf312 (2 + 5 * y + 1) (by omega)) (hf312 (2 + 5 * y + 2) (by omega)) (hf312 (2 + 5 * y + 3) (by omega)) (hf312 (2 + 5 * y + 4) (by omega))
                  refine wz_if_lt (tgt := 323) hx hb d_K_combine_315 (by decide) (by omega) (by omega) (fun c315 => ?_) (fun c315 => ?_)
                  · refine lv_aload hx hb d_K_combine_323 (lv_at hl 4 rfl) ?_
                    obtain ⟨⟨bb9, -, hB9⟩, hw83, hw85, -⟩ := id hBn
                    refine pw_callv hw (va_runV (As := [.ref (ad (2 + 5 * y))]) (rest := []) ⟨hx, hb, hml, hown, hq⟩ (c_B_take l D ty ad M F312 H.size hM bb9 (2 + 5 * y) yt (bS g y) ys (by omega) hFy_at_312 (by omega) hsmy1 hsmy2 hB9 hw83 hw85) (cwV 1 hq (gV ml_K_84 im_B_take se_B_take in_B m_B_take) rfl rfl rfl (by decide +kernel) ⟨Nat.le_of_ble_eq_true rfl, Nat.le_of_ble_eq_true rfl⟩) (pw_preBn hw hM hBn) rfl rfl hl.1 rfl (lv_room (Nat.le_of_ble_eq_true rfl)) d_K_combine_325 ⟨Nat.le_of_ble_eq_true rfl, Nat.le_of_ble_eq_true rfl⟩) (fun F325 H locs q325 hw => ?_)
                    have hBT := BnT.of_take hBn hsy q325
                    have hf325 : ∀ y, y < 82 ∨ 86 < y → F325 y = F312 y := q325.2.2.2
                    have hK_at_325 : F325 (0) = .inr (5, [.ref (ad (1)), .ref (ad (82)), .ref (ad (96)), .int (iI (pS g))]) := (hf325 (0) (by omega)).trans hK_at_312
                    have hOu_at_325 : F325 (2 + 5 * u) = .inr (1, [.ref (ad (2 + 5 * u + 1)), .ref (ad (2 + 5 * u + 3)), .int (iI ((us : Int)))]) := (hf325 (2 + 5 * u) (by omega)).trans hOu_at_312
                    have hFu_at_325 : Frc ty ad F325 (2 + 5 * u) ut (bS g u) us := Frc.m5 hFu_at_312 (hf325 (2 + 5 * u) (by omega)) (hf325 (2 + 5 * u + 1) (by omega)) (hf325 (2 + 5 * u + 2) (by omega)) (hf325 (2 + 5 * u + 3) (by omega)) (hf325 (2 + 5 * u + 4) (by omega))
                    have hOx_at_325 : F325 (2 + 5 * x) = .inr (1, [.ref (ad (2 + 5 * x + 1)), .ref (ad (2 + 5 * x + 3)), .int (iI ((xs : Int)))]) := (hf325 (2 + 5 * x) (by omega)).trans hOx_at_312
                    have hFx_at_325 : Frc ty ad F325 (2 + 5 * x) xt (bS g x) xs := Frc.m5 hFx_at_312 (hf325 (2 + 5 * x) (by omega)) (hf325 (2 + 5 * x + 1) (by omega)) (hf325 (2 + 5 * x + 2) (by omega)) (hf325 (2 + 5 * x + 3) (by omega)) (hf325 (2 + 5 * x + 4) (by omega))
                    have hOy_at_325 : F325 (2 + 5 * y) = .inr (1, [.ref (ad (2 + 5 * y + 1)), .ref (ad (2 + 5 * y + 3)), .int (iI ((ys : Int)))]) := (hf325 (2 + 5 * y) (by omega)).trans hOy_at_312
                    have hFy_at_325 : Frc ty ad F325 (2 + 5 * y) yt (bS g y) ys := Frc.m5 hFy_at_312 (hf325 (2 + 5 * y) (by omega)) (hf325 (2 + 5 * y + 1) (by omega)) (hf325 (2 + 5 * y + 2) (by omega)) (hf325 (2 + 5 * y + 3) (by omega)) (hf325 (2 + 5 * y + 4) (by omega))
                    refine lv_aload_n hx hb d_K_combine_328 rfl (lv_at hl 0 rfl) ?_
                    refine pw_get (ci := 5) (C := R_K) (T := T_K) (N := 4) hx hb hq i_K hown hw (by omega) hK_at_325 rfl 1 (by decide) (hq _ fl_K_19) (fun _ h9 => h9) rfl d_K_combine_329 ?_
                    refine lv_aload hx hb d_K_combine_332 (lv_at hl 2 rfl) ?_
                    refine pw_calli hw (va_runV (As := [.ref (ad (2 + 5 * u))]) (rest := []) ⟨hx, hb, hml, hown, hq⟩ (c_B_keep l D ty ad M F325 H.size hM (yt) (bS g y) (ys) hBT (2 + 5 * u) ut (bS g u) us (by omega) hFu_at_325 (by omega)) (cwV 1 hq (gV ml_K_88 im_B_keep se_B_keep in_B m_B_keep) rfl rfl rfl (by decide +kernel) ⟨Nat.le_of_ble_eq_true rfl, Nat.le_of_ble_eq_true rfl⟩) (pw_preBn hw hM (hBT).bn) rfl rfl hl.1 rfl (lv_room (Nat.le_of_ble_eq_true rfl)) d_K_combine_334 ⟨Nat.le_of_ble_eq_true rfl, Nat.le_of_ble_eq_true rfl⟩) (fun r334 F334 H locs q334 hw => ?_)
                    have hkr := hDk.k (fun y9 h9 => (hf325 (y9) (by omega)).trans ((hf312 (y9) (by omega)).trans ((congrFun hFe y9)))) (show u < 16 by omega) (hBT).1 (hBT).bn q334
                    rw [← hQ]
                    refine W.widen (k := 8) (n := 48) (Nat.le_of_ble_eq_true rfl) (Nat.le_of_ble_eq_true rfl) ?_
                    exact vx_ret (pw_iret hx hb hr hlocks hw (by
                      rw [dPost, o_combine_ok ⟨hRto, hRa, hRb1⟩ hk h8 hd eu ex ey, c115_5, cmb_5, if_neg (fun h9 => absurd (cmpZ_ge.mpr h9) (by omega))]
                      dsimp only
                      rw [s_lay_1 _ _ _ _ (by rw [show (zS g y).natAbs = yt from eyt.symm]; exact hgy)]
                      rw [hzy] at hkr
                      exact ⟨rfl, hkr⟩) d_K_combine_337)
                  · refine lv_aload hx hb d_K_combine_318 (lv_at hl 3 rfl) ?_
                    refine lv_goto (tgt := 325) hx hb d_K_combine_320 (by decide) ?_
                    obtain ⟨⟨bb9, -, hB9⟩, hw83, hw85, -⟩ := id hBn
                    refine pw_callv hw (va_runV (As := [.ref (ad (2 + 5 * x))]) (rest := []) ⟨hx, hb, hml, hown, hq⟩ (c_B_take l D ty ad M F312 H.size hM bb9 (2 + 5 * x) xt (bS g x) xs (by omega) hFx_at_312 (by omega) hsmx1 hsmx2 hB9 hw83 hw85) (cwV 1 hq (gV ml_K_84 im_B_take se_B_take in_B m_B_take) rfl rfl rfl (by decide +kernel) ⟨Nat.le_of_ble_eq_true rfl, Nat.le_of_ble_eq_true rfl⟩) (pw_preBn hw hM hBn) rfl rfl hl.1 rfl (lv_room (Nat.le_of_ble_eq_true rfl)) d_K_combine_325 ⟨Nat.le_of_ble_eq_true rfl, Nat.le_of_ble_eq_true rfl⟩) (fun F325 H locs q325 hw => ?_)
                    have hBT := BnT.of_take hBn hsx q325
                    have hf325 : ∀ y, y < 82 ∨ 86 < y → F325 y = F312 y := q325.2.2.2
                    have hK_at_325 : F325 (0) = .inr (5, [.ref (ad (1)), .ref (ad (82)), .ref (ad (96)), .int (iI (pS g))]) := (hf325 (0) (by omega)).trans hK_at_312
                    have hOu_at_325 : F325 (2 + 5 * u) = .inr (1, [.ref (ad (2 + 5 * u + 1)), .ref (ad (2 + 5 * u + 3)), .int (iI ((us : Int)))]) := (hf325 (2 + 5 * u) (by omega)).trans hOu_at_312
                    have hFu_at_325 : Frc ty ad F325 (2 + 5 * u) ut (bS g u) us := Frc.m5 hFu_at_312 (hf325 (2 + 5 * u) (by omega)) (hf325 (2 + 5 * u + 1) (by omega)) (hf325 (2 + 5 * u + 2) (by omega)) (hf325 (2 + 5 * u + 3) (by omega)) (hf325 (2 + 5 * u + 4) (by omega))
                    have hOx_at_325 : F325 (2 + 5 * x) = .inr (1, [.ref (ad (2 + 5 * x + 1)), .ref (ad (2 + 5 * x + 3)), .int (iI ((xs : Int)))]) := (hf325 (2 + 5 * x) (by omega)).trans hOx_at_312
                    have hFx_at_325 : Frc ty ad F325 (2 + 5 * x) xt (bS g x) xs := Frc.m5 hFx_at_312 (hf325 (2 + 5 * x) (by omega)) (hf325 (2 + 5 * x + 1) (by omega)) (hf325 (2 + 5 * x + 2) (by omega)) (hf325 (2 + 5 * x + 3) (by omega)) (hf325 (2 + 5 * x + 4) (by omega))
                    have hOy_at_325 : F325 (2 + 5 * y) = .inr (1, [.ref (ad (2 + 5 * y + 1)), .ref (ad (2 + 5 * y + 3)), .int (iI ((ys : Int)))]) := (hf325 (2 + 5 * y) (by omega)).trans hOy_at_312
                    have hFy_at_325 : Frc ty ad F325 (2 + 5 * y) yt (bS g y) ys := Frc.m5 hFy_at_312 (hf325 (2 + 5 * y) (by omega)) (hf325 (2 + 5 * y + 1) (by omega)) (hf325 (2 + 5 * y + 2) (by omega)) (hf325 (2 + 5 * y + 3) (by omega)) (hf325 (2 + 5 * y + 4) (by omega))
                    refine lv_aload_n hx hb d_K_combine_328 rfl (lv_at hl 0 rfl) ?_
                    refine pw_get (ci := 5) (C := R_K) (T := T_K) (N := 4) hx hb hq i_K hown hw (by omega) hK_at_325 rfl 1 (by decide) (hq _ fl_K_19) (fun _ h9 => h9) rfl d_K_combine_329 ?_
                    refine lv_aload hx hb d_K_combine_332 (lv_at hl 2 rfl) ?_
                    refine pw_calli hw (va_runV (As := [.ref (ad (2 + 5 * u))]) (rest := []) ⟨hx, hb, hml, hown, hq⟩ (c_B_keep l D ty ad M F325 H.size hM (xt) (bS g x) (xs) hBT (2 + 5 * u) ut (bS g u) us (by omega) hFu_at_325 (by omega)) (cwV 1 hq (gV ml_K_88 im_B_keep se_B_keep in_B m_B_keep) rfl rfl rfl (by decide +kernel) ⟨Nat.le_of_ble_eq_true rfl, Nat.le_of_ble_eq_true rfl⟩) (pw_preBn hw hM (hBT).bn) rfl rfl hl.1 rfl (lv_room (Nat.le_of_ble_eq_true rfl)) d_K_combine_334 ⟨Nat.le_of_ble_eq_true rfl, Nat.le_of_ble_eq_true rfl⟩) (fun r334 F334 H locs q334 hw => ?_)
                    have hkr := hDk.k (fun y9 h9 => (hf325 (y9) (by omega)).trans ((hf312 (y9) (by omega)).trans ((congrFun hFe y9)))) (show u < 16 by omega) (hBT).1 (hBT).bn q334
                    rw [← hQ]
                    refine W.widen (k := 8) (n := 48) (Nat.le_of_ble_eq_true rfl) (Nat.le_of_ble_eq_true rfl) ?_
                    exact vx_ret (pw_iret hx hb hr hlocks hw (by
                      rw [dPost, o_combine_ok ⟨hRto, hRa, hRb1⟩ hk h8 hd eu ex ey, c115_5, cmb_5, if_pos (cmpZ_ge.mp c315)]
                      dsimp only
                      rw [s_lay_1 _ _ _ _ (by rw [show (zS g x).natAbs = xt from ext.symm]; exact hgx)]
                      rw [hzx] at hkr
                      exact ⟨rfl, hkr⟩) d_K_combine_337)
                · skip
                  by_cases c115_6 : kd = 6
                  · refine wz_tabIn (k := 6) (off := 223) (tgt := 338) hx hb d_K_combine_115 c115_6 (by omega) (by omega) (by decide) rfl (by decide) ?_
                    refine lv_aload_n hx hb d_K_combine_338 rfl (lv_at hl 0 rfl) ?_
                    refine pw_get (ci := 5) (C := R_K) (T := T_K) (N := 4) hx hb hq i_K hown hw (by omega) hK rfl 1 (by decide) (hq _ fl_K_19) (fun _ h9 => h9) rfl d_K_combine_339 ?_
                    refine lv_aload hx hb d_K_combine_342 (lv_at hl 3 rfl) ?_
                    refine lv_aload hx hb d_K_combine_344 (lv_at hl 4 rfl) ?_
                    have hR0 : 0 < yt * bS g x := Nat.mul_pos (ab_pos eyt (fun h9 => hd ⟨by omega, h9⟩)) hpx
                    refine pw_callv hw (va_runV (As := [.ref (ad (2 + 5 * x)), .ref (ad (2 + 5 * y))]) (rest := []) ⟨hx, hb, hml, hown, hq⟩ (c_B_divideWhole l D ty ad M F114 H.size hM hBn (2 + 5 * x) xt (bS g x) xs (by omega) hFx (by omega) hsmx1 hsmx2 (2 + 5 * y) yt (bS g y) ys (by omega) hFy (by omega) hsmy1 hsmy2) (cwV 2 hq (gV ml_K_91 im_B_divideWhole se_B_divideWhole in_B m_B_divideWhole) rfl rfl rfl (by decide +kernel) ⟨Nat.le_of_ble_eq_true rfl, Nat.le_of_ble_eq_true rfl⟩) (pw_preBn hw hM hBn) rfl rfl hl.1 rfl (lv_room (Nat.le_of_ble_eq_true rfl)) d_K_combine_346 ⟨Nat.le_of_ble_eq_true rfl, Nat.le_of_ble_eq_true rfl⟩) (fun F346 H locs q346 hw => ?_)
                    obtain ⟨hBT, hf346⟩ := q346
                    have hK_at_346 : F346 (0) = .inr (5, [.ref (ad (1)), .ref (ad (82)), .ref (ad (96)), .int (iI (pS g))]) := (hf346 (0) (by omega)).trans hK
                    have hOu_at_346 : F346 (2 + 5 * u) = .inr (1, [.ref (ad (2 + 5 * u + 1)), .ref (ad (2 + 5 * u + 3)), .int (iI ((us : Int)))]) := (hf346 (2 + 5 * u) (by omega)).trans hOu
                    have hFu_at_346 : Frc ty ad F346 (2 + 5 * u) ut (bS g u) us := Frc.m5 hFu (hf346 (2 + 5 * u) (by omega)) (hf346 (2 + 5 * u + 1) (by omega)) (hf346 (2 + 5 * u + 2) (by omega)) (hf346 (2 + 5 * u + 3) (by omega)) (hf346 (2 + 5 * u + 4) (by omega))
                    have hOx_at_346 : F346 (2 + 5 * x) = .inr (1, [.ref (ad (2 + 5 * x + 1)), .ref (ad (2 + 5 * x + 3)), .int (iI ((xs : Int)))]) := (hf346 (2 + 5 * x) (by omega)).trans hOx
                    have hFx_at_346 : Frc ty ad F346 (2 + 5 * x) xt (bS g x) xs := Frc.m5 hFx (hf346 (2 + 5 * x) (by omega)) (hf346 (2 + 5 * x + 1) (by omega)) (hf346 (2 + 5 * x + 2) (by omega)) (hf346 (2 + 5 * x + 3) (by omega)) (hf346 (2 + 5 * x + 4) (by omega))
                    have hOy_at_346 : F346 (2 + 5 * y) = .inr (1, [.ref (ad (2 + 5 * y + 1)), .ref (ad (2 + 5 * y + 3)), .int (iI ((ys : Int)))]) := (hf346 (2 + 5 * y) (by omega)).trans hOy
                    have hFy_at_346 : Frc ty ad F346 (2 + 5 * y) yt (bS g y) ys := Frc.m5 hFy (hf346 (2 + 5 * y) (by omega)) (hf346 (2 + 5 * y + 1) (by omega)) (hf346 (2 + 5 * y + 2) (by omega)) (hf346 (2 + 5 * y + 3) (by omega)) (hf346 (2 + 5 * y + 4) (by omega))
                    refine lv_aload_n hx hb d_K_combine_349 rfl (lv_at hl 0 rfl) ?_
                    refine pw_get (ci := 5) (C := R_K) (T := T_K) (N := 4) hx hb hq i_K hown hw (by omega) hK_at_346 rfl 1 (by decide) (hq _ fl_K_19) (fun _ h9 => h9) rfl d_K_combine_350 ?_
                    refine lv_aload hx hb d_K_combine_353 (lv_at hl 2 rfl) ?_
                    refine pw_calli hw (va_runV (As := [.ref (ad (2 + 5 * u))]) (rest := []) ⟨hx, hb, hml, hown, hq⟩ (c_B_keep l D ty ad M F346 H.size hM (if (if xs = ys then 0 else 1) = 1 ∧ (xt * bS g y) % (yt * bS g x) ≠ 0 then (xt * bS g y) / (yt * bS g x) + 1 else (xt * bS g y) / (yt * bS g x)) (1) (if xs = ys then 0 else 1) hBT (2 + 5 * u) ut (bS g u) us (by omega) hFu_at_346 (by omega)) (cwV 1 hq (gV ml_K_88 im_B_keep se_B_keep in_B m_B_keep) rfl rfl rfl (by decide +kernel) ⟨Nat.le_of_ble_eq_true rfl, Nat.le_of_ble_eq_true rfl⟩) (pw_preBn hw hM (hBT).bn) rfl rfl hl.1 rfl (lv_room (Nat.le_of_ble_eq_true rfl)) d_K_combine_355 ⟨Nat.le_of_ble_eq_true rfl, Nat.le_of_ble_eq_true rfl⟩) (fun r355 F355 H locs q355 hw => ?_)
                    have hkr := hDk.k (fun y9 h9 => (hf346 (y9) (by omega)).trans ((congrFun hFe y9))) (show u < 16 by omega) (hBT).1 (hBT).bn q355
                    rw [← hQ]
                    refine W.widen (k := 8) (n := 48) (Nat.le_of_ble_eq_true rfl) (Nat.le_of_ble_eq_true rfl) ?_
                    exact vx_ret (pw_iret hx hb hr hlocks hw (by
                      rw [dPost, o_combine_ok ⟨hRto, hRa, hRb1⟩ hk h8 hd eu ex ey, c115_6, cmb_6]
                      dsimp only
                      rw [s_lay_1 _ _ _ _ (Nat.gcd_one_right _)]
                      rw [← sg_floor (by split <;> omega) hR0, sg_q hsx hsy (sB_1 eys), sg_cmp, hzx, eyt, ab] at hkr
                      exact ⟨rfl, hkr⟩) d_K_combine_358)
                  · skip
                    by_cases c115_7 : kd = 7
                    · refine wz_tabIn (k := 7) (off := 244) (tgt := 359) hx hb d_K_combine_115 c115_7 (by omega) (by omega) (by decide) rfl (by decide) ?_
                      refine lv_aload_n hx hb d_K_combine_359 rfl (lv_at hl 0 rfl) ?_
                      refine pw_get (ci := 5) (C := R_K) (T := T_K) (N := 4) hx hb hq i_K hown hw (by omega) hK rfl 1 (by decide) (hq _ fl_K_19) (fun _ h9 => h9) rfl d_K_combine_360 ?_
                      refine lv_aload hx hb d_K_combine_363 (lv_at hl 3 rfl) ?_
                      refine lv_aload hx hb d_K_combine_365 (lv_at hl 4 rfl) ?_
                      have hR0 : 0 < yt * bS g x := Nat.mul_pos (ab_pos eyt (fun h9 => hd ⟨by omega, h9⟩)) hpx
                      refine pw_callv hw (va_runV (As := [.ref (ad (2 + 5 * x)), .ref (ad (2 + 5 * y))]) (rest := []) ⟨hx, hb, hml, hown, hq⟩ (c_B_takeRest l D ty ad M F114 H.size hM hBn (2 + 5 * x) xt (bS g x) xs (by omega) hFx (by omega) hsmx1 hsmx2 (2 + 5 * y) yt (bS g y) ys (by omega) hFy (by omega) hsmy1 hsmy2 hR0) (cwV 2 hq (gV ml_K_94 im_B_takeRest se_B_takeRest in_B m_B_takeRest) rfl rfl rfl (by decide +kernel) ⟨Nat.le_of_ble_eq_true rfl, Nat.le_of_ble_eq_true rfl⟩) (pw_preBn hw hM hBn) rfl rfl hl.1 rfl (lv_room (Nat.le_of_ble_eq_true rfl)) d_K_combine_367 ⟨Nat.le_of_ble_eq_true rfl, Nat.le_of_ble_eq_true rfl⟩) (fun F367 H locs q367 hw => ?_)
                      obtain ⟨hBT, hf367⟩ := q367
                      have hm7 : md (if xs = ys ∨ (xt * bS g y) % (yt * bS g x) = 0 then (xt * bS g y) % (yt * bS g x) else yt * bS g x - (xt * bS g y) % (yt * bS g x)) := (hsmy1.mul hsmx2).toMd.le (by have := Nat.mod_lt (xt * bS g y) hR0; split <;> omega)
                      have hK_at_367 : F367 (0) = .inr (5, [.ref (ad (1)), .ref (ad (82)), .ref (ad (96)), .int (iI (pS g))]) := (hf367 (0) (by omega)).trans hK
                      have hOu_at_367 : F367 (2 + 5 * u) = .inr (1, [.ref (ad (2 + 5 * u + 1)), .ref (ad (2 + 5 * u + 3)), .int (iI ((us : Int)))]) := (hf367 (2 + 5 * u) (by omega)).trans hOu
                      have hFu_at_367 : Frc ty ad F367 (2 + 5 * u) ut (bS g u) us := Frc.m5 hFu (hf367 (2 + 5 * u) (by omega)) (hf367 (2 + 5 * u + 1) (by omega)) (hf367 (2 + 5 * u + 2) (by omega)) (hf367 (2 + 5 * u + 3) (by omega)) (hf367 (2 + 5 * u + 4) (by omega))
                      have hOx_at_367 : F367 (2 + 5 * x) = .inr (1, [.ref (ad (2 + 5 * x + 1)), .ref (ad (2 + 5 * x + 3)), .int (iI ((xs : Int)))]) := (hf367 (2 + 5 * x) (by omega)).trans hOx
                      have hFx_at_367 : Frc ty ad F367 (2 + 5 * x) xt (bS g x) xs := Frc.m5 hFx (hf367 (2 + 5 * x) (by omega)) (hf367 (2 + 5 * x + 1) (by omega)) (hf367 (2 + 5 * x + 2) (by omega)) (hf367 (2 + 5 * x + 3) (by omega)) (hf367 (2 + 5 * x + 4) (by omega))
                      have hOy_at_367 : F367 (2 + 5 * y) = .inr (1, [.ref (ad (2 + 5 * y + 1)), .ref (ad (2 + 5 * y + 3)), .int (iI ((ys : Int)))]) := (hf367 (2 + 5 * y) (by omega)).trans hOy
                      have hFy_at_367 : Frc ty ad F367 (2 + 5 * y) yt (bS g y) ys := Frc.m5 hFy (hf367 (2 + 5 * y) (by omega)) (hf367 (2 + 5 * y + 1) (by omega)) (hf367 (2 + 5 * y + 2) (by omega)) (hf367 (2 + 5 * y + 3) (by omega)) (hf367 (2 + 5 * y + 4) (by omega))
                      refine lv_aload_n hx hb d_K_combine_370 rfl (lv_at hl 0 rfl) ?_
                      refine pw_get (ci := 5) (C := R_K) (T := T_K) (N := 4) hx hb hq i_K hown hw (by omega) hK_at_367 rfl 1 (by decide) (hq _ fl_K_19) (fun _ h9 => h9) rfl d_K_combine_371 ?_
                      refine lv_aload hx hb d_K_combine_374 (lv_at hl 2 rfl) ?_
                      refine pw_calli hw (va_runV (As := [.ref (ad (2 + 5 * u))]) (rest := []) ⟨hx, hb, hml, hown, hq⟩ (c_B_keepReduced l D ty ad M F367 H.size hM (if xs = ys ∨ (xt * bS g y) % (yt * bS g x) = 0 then (xt * bS g y) % (yt * bS g x) else yt * bS g x - (xt * bS g y) % (yt * bS g x)) ((bS g x * bS g y)) (ys) hBT (hm7) ((hsmx2.mul hsmy2).toMd) (2 + 5 * u) ut (bS g u) us (by omega) hFu_at_367 (by omega)) (cwV 1 hq (gV ml_K_49 im_B_keepReduced se_B_keepReduced in_B m_B_keepReduced) rfl rfl rfl (by decide +kernel) ⟨Nat.le_of_ble_eq_true rfl, Nat.le_of_ble_eq_true rfl⟩) (pw_preBn hw hM (hBT).bn) rfl rfl hl.1 rfl (lv_room (Nat.le_of_ble_eq_true rfl)) d_K_combine_376 ⟨Nat.le_of_ble_eq_true rfl, Nat.le_of_ble_eq_true rfl⟩) (fun r376 F376 H locs q376 hw => ?_)
                      have hkr := hDk.kr (fun y9 h9 => (hf367 (y9) (by omega)).trans ((congrFun hFe y9))) (show u < 16 by omega) (hBT).1 q376.1.1 q376.1.2 q376.2
                      rw [← hQ]
                      refine W.widen (k := 8) (n := 48) (Nat.le_of_ble_eq_true rfl) (Nat.le_of_ble_eq_true rfl) ?_
                      exact vx_ret (pw_iret hx hb hr hlocks hw (by
                        rw [dPost, o_combine_ok ⟨hRto, hRa, hRb1⟩ hk h8 hd eu ex ey, c115_7, cmb_7]
                        dsimp only
                        rw [sg_rest hsx hsy hR0, sg_q hsx hsy (sB_1 eys), sg_cmp, sg_cmp, hzx, hzy, eyt, ab] at hkr
                        exact ⟨rfl, hkr⟩) d_K_combine_379)
                    · skip
                      refine wz_tabOut (tgt := 380) hx hb d_K_combine_115 (by omega) (by omega) (by omega) (by decide) ?_
                      refine lv_aload_n hx hb d_K_combine_380 rfl (lv_at hl 0 rfl) ?_
                      refine pw_get (ci := 5) (C := R_K) (T := T_K) (N := 4) hx hb hq i_K hown hw (by omega) hK rfl 1 (by decide) (hq _ fl_K_19) (fun _ h9 => h9) rfl d_K_combine_381 ?_
                      refine lv_aload hx hb d_K_combine_384 (lv_at hl 3 rfl) ?_
                      refine lv_aload hx hb d_K_combine_386 (lv_at hl 4 rfl) ?_
                      refine pw_callv hw (va_runV (As := [.ref (ad (2 + 5 * x)), .ref (ad (2 + 5 * y))]) (rest := []) ⟨hx, hb, hml, hown, hq⟩ (c_B_takeCommonDivisor l D ty ad M F114 H.size hM hBn (2 + 5 * x) xt (bS g x) xs (by omega) hFx (by omega) hsmx1 hsmx2 (2 + 5 * y) yt (bS g y) ys (by omega) hFy (by omega) hsmy1 hsmy2) (cwV 2 hq (gV ml_K_97 im_B_takeCommonDivisor se_B_takeCommonDivisor in_B m_B_takeCommonDivisor) rfl rfl rfl (by decide +kernel) ⟨Nat.le_of_ble_eq_true rfl, Nat.le_of_ble_eq_true rfl⟩) (pw_preBn hw hM hBn) rfl rfl hl.1 rfl (lv_room (Nat.le_of_ble_eq_true rfl)) d_K_combine_388 ⟨Nat.le_of_ble_eq_true rfl, Nat.le_of_ble_eq_true rfl⟩) (fun F388 H locs q388 hw => ?_)
                      obtain ⟨hBT, hf388⟩ := q388
                      have hK_at_388 : F388 (0) = .inr (5, [.ref (ad (1)), .ref (ad (82)), .ref (ad (96)), .int (iI (pS g))]) := (hf388 (0) (by omega)).trans hK
                      have hOu_at_388 : F388 (2 + 5 * u) = .inr (1, [.ref (ad (2 + 5 * u + 1)), .ref (ad (2 + 5 * u + 3)), .int (iI ((us : Int)))]) := (hf388 (2 + 5 * u) (by omega)).trans hOu
                      have hFu_at_388 : Frc ty ad F388 (2 + 5 * u) ut (bS g u) us := Frc.m5 hFu (hf388 (2 + 5 * u) (by omega)) (hf388 (2 + 5 * u + 1) (by omega)) (hf388 (2 + 5 * u + 2) (by omega)) (hf388 (2 + 5 * u + 3) (by omega)) (hf388 (2 + 5 * u + 4) (by omega))
                      have hOx_at_388 : F388 (2 + 5 * x) = .inr (1, [.ref (ad (2 + 5 * x + 1)), .ref (ad (2 + 5 * x + 3)), .int (iI ((xs : Int)))]) := (hf388 (2 + 5 * x) (by omega)).trans hOx
                      have hFx_at_388 : Frc ty ad F388 (2 + 5 * x) xt (bS g x) xs := Frc.m5 hFx (hf388 (2 + 5 * x) (by omega)) (hf388 (2 + 5 * x + 1) (by omega)) (hf388 (2 + 5 * x + 2) (by omega)) (hf388 (2 + 5 * x + 3) (by omega)) (hf388 (2 + 5 * x + 4) (by omega))
                      have hOy_at_388 : F388 (2 + 5 * y) = .inr (1, [.ref (ad (2 + 5 * y + 1)), .ref (ad (2 + 5 * y + 3)), .int (iI ((ys : Int)))]) := (hf388 (2 + 5 * y) (by omega)).trans hOy
                      have hFy_at_388 : Frc ty ad F388 (2 + 5 * y) yt (bS g y) ys := Frc.m5 hFy (hf388 (2 + 5 * y) (by omega)) (hf388 (2 + 5 * y + 1) (by omega)) (hf388 (2 + 5 * y + 2) (by omega)) (hf388 (2 + 5 * y + 3) (by omega)) (hf388 (2 + 5 * y + 4) (by omega))
                      refine lv_aload_n hx hb d_K_combine_391 rfl (lv_at hl 0 rfl) ?_
                      refine pw_get (ci := 5) (C := R_K) (T := T_K) (N := 4) hx hb hq i_K hown hw (by omega) hK_at_388 rfl 1 (by decide) (hq _ fl_K_19) (fun _ h9 => h9) rfl d_K_combine_392 ?_
                      refine lv_aload hx hb d_K_combine_395 (lv_at hl 2 rfl) ?_
                      refine pw_calli hw (va_runV (As := [.ref (ad (2 + 5 * u))]) (rest := []) ⟨hx, hb, hml, hown, hq⟩ (c_B_keep l D ty ad M F388 H.size hM (Nat.gcd xt yt) (1) (0) hBT (2 + 5 * u) ut (bS g u) us (by omega) hFu_at_388 (by omega)) (cwV 1 hq (gV ml_K_88 im_B_keep se_B_keep in_B m_B_keep) rfl rfl rfl (by decide +kernel) ⟨Nat.le_of_ble_eq_true rfl, Nat.le_of_ble_eq_true rfl⟩) (pw_preBn hw hM (hBT).bn) rfl rfl hl.1 rfl (lv_room (Nat.le_of_ble_eq_true rfl)) d_K_combine_397 ⟨Nat.le_of_ble_eq_true rfl, Nat.le_of_ble_eq_true rfl⟩) (fun r397 F397 H locs q397 hw => ?_)
                      have hkr := hDk.k (fun y9 h9 => (hf388 (y9) (by omega)).trans ((congrFun hFe y9))) (show u < 16 by omega) (hBT).1 (hBT).bn q397
                      rw [← hQ]
                      refine W.widen (k := 8) (n := 48) (Nat.le_of_ble_eq_true rfl) (Nat.le_of_ble_eq_true rfl) ?_
                      exact vx_ret (pw_iret hx hb hr hlocks hw (by
                        rw [dPost, o_combine_ok ⟨hRto, hRa, hRb1⟩ hk h8 hd eu ex ey, show kd = 8 by omega, cmb_8]
                        dsimp only
                        rw [s_lay_1 _ _ _ _ (Nat.gcd_one_right _)]
                        rw [sg_0, ext, eyt, ab, ab] at hkr
                        exact ⟨rfl, hkr⟩) d_K_combine_400)
    refine lv_iload_n hx hb d_K_combine_22 rfl (lv_at hl 5 rfl) ?_
    refine wz_if_lt (tgt := 32) hx hb d_K_combine_23 (by decide) (by omega) (by omega) (fun c23 => ?_) (fun c23 => ?_)
    · rw [← hQ]
      exact px_throwA (is := 53) (text := "no such kind") hx hb hl0 hown hq hxk (by decide) hw (hl.1.trans hml.symm) d_K_combine_32 d_K_combine_35 d_K_combine_36 d_K_combine_38 d_K_combine_41 hex (Nat.le_of_ble_eq_true rfl) (Nat.le_of_ble_eq_true rfl) (Nat.le_of_ble_eq_true rfl) (Nat.le_of_ble_eq_true rfl) hlocks (by
        rw [dPx, o_combine, cif_neg (fun h9 => by have := h9.2.1; omega)]
        exact ⟨Or.inl ⟨rfl, rfl⟩, hDk, fun _ _ => rfl⟩) (Nat.le_of_ble_eq_true rfl) (Nat.le_of_ble_eq_true rfl)
    · refine lv_iload_n hx hb d_K_combine_26 rfl (lv_at hl 5 rfl) ?_
      refine wz_bipush (n := 8) hx hb d_K_combine_27 (by decide) ?_
      refine wz_icmp_le (tgt := 42) hx hb d_K_combine_29 (by decide) (by omega) (by omega) (by omega) (by omega) (fun c29 => ?_) (fun c29 => ?_)
      · refine lv_iload_n hx hb d_K_combine_42 rfl (lv_at hl 5 rfl) ?_
        refine wz_bipush (n := 8) hx hb d_K_combine_43 (by decide) ?_
        refine wz_icmp_ne (tgt := 74) hx hb d_K_combine_45 (by decide) (by omega) (by omega) (by omega) (by omega) (fun c45 => ?_) (fun c45 => ?_)
        · refine lv_iload_n hx hb d_K_combine_74 rfl (lv_at hl 5 rfl) ?_
          refine wz_iconst (n := 3) hx hb d_K_combine_75 ?_
          refine wz_icmp_eq (tgt := 91) hx hb d_K_combine_76 (by decide) (by omega) (by omega) (by omega) (by omega) (fun c76 => ?_) (fun c76 => ?_)
          · refine wz_iconst (n := 1) hx hb d_K_combine_91 ?_
            refine lv_goto (tgt := 96) hx hb d_K_combine_92 (by decide) ?_
            refine lv_istore (lv' := [(8, .int (iI (1))), (7, .ref (ad (2 + 5 * y))), (6, .ref (ad (2 + 5 * x))), (5, .ref (ad (2 + 5 * u))), (0, .ref (ad (0))), (1, .int (iI (to))), (2, .int (iI (kd))), (3, .int (iI (a))), (4, .int (iI (b1)))]) hx hb d_K_combine_96 hl (by decide) rfl (fun ls hl => ?_)
            refine lv_iload hx hb d_K_combine_98 (lv_at hl 0 rfl) ?_
            refine wz_if_eq (tgt := 114) hx hb d_K_combine_100 (by decide) (by omega) (by omega) (fun c100 => ?_) (fun c100 => ?_)
            · exact K114  _ _ _ ls (by omega) (fun h9 => absurd h9 (by omega)) (fun h9 => by omega) (rfl) hK hBn hOu hFu hOx hFx hOy hFy hw (lv_sub hl [4, 6, 3, 2, 1] rfl)
            · refine lv_aload hx hb d_K_combine_103 (lv_at hl 1 rfl) ?_
              refine pw_calli hw (va_runV (As := []) (rest := []) ⟨hx, hb, hml, hown, hq⟩ (c_F_signum l D ty ad M F H.size (2 + 5 * y) yt (bS g y) ys (by omega) hFy) (cwV 0 hq (gV ml_K_61 im_F_signum se_F_signum in_F m_F_signum) rfl rfl rfl (by decide +kernel) ⟨Nat.le_of_ble_eq_true rfl, Nat.le_of_ble_eq_true rfl⟩) (pw_preV hw (by omega) hOy rfl) rfl rfl hl.1 rfl (lv_room (Nat.le_of_ble_eq_true rfl)) d_K_combine_105 ⟨Nat.le_of_ble_eq_true rfl, Nat.le_of_ble_eq_true rfl⟩) (fun r105 F105 H locs q105 hw => ?_)
              obtain ⟨er105, eF105⟩ := q105
              rw [eF105] at hw
              clear eF105
              subst er105
              have hsb := sgn_b ys yt
              refine wz_if_ne (tgt := 114) hx hb d_K_combine_108 (by decide) (by omega) (by omega) (fun c108 => ?_) (fun c108 => ?_)
              · exact K114  _ _ _ ls (by omega) (fun h9 => absurd h9 (by omega)) (fun h9 => c108 (by rw [← hzy] at h9; exact (sgn_z hsy).mpr h9.2)) (rfl) hK hBn hOu hFu hOx hFx hOy hFy hw (lv_sub hl [4, 6, 3, 2, 1] rfl)
              · refine wz_bipush (n := -2) hx hb d_K_combine_111 (by decide) ?_
                rw [← hQ]
                refine W.widen (k := 8) (n := 48) (Nat.le_of_ble_eq_true rfl) (Nat.le_of_ble_eq_true rfl) ?_
                exact vx_ret (pw_iret hx hb hr hlocks hw (by
                  rw [dPost, o_combine_0 (x := x) (y := y) ⟨hRto, hRa, hRb1⟩ (by omega) (fun h9 => by omega) ⟨by omega, by rw [← hzy]; exact (sgn_z hsy).mp c108⟩ ex ey]
                  exact ⟨rfl, rfl, hDk, fun _ _ => rfl⟩) d_K_combine_113)
          · refine lv_iload_n hx hb d_K_combine_79 rfl (lv_at hl 5 rfl) ?_
            refine wz_bipush (n := 6) hx hb d_K_combine_80 (by decide) ?_
            refine wz_icmp_eq (tgt := 91) hx hb d_K_combine_82 (by decide) (by omega) (by omega) (by omega) (by omega) (fun c82 => ?_) (fun c82 => ?_)
            · refine wz_iconst (n := 1) hx hb d_K_combine_91 ?_
              refine lv_goto (tgt := 96) hx hb d_K_combine_92 (by decide) ?_
              refine lv_istore (lv' := [(8, .int (iI (1))), (7, .ref (ad (2 + 5 * y))), (6, .ref (ad (2 + 5 * x))), (5, .ref (ad (2 + 5 * u))), (0, .ref (ad (0))), (1, .int (iI (to))), (2, .int (iI (kd))), (3, .int (iI (a))), (4, .int (iI (b1)))]) hx hb d_K_combine_96 hl (by decide) rfl (fun ls hl => ?_)
              refine lv_iload hx hb d_K_combine_98 (lv_at hl 0 rfl) ?_
              refine wz_if_eq (tgt := 114) hx hb d_K_combine_100 (by decide) (by omega) (by omega) (fun c100 => ?_) (fun c100 => ?_)
              · exact K114  _ _ _ ls (by omega) (fun h9 => absurd h9 (by omega)) (fun h9 => by omega) (rfl) hK hBn hOu hFu hOx hFx hOy hFy hw (lv_sub hl [4, 6, 3, 2, 1] rfl)
              · refine lv_aload hx hb d_K_combine_103 (lv_at hl 1 rfl) ?_
                refine pw_calli hw (va_runV (As := []) (rest := []) ⟨hx, hb, hml, hown, hq⟩ (c_F_signum l D ty ad M F H.size (2 + 5 * y) yt (bS g y) ys (by omega) hFy) (cwV 0 hq (gV ml_K_61 im_F_signum se_F_signum in_F m_F_signum) rfl rfl rfl (by decide +kernel) ⟨Nat.le_of_ble_eq_true rfl, Nat.le_of_ble_eq_true rfl⟩) (pw_preV hw (by omega) hOy rfl) rfl rfl hl.1 rfl (lv_room (Nat.le_of_ble_eq_true rfl)) d_K_combine_105 ⟨Nat.le_of_ble_eq_true rfl, Nat.le_of_ble_eq_true rfl⟩) (fun r105 F105 H locs q105 hw => ?_)
                obtain ⟨er105, eF105⟩ := q105
                rw [eF105] at hw
                clear eF105
                subst er105
                have hsb := sgn_b ys yt
                refine wz_if_ne (tgt := 114) hx hb d_K_combine_108 (by decide) (by omega) (by omega) (fun c108 => ?_) (fun c108 => ?_)
                · exact K114  _ _ _ ls (by omega) (fun h9 => absurd h9 (by omega)) (fun h9 => c108 (by rw [← hzy] at h9; exact (sgn_z hsy).mpr h9.2)) (rfl) hK hBn hOu hFu hOx hFx hOy hFy hw (lv_sub hl [4, 6, 3, 2, 1] rfl)
                · refine wz_bipush (n := -2) hx hb d_K_combine_111 (by decide) ?_
                  rw [← hQ]
                  refine W.widen (k := 8) (n := 48) (Nat.le_of_ble_eq_true rfl) (Nat.le_of_ble_eq_true rfl) ?_
                  exact vx_ret (pw_iret hx hb hr hlocks hw (by
                    rw [dPost, o_combine_0 (x := x) (y := y) ⟨hRto, hRa, hRb1⟩ (by omega) (fun h9 => by omega) ⟨by omega, by rw [← hzy]; exact (sgn_z hsy).mp c108⟩ ex ey]
                    exact ⟨rfl, rfl, hDk, fun _ _ => rfl⟩) d_K_combine_113)
            · refine lv_iload_n hx hb d_K_combine_85 rfl (lv_at hl 5 rfl) ?_
              refine wz_bipush (n := 7) hx hb d_K_combine_86 (by decide) ?_
              refine wz_icmp_ne (tgt := 95) hx hb d_K_combine_88 (by decide) (by omega) (by omega) (by omega) (by omega) (fun c88 => ?_) (fun c88 => ?_)
              · refine wz_iconst (n := 0) hx hb d_K_combine_95 ?_
                refine lv_istore (lv' := [(8, .int (iI (0))), (7, .ref (ad (2 + 5 * y))), (6, .ref (ad (2 + 5 * x))), (5, .ref (ad (2 + 5 * u))), (0, .ref (ad (0))), (1, .int (iI (to))), (2, .int (iI (kd))), (3, .int (iI (a))), (4, .int (iI (b1)))]) hx hb d_K_combine_96 hl (by decide) rfl (fun ls hl => ?_)
                refine lv_iload hx hb d_K_combine_98 (lv_at hl 0 rfl) ?_
                refine wz_if_eq (tgt := 114) hx hb d_K_combine_100 (by decide) (by omega) (by omega) (fun c100 => ?_) (fun c100 => ?_)
                · exact K114  _ _ _ ls (by omega) (fun h9 => absurd h9 (by omega)) (fun h9 => by omega) (rfl) hK hBn hOu hFu hOx hFx hOy hFy hw (lv_sub hl [4, 6, 3, 2, 1] rfl)
                · refine lv_aload hx hb d_K_combine_103 (lv_at hl 1 rfl) ?_
                  refine pw_calli hw (va_runV (As := []) (rest := []) ⟨hx, hb, hml, hown, hq⟩ (c_F_signum l D ty ad M F H.size (2 + 5 * y) yt (bS g y) ys (by omega) hFy) (cwV 0 hq (gV ml_K_61 im_F_signum se_F_signum in_F m_F_signum) rfl rfl rfl (by decide +kernel) ⟨Nat.le_of_ble_eq_true rfl, Nat.le_of_ble_eq_true rfl⟩) (pw_preV hw (by omega) hOy rfl) rfl rfl hl.1 rfl (lv_room (Nat.le_of_ble_eq_true rfl)) d_K_combine_105 ⟨Nat.le_of_ble_eq_true rfl, Nat.le_of_ble_eq_true rfl⟩) (fun r105 F105 H locs q105 hw => ?_)
                  obtain ⟨er105, eF105⟩ := q105
                  rw [eF105] at hw
                  clear eF105
                  subst er105
                  have hsb := sgn_b ys yt
                  refine wz_if_ne (tgt := 114) hx hb d_K_combine_108 (by decide) (by omega) (by omega) (fun c108 => ?_) (fun c108 => ?_)
                  · exact K114  _ _ _ ls (by omega) (fun h9 => absurd h9 (by omega)) (fun h9 => c108 (by rw [← hzy] at h9; exact (sgn_z hsy).mpr h9.2)) (rfl) hK hBn hOu hFu hOx hFx hOy hFy hw (lv_sub hl [4, 6, 3, 2, 1] rfl)
                  · refine wz_bipush (n := -2) hx hb d_K_combine_111 (by decide) ?_
                    rw [← hQ]
                    refine W.widen (k := 8) (n := 48) (Nat.le_of_ble_eq_true rfl) (Nat.le_of_ble_eq_true rfl) ?_
                    exact vx_ret (pw_iret hx hb hr hlocks hw (by
                      rw [dPost, o_combine_0 (x := x) (y := y) ⟨hRto, hRa, hRb1⟩ (by omega) (fun h9 => by omega) ⟨by omega, by rw [← hzy]; exact (sgn_z hsy).mp c108⟩ ex ey]
                      exact ⟨rfl, rfl, hDk, fun _ _ => rfl⟩) d_K_combine_113)
              · refine wz_iconst (n := 1) hx hb d_K_combine_91 ?_
                refine lv_goto (tgt := 96) hx hb d_K_combine_92 (by decide) ?_
                refine lv_istore (lv' := [(8, .int (iI (1))), (7, .ref (ad (2 + 5 * y))), (6, .ref (ad (2 + 5 * x))), (5, .ref (ad (2 + 5 * u))), (0, .ref (ad (0))), (1, .int (iI (to))), (2, .int (iI (kd))), (3, .int (iI (a))), (4, .int (iI (b1)))]) hx hb d_K_combine_96 hl (by decide) rfl (fun ls hl => ?_)
                refine lv_iload hx hb d_K_combine_98 (lv_at hl 0 rfl) ?_
                refine wz_if_eq (tgt := 114) hx hb d_K_combine_100 (by decide) (by omega) (by omega) (fun c100 => ?_) (fun c100 => ?_)
                · exact K114  _ _ _ ls (by omega) (fun h9 => absurd h9 (by omega)) (fun h9 => by omega) (rfl) hK hBn hOu hFu hOx hFx hOy hFy hw (lv_sub hl [4, 6, 3, 2, 1] rfl)
                · refine lv_aload hx hb d_K_combine_103 (lv_at hl 1 rfl) ?_
                  refine pw_calli hw (va_runV (As := []) (rest := []) ⟨hx, hb, hml, hown, hq⟩ (c_F_signum l D ty ad M F H.size (2 + 5 * y) yt (bS g y) ys (by omega) hFy) (cwV 0 hq (gV ml_K_61 im_F_signum se_F_signum in_F m_F_signum) rfl rfl rfl (by decide +kernel) ⟨Nat.le_of_ble_eq_true rfl, Nat.le_of_ble_eq_true rfl⟩) (pw_preV hw (by omega) hOy rfl) rfl rfl hl.1 rfl (lv_room (Nat.le_of_ble_eq_true rfl)) d_K_combine_105 ⟨Nat.le_of_ble_eq_true rfl, Nat.le_of_ble_eq_true rfl⟩) (fun r105 F105 H locs q105 hw => ?_)
                  obtain ⟨er105, eF105⟩ := q105
                  rw [eF105] at hw
                  clear eF105
                  subst er105
                  have hsb := sgn_b ys yt
                  refine wz_if_ne (tgt := 114) hx hb d_K_combine_108 (by decide) (by omega) (by omega) (fun c108 => ?_) (fun c108 => ?_)
                  · exact K114  _ _ _ ls (by omega) (fun h9 => absurd h9 (by omega)) (fun h9 => c108 (by rw [← hzy] at h9; exact (sgn_z hsy).mpr h9.2)) (rfl) hK hBn hOu hFu hOx hFx hOy hFy hw (lv_sub hl [4, 6, 3, 2, 1] rfl)
                  · refine wz_bipush (n := -2) hx hb d_K_combine_111 (by decide) ?_
                    rw [← hQ]
                    refine W.widen (k := 8) (n := 48) (Nat.le_of_ble_eq_true rfl) (Nat.le_of_ble_eq_true rfl) ?_
                    exact vx_ret (pw_iret hx hb hr hlocks hw (by
                      rw [dPost, o_combine_0 (x := x) (y := y) ⟨hRto, hRa, hRb1⟩ (by omega) (fun h9 => by omega) ⟨by omega, by rw [← hzy]; exact (sgn_z hsy).mp c108⟩ ex ey]
                      exact ⟨rfl, rfl, hDk, fun _ _ => rfl⟩) d_K_combine_113)
        · refine lv_aload hx hb d_K_combine_48 (lv_at hl 1 rfl) ?_
          refine pw_calli hw (va_runV (As := []) (rest := []) ⟨hx, hb, hml, hown, hq⟩ (c_F_isWhole l D ty ad M F H.size (2 + 5 * x) xt (bS g x) xs (by omega) hFx) (cwV 0 hq (gV ml_K_55 im_F_isWhole se_F_isWhole in_F m_F_isWhole) rfl rfl rfl (by decide +kernel) ⟨Nat.le_of_ble_eq_true rfl, Nat.le_of_ble_eq_true rfl⟩) (pw_preV hw (by omega) hOx rfl) rfl rfl hl.1 rfl (lv_room (Nat.le_of_ble_eq_true rfl)) d_K_combine_50 ⟨Nat.le_of_ble_eq_true rfl, Nat.le_of_ble_eq_true rfl⟩) (fun r50 F50 H locs q50 hw => ?_)
          obtain ⟨er50, eF50⟩ := q50
          rw [eF50] at hw
          clear eF50
          subst er50
          refine wz_if_eq (tgt := 64) hx hb d_K_combine_53 (by decide) (by split <;> omega) (by split <;> omega) (fun c53 => ?_) (fun c53 => ?_)
          · have hw1 := ite_z.mp c53
            rw [← hQ]
            exact px_throwA (is := 59) (text := "not whole") hx hb hl0 hown hq hxk (by decide) hw (hl.1.trans hml.symm) d_K_combine_64 d_K_combine_67 d_K_combine_68 d_K_combine_70 d_K_combine_73 hex (Nat.le_of_ble_eq_true rfl) (Nat.le_of_ble_eq_true rfl) (Nat.le_of_ble_eq_true rfl) (Nat.le_of_ble_eq_true rfl) hlocks (by
              rw [dPx, o_combine, cif_neg (fun h9 => by
              have h7 := h9.2.2 (by omega)
              rw [show a.toNat = x from ex.symm, show b1.toNat = y from ey.symm] at h7
              exact hw1 h7.1)]
              exact ⟨Or.inl ⟨rfl, rfl⟩, hDk, fun _ _ => rfl⟩) (Nat.le_of_ble_eq_true rfl) (Nat.le_of_ble_eq_true rfl)
          · have hw1 := ite_nz.mp c53
            refine lv_aload hx hb d_K_combine_56 (lv_at hl 0 rfl) ?_
            refine pw_calli hw (va_runV (As := []) (rest := []) ⟨hx, hb, hml, hown, hq⟩ (c_F_isWhole l D ty ad M F H.size (2 + 5 * y) yt (bS g y) ys (by omega) hFy) (cwV 0 hq (gV ml_K_55 im_F_isWhole se_F_isWhole in_F m_F_isWhole) rfl rfl rfl (by decide +kernel) ⟨Nat.le_of_ble_eq_true rfl, Nat.le_of_ble_eq_true rfl⟩) (pw_preV hw (by omega) hOy rfl) rfl rfl hl.1 rfl (lv_room (Nat.le_of_ble_eq_true rfl)) d_K_combine_58 ⟨Nat.le_of_ble_eq_true rfl, Nat.le_of_ble_eq_true rfl⟩) (fun r58 F58 H locs q58 hw => ?_)
            obtain ⟨er58, eF58⟩ := q58
            rw [eF58] at hw
            clear eF58
            subst er58
            refine wz_if_ne (tgt := 74) hx hb d_K_combine_61 (by decide) (by split <;> omega) (by split <;> omega) (fun c61 => ?_) (fun c61 => ?_)
            · have hw2 := ite_nz.mp c61
              refine lv_iload_n hx hb d_K_combine_74 rfl (lv_at hl 5 rfl) ?_
              refine wz_iconst (n := 3) hx hb d_K_combine_75 ?_
              refine wz_icmp_eq (tgt := 91) hx hb d_K_combine_76 (by decide) (by omega) (by omega) (by omega) (by omega) (fun c76 => ?_) (fun c76 => ?_)
              · refine wz_iconst (n := 1) hx hb d_K_combine_91 ?_
                refine lv_goto (tgt := 96) hx hb d_K_combine_92 (by decide) ?_
                refine lv_istore (lv' := [(8, .int (iI (1))), (7, .ref (ad (2 + 5 * y))), (6, .ref (ad (2 + 5 * x))), (5, .ref (ad (2 + 5 * u))), (0, .ref (ad (0))), (1, .int (iI (to))), (2, .int (iI (kd))), (3, .int (iI (a))), (4, .int (iI (b1)))]) hx hb d_K_combine_96 hl (by decide) rfl (fun ls hl => ?_)
                refine lv_iload hx hb d_K_combine_98 (lv_at hl 0 rfl) ?_
                refine wz_if_eq (tgt := 114) hx hb d_K_combine_100 (by decide) (by omega) (by omega) (fun c100 => ?_) (fun c100 => ?_)
                · exact K114  _ _ _ ls (by omega) (fun _ => ⟨hw1, hw2⟩) (fun h9 => by omega) (rfl) hK hBn hOu hFu hOx hFx hOy hFy hw (lv_sub hl [4, 6, 3, 2, 1] rfl)
                · refine lv_aload hx hb d_K_combine_103 (lv_at hl 1 rfl) ?_
                  refine pw_calli hw (va_runV (As := []) (rest := []) ⟨hx, hb, hml, hown, hq⟩ (c_F_signum l D ty ad M F H.size (2 + 5 * y) yt (bS g y) ys (by omega) hFy) (cwV 0 hq (gV ml_K_61 im_F_signum se_F_signum in_F m_F_signum) rfl rfl rfl (by decide +kernel) ⟨Nat.le_of_ble_eq_true rfl, Nat.le_of_ble_eq_true rfl⟩) (pw_preV hw (by omega) hOy rfl) rfl rfl hl.1 rfl (lv_room (Nat.le_of_ble_eq_true rfl)) d_K_combine_105 ⟨Nat.le_of_ble_eq_true rfl, Nat.le_of_ble_eq_true rfl⟩) (fun r105 F105 H locs q105 hw => ?_)
                  obtain ⟨er105, eF105⟩ := q105
                  rw [eF105] at hw
                  clear eF105
                  subst er105
                  have hsb := sgn_b ys yt
                  refine wz_if_ne (tgt := 114) hx hb d_K_combine_108 (by decide) (by omega) (by omega) (fun c108 => ?_) (fun c108 => ?_)
                  · exact K114  _ _ _ ls (by omega) (fun _ => ⟨hw1, hw2⟩) (fun h9 => c108 (by rw [← hzy] at h9; exact (sgn_z hsy).mpr h9.2)) (rfl) hK hBn hOu hFu hOx hFx hOy hFy hw (lv_sub hl [4, 6, 3, 2, 1] rfl)
                  · refine wz_bipush (n := -2) hx hb d_K_combine_111 (by decide) ?_
                    rw [← hQ]
                    refine W.widen (k := 8) (n := 48) (Nat.le_of_ble_eq_true rfl) (Nat.le_of_ble_eq_true rfl) ?_
                    exact vx_ret (pw_iret hx hb hr hlocks hw (by
                      rw [dPost, o_combine_0 (x := x) (y := y) ⟨hRto, hRa, hRb1⟩ (by omega) (fun h9 => by omega) ⟨by omega, by rw [← hzy]; exact (sgn_z hsy).mp c108⟩ ex ey]
                      exact ⟨rfl, rfl, hDk, fun _ _ => rfl⟩) d_K_combine_113)
              · refine lv_iload_n hx hb d_K_combine_79 rfl (lv_at hl 5 rfl) ?_
                refine wz_bipush (n := 6) hx hb d_K_combine_80 (by decide) ?_
                refine wz_icmp_eq (tgt := 91) hx hb d_K_combine_82 (by decide) (by omega) (by omega) (by omega) (by omega) (fun c82 => ?_) (fun c82 => ?_)
                · refine wz_iconst (n := 1) hx hb d_K_combine_91 ?_
                  refine lv_goto (tgt := 96) hx hb d_K_combine_92 (by decide) ?_
                  refine lv_istore (lv' := [(8, .int (iI (1))), (7, .ref (ad (2 + 5 * y))), (6, .ref (ad (2 + 5 * x))), (5, .ref (ad (2 + 5 * u))), (0, .ref (ad (0))), (1, .int (iI (to))), (2, .int (iI (kd))), (3, .int (iI (a))), (4, .int (iI (b1)))]) hx hb d_K_combine_96 hl (by decide) rfl (fun ls hl => ?_)
                  refine lv_iload hx hb d_K_combine_98 (lv_at hl 0 rfl) ?_
                  refine wz_if_eq (tgt := 114) hx hb d_K_combine_100 (by decide) (by omega) (by omega) (fun c100 => ?_) (fun c100 => ?_)
                  · exact K114  _ _ _ ls (by omega) (fun _ => ⟨hw1, hw2⟩) (fun h9 => by omega) (rfl) hK hBn hOu hFu hOx hFx hOy hFy hw (lv_sub hl [4, 6, 3, 2, 1] rfl)
                  · refine lv_aload hx hb d_K_combine_103 (lv_at hl 1 rfl) ?_
                    refine pw_calli hw (va_runV (As := []) (rest := []) ⟨hx, hb, hml, hown, hq⟩ (c_F_signum l D ty ad M F H.size (2 + 5 * y) yt (bS g y) ys (by omega) hFy) (cwV 0 hq (gV ml_K_61 im_F_signum se_F_signum in_F m_F_signum) rfl rfl rfl (by decide +kernel) ⟨Nat.le_of_ble_eq_true rfl, Nat.le_of_ble_eq_true rfl⟩) (pw_preV hw (by omega) hOy rfl) rfl rfl hl.1 rfl (lv_room (Nat.le_of_ble_eq_true rfl)) d_K_combine_105 ⟨Nat.le_of_ble_eq_true rfl, Nat.le_of_ble_eq_true rfl⟩) (fun r105 F105 H locs q105 hw => ?_)
                    obtain ⟨er105, eF105⟩ := q105
                    rw [eF105] at hw
                    clear eF105
                    subst er105
                    have hsb := sgn_b ys yt
                    refine wz_if_ne (tgt := 114) hx hb d_K_combine_108 (by decide) (by omega) (by omega) (fun c108 => ?_) (fun c108 => ?_)
                    · exact K114  _ _ _ ls (by omega) (fun _ => ⟨hw1, hw2⟩) (fun h9 => c108 (by rw [← hzy] at h9; exact (sgn_z hsy).mpr h9.2)) (rfl) hK hBn hOu hFu hOx hFx hOy hFy hw (lv_sub hl [4, 6, 3, 2, 1] rfl)
                    · refine wz_bipush (n := -2) hx hb d_K_combine_111 (by decide) ?_
                      rw [← hQ]
                      refine W.widen (k := 8) (n := 48) (Nat.le_of_ble_eq_true rfl) (Nat.le_of_ble_eq_true rfl) ?_
                      exact vx_ret (pw_iret hx hb hr hlocks hw (by
                        rw [dPost, o_combine_0 (x := x) (y := y) ⟨hRto, hRa, hRb1⟩ (by omega) (fun h9 => by omega) ⟨by omega, by rw [← hzy]; exact (sgn_z hsy).mp c108⟩ ex ey]
                        exact ⟨rfl, rfl, hDk, fun _ _ => rfl⟩) d_K_combine_113)
                · refine lv_iload_n hx hb d_K_combine_85 rfl (lv_at hl 5 rfl) ?_
                  refine wz_bipush (n := 7) hx hb d_K_combine_86 (by decide) ?_
                  refine wz_icmp_ne (tgt := 95) hx hb d_K_combine_88 (by decide) (by omega) (by omega) (by omega) (by omega) (fun c88 => ?_) (fun c88 => ?_)
                  · refine wz_iconst (n := 0) hx hb d_K_combine_95 ?_
                    refine lv_istore (lv' := [(8, .int (iI (0))), (7, .ref (ad (2 + 5 * y))), (6, .ref (ad (2 + 5 * x))), (5, .ref (ad (2 + 5 * u))), (0, .ref (ad (0))), (1, .int (iI (to))), (2, .int (iI (kd))), (3, .int (iI (a))), (4, .int (iI (b1)))]) hx hb d_K_combine_96 hl (by decide) rfl (fun ls hl => ?_)
                    refine lv_iload hx hb d_K_combine_98 (lv_at hl 0 rfl) ?_
                    refine wz_if_eq (tgt := 114) hx hb d_K_combine_100 (by decide) (by omega) (by omega) (fun c100 => ?_) (fun c100 => ?_)
                    · exact K114  _ _ _ ls (by omega) (fun _ => ⟨hw1, hw2⟩) (fun h9 => by omega) (rfl) hK hBn hOu hFu hOx hFx hOy hFy hw (lv_sub hl [4, 6, 3, 2, 1] rfl)
                    · refine lv_aload hx hb d_K_combine_103 (lv_at hl 1 rfl) ?_
                      refine pw_calli hw (va_runV (As := []) (rest := []) ⟨hx, hb, hml, hown, hq⟩ (c_F_signum l D ty ad M F H.size (2 + 5 * y) yt (bS g y) ys (by omega) hFy) (cwV 0 hq (gV ml_K_61 im_F_signum se_F_signum in_F m_F_signum) rfl rfl rfl (by decide +kernel) ⟨Nat.le_of_ble_eq_true rfl, Nat.le_of_ble_eq_true rfl⟩) (pw_preV hw (by omega) hOy rfl) rfl rfl hl.1 rfl (lv_room (Nat.le_of_ble_eq_true rfl)) d_K_combine_105 ⟨Nat.le_of_ble_eq_true rfl, Nat.le_of_ble_eq_true rfl⟩) (fun r105 F105 H locs q105 hw => ?_)
                      obtain ⟨er105, eF105⟩ := q105
                      rw [eF105] at hw
                      clear eF105
                      subst er105
                      have hsb := sgn_b ys yt
                      refine wz_if_ne (tgt := 114) hx hb d_K_combine_108 (by decide) (by omega) (by omega) (fun c108 => ?_) (fun c108 => ?_)
                      · exact K114  _ _ _ ls (by omega) (fun _ => ⟨hw1, hw2⟩) (fun h9 => c108 (by rw [← hzy] at h9; exact (sgn_z hsy).mpr h9.2)) (rfl) hK hBn hOu hFu hOx hFx hOy hFy hw (lv_sub hl [4, 6, 3, 2, 1] rfl)
                      · refine wz_bipush (n := -2) hx hb d_K_combine_111 (by decide) ?_
                        rw [← hQ]
                        refine W.widen (k := 8) (n := 48) (Nat.le_of_ble_eq_true rfl) (Nat.le_of_ble_eq_true rfl) ?_
                        exact vx_ret (pw_iret hx hb hr hlocks hw (by
                          rw [dPost, o_combine_0 (x := x) (y := y) ⟨hRto, hRa, hRb1⟩ (by omega) (fun h9 => by omega) ⟨by omega, by rw [← hzy]; exact (sgn_z hsy).mp c108⟩ ex ey]
                          exact ⟨rfl, rfl, hDk, fun _ _ => rfl⟩) d_K_combine_113)
                  · refine wz_iconst (n := 1) hx hb d_K_combine_91 ?_
                    refine lv_goto (tgt := 96) hx hb d_K_combine_92 (by decide) ?_
                    refine lv_istore (lv' := [(8, .int (iI (1))), (7, .ref (ad (2 + 5 * y))), (6, .ref (ad (2 + 5 * x))), (5, .ref (ad (2 + 5 * u))), (0, .ref (ad (0))), (1, .int (iI (to))), (2, .int (iI (kd))), (3, .int (iI (a))), (4, .int (iI (b1)))]) hx hb d_K_combine_96 hl (by decide) rfl (fun ls hl => ?_)
                    refine lv_iload hx hb d_K_combine_98 (lv_at hl 0 rfl) ?_
                    refine wz_if_eq (tgt := 114) hx hb d_K_combine_100 (by decide) (by omega) (by omega) (fun c100 => ?_) (fun c100 => ?_)
                    · exact K114  _ _ _ ls (by omega) (fun _ => ⟨hw1, hw2⟩) (fun h9 => by omega) (rfl) hK hBn hOu hFu hOx hFx hOy hFy hw (lv_sub hl [4, 6, 3, 2, 1] rfl)
                    · refine lv_aload hx hb d_K_combine_103 (lv_at hl 1 rfl) ?_
                      refine pw_calli hw (va_runV (As := []) (rest := []) ⟨hx, hb, hml, hown, hq⟩ (c_F_signum l D ty ad M F H.size (2 + 5 * y) yt (bS g y) ys (by omega) hFy) (cwV 0 hq (gV ml_K_61 im_F_signum se_F_signum in_F m_F_signum) rfl rfl rfl (by decide +kernel) ⟨Nat.le_of_ble_eq_true rfl, Nat.le_of_ble_eq_true rfl⟩) (pw_preV hw (by omega) hOy rfl) rfl rfl hl.1 rfl (lv_room (Nat.le_of_ble_eq_true rfl)) d_K_combine_105 ⟨Nat.le_of_ble_eq_true rfl, Nat.le_of_ble_eq_true rfl⟩) (fun r105 F105 H locs q105 hw => ?_)
                      obtain ⟨er105, eF105⟩ := q105
                      rw [eF105] at hw
                      clear eF105
                      subst er105
                      have hsb := sgn_b ys yt
                      refine wz_if_ne (tgt := 114) hx hb d_K_combine_108 (by decide) (by omega) (by omega) (fun c108 => ?_) (fun c108 => ?_)
                      · exact K114  _ _ _ ls (by omega) (fun _ => ⟨hw1, hw2⟩) (fun h9 => c108 (by rw [← hzy] at h9; exact (sgn_z hsy).mpr h9.2)) (rfl) hK hBn hOu hFu hOx hFx hOy hFy hw (lv_sub hl [4, 6, 3, 2, 1] rfl)
                      · refine wz_bipush (n := -2) hx hb d_K_combine_111 (by decide) ?_
                        rw [← hQ]
                        refine W.widen (k := 8) (n := 48) (Nat.le_of_ble_eq_true rfl) (Nat.le_of_ble_eq_true rfl) ?_
                        exact vx_ret (pw_iret hx hb hr hlocks hw (by
                          rw [dPost, o_combine_0 (x := x) (y := y) ⟨hRto, hRa, hRb1⟩ (by omega) (fun h9 => by omega) ⟨by omega, by rw [← hzy]; exact (sgn_z hsy).mp c108⟩ ex ey]
                          exact ⟨rfl, rfl, hDk, fun _ _ => rfl⟩) d_K_combine_113)
            · have hw2 := ite_z.mp c61
              rw [← hQ]
              exact px_throwA (is := 59) (text := "not whole") hx hb hl0 hown hq hxk (by decide) hw (hl.1.trans hml.symm) d_K_combine_64 d_K_combine_67 d_K_combine_68 d_K_combine_70 d_K_combine_73 hex (Nat.le_of_ble_eq_true rfl) (Nat.le_of_ble_eq_true rfl) (Nat.le_of_ble_eq_true rfl) (Nat.le_of_ble_eq_true rfl) hlocks (by
                rw [dPx, o_combine, cif_neg (fun h9 => by
                have h7 := h9.2.2 (by omega)
                rw [show a.toNat = x from ex.symm, show b1.toNat = y from ey.symm] at h7
                exact hw2 h7.2)]
                exact ⟨Or.inl ⟨rfl, rfl⟩, hDk, fun _ _ => rfl⟩) (Nat.le_of_ble_eq_true rfl) (Nat.le_of_ble_eq_true rfl)
      · rw [← hQ]
        exact px_throwA (is := 53) (text := "no such kind") hx hb hl0 hown hq hxk (by decide) hw (hl.1.trans hml.symm) d_K_combine_32 d_K_combine_35 d_K_combine_36 d_K_combine_38 d_K_combine_41 hex (Nat.le_of_ble_eq_true rfl) (Nat.le_of_ble_eq_true rfl) (Nat.le_of_ble_eq_true rfl) (Nat.le_of_ble_eq_true rfl) hlocks (by
          rw [dPx, o_combine, cif_neg (fun h9 => by have := h9.2.1; omega)]
          exact ⟨Or.inl ⟨rfl, rfl⟩, hDk, fun _ _ => rfl⟩) (Nat.le_of_ble_eq_true rfl) (Nat.le_of_ble_eq_true rfl)
  rw [hH, hlo] at hgo
  exact hgo
