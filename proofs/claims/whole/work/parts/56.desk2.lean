/-! FractionDesk: what throws: by program -/
set_option maxHeartbeats 4000000 in
set_option maxRecDepth 100000 in
/-- register(number) -/
theorem c_K_register (l : Launch) (D : va_G) (ty : Nat → ClassId) (ad : Nat → Nat) (M : Nat) (F : Nat → va_E) (sz : Nat) (hl0 : l.stackTraces = false) (hM : 97 < M) (g : Sg) (hDk : Dk ty ad F g) (hok : okS g) (i : Int) (hi : -2147483648 ≤ i ∧ i < 2147483648) :
    XR l y_K_register w_K_register ({ frames := 6, cells := 1, slots := 6, locals := 100 } : Room) [.ref (ad (0)), .int (iI (i))] D ty ad M F sz 1 6 (fun u => isR i ∧ u.1 = 2 + 5 * i.toNat ∧ u.2 = F) (fun u => ¬ isR i ∧ u.1 = xE ∧ u.2 = F) := by
  refine vx_ofW (cc := b_K_register) (maxL := 2) (ret := (some (.object "FractionDesk$Fraction"))) (by decide) rfl ?_
  intro p e s m args below meth c s₁ B hml hex hv
  obtain ⟨rfl, ⟨hsz, hP, hK, hD0⟩, hxk⟩ := hv
  have hx := B.exec
  have hb := B.bytes
  have hr := B.returns
  have hts := atoms_spec (ws := w_K_register) B.pre
  have hq : ∀ w ∈ wT, w.before _ s = true := fun w h => hts w (List.mem_cons_of_mem _ h)
  have hown : s.vm.findClass R_K = some m.cls := findClass_of_methodNamed B.named
  have hlocks := B.notSynchronized
  subst hsz
  have hw := pw_start hP hK hD0
  have hl := lv_entry ([.ref (ad (0)), .int (iI (i))]) (n := 2) (Nat.le_of_ble_eq_true rfl)
  rw [lg_entry_eq]
  generalize (lg_sl ([.ref (ad (0)), .int (iI (i))]) ++ List.replicate (2 - (lg_sl ([.ref (ad (0)), .int (iI (i))])).length) Slot.unset).toArray = ls at hl ⊢
  have hl : lv_has ls 2 [(0, .ref (ad (0))), (1, .int (iI (i)))] := hl
  change W p l e ({ frames := 6, cells := 1, slots := 6, locals := 100 } : Room) s m ([.ref (ad (0)), .int (iI (i))]).toArray below meth c s.heap [] 0 0 (vx_MQ below (va_Qr (fun u => isR i ∧ u.1 = 2 + 5 * i.toNat ∧ u.2 = F) (pAtR D classes (tysL ty) ad M (pA ad M s.heap.size)) (pA ad M s.heap.size)) (xX D ty ad M s.heap.size (fun u => ¬ isR i ∧ u.1 = xE ∧ u.2 = F)) ([.ref (ad (0)), .int (iI (i))]).toArray s 1 6 (pA ad M s.heap.size)) (F0 m 0 ls [])
  generalize hQ : vx_MQ below (va_Qr (fun u => isR i ∧ u.1 = 2 + 5 * i.toNat ∧ u.2 = F) (pAtR D classes (tysL ty) ad M (pA ad M s.heap.size)) (pA ad M s.heap.size)) (xX D ty ad M s.heap.size (fun u => ¬ isR i ∧ u.1 = xE ∧ u.2 = F)) ([.ref (ad (0)), .int (iI (i))]).toArray s 1 6 (pA ad M s.heap.size) = Q
  obtain ⟨H, hH⟩ : ∃ H, H = s.heap := ⟨_, rfl⟩
  obtain ⟨locs, hlo⟩ : ∃ z : List Loc, z = [] := ⟨_, rfl⟩
  have hw : pw D classes (tysL ty) ad M F (pA ad M s.heap.size) s H locs := by rw [hH, hlo]; exact hw
  have hgo : W p l e ({ frames := 6, cells := 1, slots := 6, locals := 100 } : Room) s m ([.ref (ad (0)), .int (iI (i))]).toArray below meth c H locs 0 0 Q (F0 m 0 ls []) := by
    obtain ⟨hK, hRg, hBn, hTx⟩ := id hDk
    obtain ⟨⟨q0, hR1, hq0⟩, hRf⟩ := id hRg
    refine lv_iload_n hx hb d_K_register_0 rfl (lv_at hl 1 rfl) ?_
    refine wz_if_lt (tgt := 10) hx hb d_K_register_1 (by decide) (by omega) (by omega) (fun c1 => ?_) (fun c1 => ?_)
    · rw [← hQ]
      exact px_throwA (is := 173) (text := "no such register") hx hb hl0 hown hq hxk (by decide) hw (hl.1.trans hml.symm) d_K_register_10 d_K_register_13 d_K_register_14 d_K_register_16 d_K_register_19 hex (Nat.le_of_ble_eq_true rfl) (Nat.le_of_ble_eq_true rfl) (Nat.le_of_ble_eq_true rfl) (Nat.le_of_ble_eq_true rfl) hlocks (⟨fun h9 => by have := h9.1; have := h9.2; omega, rfl, rfl⟩) (Nat.le_of_ble_eq_true rfl) (Nat.le_of_ble_eq_true rfl)
    · refine lv_iload_n hx hb d_K_register_4 rfl (lv_at hl 1 rfl) ?_
      refine wz_bipush (n := 16) hx hb d_K_register_5 (by decide) ?_
      refine wz_icmp_lt (tgt := 20) hx hb d_K_register_7 (by decide) (by omega) (by omega) (by omega) (by omega) (fun c7 => ?_) (fun c7 => ?_)
      · refine lv_aload_n hx hb d_K_register_20 rfl (lv_at hl 0 rfl) ?_
        refine pw_get (ci := 5) (C := R_K) (T := T_K) (N := 4) hx hb hq i_K hown hw (by omega) hK rfl 0 (by decide) (hq _ fl_K_11) (fun _ h9 => h9) rfl d_K_register_21 ?_
        refine lv_iload_n hx hb d_K_register_24 rfl (lv_at hl 1 rfl) ?_
        refine pw_aldq (k := i.toNat) (r := ad (2 + 5 * i.toNat)) hx hb hw 2 (by omega) hR1 rfl (iI_in (by omega) (by omega) (by omega)) ((iI_cl (by omega) (by omega)).trans (by omega)) (hq0 _ (by omega)) d_K_register_25 ?_
        rw [← hQ]
        refine W.widen (k := 1) (n := 6) (Nat.le_of_ble_eq_true rfl) (Nat.le_of_ble_eq_true rfl) ?_
        exact vx_ret (pw_aret hx hb hr (Or.inl ⟨_, rfl⟩) hlocks hw (⟨⟨by omega, by omega⟩, rfl, rfl⟩) d_K_register_26)
      · rw [← hQ]
        exact px_throwA (is := 173) (text := "no such register") hx hb hl0 hown hq hxk (by decide) hw (hl.1.trans hml.symm) d_K_register_10 d_K_register_13 d_K_register_14 d_K_register_16 d_K_register_19 hex (Nat.le_of_ble_eq_true rfl) (Nat.le_of_ble_eq_true rfl) (Nat.le_of_ble_eq_true rfl) (Nat.le_of_ble_eq_true rfl) hlocks (⟨fun h9 => by have := h9.1; have := h9.2; omega, rfl, rfl⟩) (Nat.le_of_ble_eq_true rfl) (Nat.le_of_ble_eq_true rfl)
  rw [hH, hlo] at hgo
  exact hgo
set_option maxHeartbeats 4000000 in
set_option maxRecDepth 100000 in
/-- set(to, top, bottom) -/
theorem c_K_set (l : Launch) (D : va_G) (ty : Nat → ClassId) (ad : Nat → Nat) (M : Nat) (F : Nat → va_E) (sz : Nat) (hl0 : l.stackTraces = false) (hM : 97 < M) (g : Sg) (hDk : Dk ty ad F g) (hok : okS g) (to : Int) (hto : -2147483648 ≤ to ∧ to < 2147483648) (t0 : Int) (ht0 : -9223372036854775808 ≤ t0 ∧ t0 < 9223372036854775808) (b0 : Int) (hb0 : -9223372036854775808 ≤ b0 ∧ b0 < 9223372036854775808) :
    XV l y_K_set w_K_set ({ frames := 7, cells := 8, slots := 48, locals := 157 } : Room) [.ref (ad (0)), .int (iI (to)), .long (iL (t0)), .long (iL (b0))] D ty ad M F sz 8 48 (fun F1 => (o_set g to t0 b0).1 = 0 ∧ Dk ty ad F1 (o_set g to t0 b0).2.2 ∧ frD F F1) (dPx ty ad F (o_set g to t0 b0)) := by
  refine vx_ofW (cc := b_K_set) (maxL := 7) (ret := none) (by decide) rfl ?_
  intro p e s m args below meth c s₁ B hml hex hv
  obtain ⟨rfl, ⟨hsz, hP, hK, hD0⟩, hxk⟩ := hv
  have hx := B.exec
  have hb := B.bytes
  have hr := B.returns
  have hts := atoms_spec (ws := w_K_set) B.pre
  have hq : ∀ w ∈ wT, w.before _ s = true := fun w h => hts w (List.mem_cons_of_mem _ h)
  have hown : s.vm.findClass R_K = some m.cls := findClass_of_methodNamed B.named
  have hlocks := B.notSynchronized
  subst hsz
  have hw := pw_start hP hK hD0
  have hl := lv_entry ([.ref (ad (0)), .int (iI (to)), .long (iL (t0)), .long (iL (b0))]) (n := 7) (Nat.le_of_ble_eq_true rfl)
  rw [lg_entry_eq]
  generalize (lg_sl ([.ref (ad (0)), .int (iI (to)), .long (iL (t0)), .long (iL (b0))]) ++ List.replicate (7 - (lg_sl ([.ref (ad (0)), .int (iI (to)), .long (iL (t0)), .long (iL (b0))])).length) Slot.unset).toArray = ls at hl ⊢
  have hl : lv_has ls 7 [(0, .ref (ad (0))), (1, .int (iI (to))), (2, .long (iL (t0))), (4, .long (iL (b0)))] := hl
  change W p l e ({ frames := 7, cells := 8, slots := 48, locals := 157 } : Room) s m ([.ref (ad (0)), .int (iI (to)), .long (iL (t0)), .long (iL (b0))]).toArray below meth c s.heap [] 0 0 (vx_MQ below (va_Qv (fun F1 => (o_set g to t0 b0).1 = 0 ∧ Dk ty ad F1 (o_set g to t0 b0).2.2 ∧ frD F F1) (pAt D classes (tysL ty) ad M (pA ad M s.heap.size)) (pA ad M s.heap.size)) (xX D ty ad M s.heap.size (dPx ty ad F (o_set g to t0 b0))) ([.ref (ad (0)), .int (iI (to)), .long (iL (t0)), .long (iL (b0))]).toArray s 8 48 (pA ad M s.heap.size)) (F0 m 0 ls [])
  generalize hQ : vx_MQ below (va_Qv (fun F1 => (o_set g to t0 b0).1 = 0 ∧ Dk ty ad F1 (o_set g to t0 b0).2.2 ∧ frD F F1) (pAt D classes (tysL ty) ad M (pA ad M s.heap.size)) (pA ad M s.heap.size)) (xX D ty ad M s.heap.size (dPx ty ad F (o_set g to t0 b0))) ([.ref (ad (0)), .int (iI (to)), .long (iL (t0)), .long (iL (b0))]).toArray s 8 48 (pA ad M s.heap.size) = Q
  obtain ⟨H, hH⟩ : ∃ H, H = s.heap := ⟨_, rfl⟩
  obtain ⟨locs, hlo⟩ : ∃ z : List Loc, z = [] := ⟨_, rfl⟩
  have hw : pw D classes (tysL ty) ad M F (pA ad M s.heap.size) s H locs := by rw [hH, hlo]; exact hw
  have hgo : W p l e ({ frames := 7, cells := 8, slots := 48, locals := 157 } : Room) s m ([.ref (ad (0)), .int (iI (to)), .long (iL (t0)), .long (iL (b0))]).toArray below meth c H locs 0 0 Q (F0 m 0 ls []) := by
    obtain ⟨hK, hRg, hBn, hTx⟩ := id hDk
    obtain ⟨⟨q0, hR1, hq0⟩, hRf⟩ := id hRg
    refine lv_aload_n hx hb d_K_set_0 rfl (lv_at hl 0 rfl) ?_
    refine lv_iload_n hx hb d_K_set_1 rfl (lv_at hl 1 rfl) ?_
    refine px_callr hw (vx_runV (As := [.int (iI (to))]) (rest := []) ⟨hx, hb, hml, hown, hq⟩ (c_K_register l D ty ad M F H.size hl0 hM g hDk hok to hto) (cwV 1 hq (gV ml_K_34 im_K_register se_K_register in_K m_K_register) rfl rfl rfl (by decide +kernel) ⟨Nat.le_of_ble_eq_true rfl, Nat.le_of_ble_eq_true rfl⟩) (px_preV hw hxk (by omega) hK rfl) rfl rfl hl.1 rfl (lv_room (Nat.le_of_ble_eq_true rfl)) d_K_set_2 ⟨Nat.le_of_ble_eq_true rfl, Nat.le_of_ble_eq_true rfl⟩) ?_ ?_
    · intro E9 ce9 q9 F9 H9 l9 hp9 hw9 h1 h2 h3
      rw [← hQ]
      refine px_out hex hlocks hw9 h1 h2 h3 ?_ (Nat.le_of_ble_eq_true rfl) (Nat.le_of_ble_eq_true rfl)
      exact by
        obtain ⟨h7, h8, h6⟩ := hp9
        dsimp only at h8 h6
        subst h8; subst h6
        rw [dPx, o_set, cif_neg (fun h9 => h7 (h9.1))]
        exact ⟨Or.inl ⟨rfl, rfl⟩, hDk, fun _ _ => rfl⟩
    intro r2 F2 H locs q2 hw
    obtain ⟨hRto, er2, eF2⟩ := q2
    dsimp only at er2 eF2
    rw [eF2] at hw
    clear eF2
    obtain ⟨hRto1, hRto2⟩ := id hRto
    obtain ⟨x, ex⟩ : ∃ z : Nat, z = to.toNat := ⟨_, rfl⟩
    rw [← ex] at er2
    subst er2
    have hokx := hok.at (show x < 16 by omega)
    obtain ⟨xs, exs⟩ : ∃ z : Nat, z = if zS g x < 0 then 1 else 0 := ⟨_, rfl⟩
    obtain ⟨xt, ext⟩ : ∃ z : Nat, z = (zS g x).natAbs := ⟨_, rfl⟩
    have hFx : Frc ty ad F (2 + 5 * x) xt (bS g x) xs := by rw [exs, ext]; exact hRf x (by omega)
    have hzx : sg xs xt = zS g x := by rw [exs, ext]; exact sg_self _
    have hsx : xs ≤ 1 := by rw [exs]; split <;> omega
    rw [← ext] at hokx
    obtain ⟨hsmx1, hsmx2, hpx, hgx⟩ := id hokx
    have hOx := hFx.2.1
    refine lv_astore (lv' := [(6, .ref (ad (2 + 5 * x))), (0, .ref (ad (0))), (1, .int (iI (to))), (2, .long (iL (t0))), (4, .long (iL (b0)))]) hx hb d_K_set_5 hl (by decide) rfl (fun ls hl => ?_)
    refine lv_lload hx hb d_K_set_7 (lv_at hl 4 rfl) ?_
    refine lv_lconst (v := iL 0) hx hb d_K_set_9 (by decide) ?_
    refine wz_lcmp_ne (tgt := 24) hx hb d_K_set_10 d_K_set_11 (by decide) (by omega) (by omega) (by omega) (by omega) (fun c10 => ?_) (fun c10 => ?_)
    · refine lv_aload_n hx hb d_K_set_24 rfl (lv_at hl 1 rfl) ?_
      refine pw_get (ci := 5) (C := R_K) (T := T_K) (N := 4) hx hb hq i_K hown hw (by omega) hK rfl 1 (by decide) (hq _ fl_K_19) (fun _ h9 => h9) rfl d_K_set_25 ?_
      refine lv_lload_n hx hb d_K_set_28 rfl (lv_at hl 3 rfl) ?_
      refine lv_lload hx hb d_K_set_29 (lv_at hl 4 rfl) ?_
      refine pw_callv hw (va_runV (As := [.long (iL (t0)), .long (iL (b0))]) (rest := []) ⟨hx, hb, hml, hown, hq⟩ (c_B_takeNumbers l D ty ad M F H.size hM hBn t0 b0 ht0 hb0) (cwV 2 hq (gV ml_K_45 im_B_takeNumbers se_B_takeNumbers in_B m_B_takeNumbers) rfl rfl rfl (by decide +kernel) ⟨Nat.le_of_ble_eq_true rfl, Nat.le_of_ble_eq_true rfl⟩) (pw_preBn hw hM hBn) rfl rfl hl.1 rfl (lv_room (Nat.le_of_ble_eq_true rfl)) d_K_set_31 ⟨Nat.le_of_ble_eq_true rfl, Nat.le_of_ble_eq_true rfl⟩) (fun F31 H locs q31 hw => ?_)
      obtain ⟨hBT, hf31⟩ := q31
      have hK_at_31 : F31 (0) = .inr (5, [.ref (ad (1)), .ref (ad (82)), .ref (ad (96)), .int (iI (pS g))]) := (hf31 (0) (by omega)).trans hK
      have hOx_at_31 : F31 (2 + 5 * x) = .inr (1, [.ref (ad (2 + 5 * x + 1)), .ref (ad (2 + 5 * x + 3)), .int (iI ((xs : Int)))]) := (hf31 (2 + 5 * x) (by omega)).trans hOx
      have hFx_at_31 : Frc ty ad F31 (2 + 5 * x) xt (bS g x) xs := Frc.m5 hFx (hf31 (2 + 5 * x) (by omega)) (hf31 (2 + 5 * x + 1) (by omega)) (hf31 (2 + 5 * x + 2) (by omega)) (hf31 (2 + 5 * x + 3) (by omega)) (hf31 (2 + 5 * x + 4) (by omega))
      refine lv_aload_n hx hb d_K_set_34 rfl (lv_at hl 1 rfl) ?_
      refine pw_get (ci := 5) (C := R_K) (T := T_K) (N := 4) hx hb hq i_K hown hw (by omega) hK_at_31 rfl 1 (by decide) (hq _ fl_K_19) (fun _ h9 => h9) rfl d_K_set_35 ?_
      refine lv_aload hx hb d_K_set_38 (lv_at hl 0 rfl) ?_
      refine pw_calli hw (va_runV (As := [.ref (ad (2 + 5 * x))]) (rest := []) ⟨hx, hb, hml, hown, hq⟩ (c_B_keepReduced l D ty ad M F31 H.size hM (t0.natAbs) (b0.natAbs) (if (t0 < 0 ↔ b0 < 0) then 0 else 1) hBT ((sm_long (by omega)).toMd) ((sm_long (by omega)).toMd) (2 + 5 * x) xt (bS g x) xs (by omega) hFx_at_31 (by omega)) (cwV 1 hq (gV ml_K_49 im_B_keepReduced se_B_keepReduced in_B m_B_keepReduced) rfl rfl rfl (by decide +kernel) ⟨Nat.le_of_ble_eq_true rfl, Nat.le_of_ble_eq_true rfl⟩) (pw_preBn hw hM (hBT).bn) rfl rfl hl.1 rfl (lv_room (Nat.le_of_ble_eq_true rfl)) d_K_set_40 ⟨Nat.le_of_ble_eq_true rfl, Nat.le_of_ble_eq_true rfl⟩) (fun r40 F40 H locs q40 hw => ?_)
      have hkr := hDk.kr (fun y9 h9 => hf31 (y9) (by omega)) (show x < 16 by omega) (hBT.1) q40.1.1 q40.1.2 q40.2
      refine lv_pop hx hb d_K_set_43 rfl ?_
      rw [← hQ]
      refine W.widen (k := 8) (n := 48) (Nat.le_of_ble_eq_true rfl) (Nat.le_of_ble_eq_true rfl) ?_
      exact vx_ret (pw_vret hx hb hr hlocks hw (by
        rw [sg_set] at hkr
        rw [o_set, cif_pos ⟨hRto, by omega⟩, ← ex]
        exact ⟨rfl, hkr.2.1, hkr.2.2⟩) d_K_set_44)
    · rw [← hQ]
      exact px_throwA (is := 40) (text := "bottom is 0") hx hb hl0 hown hq hxk (by decide) hw (hl.1.trans hml.symm) d_K_set_14 d_K_set_17 d_K_set_18 d_K_set_20 d_K_set_23 hex (Nat.le_of_ble_eq_true rfl) (Nat.le_of_ble_eq_true rfl) (Nat.le_of_ble_eq_true rfl) (Nat.le_of_ble_eq_true rfl) hlocks (by
        rw [dPx, o_set, cif_neg (fun h9 => h9.2 (by omega))]
        exact ⟨Or.inl ⟨rfl, rfl⟩, hDk, fun _ _ => rfl⟩) (Nat.le_of_ble_eq_true rfl) (Nat.le_of_ble_eq_true rfl)
  rw [hH, hlo] at hgo
  exact hgo
set_option maxHeartbeats 4000000 in
set_option maxRecDepth 100000 in
/-- order(a, b) -/
theorem c_K_order (l : Launch) (D : va_G) (ty : Nat → ClassId) (ad : Nat → Nat) (M : Nat) (F : Nat → va_E) (sz : Nat) (hl0 : l.stackTraces = false) (hM : 97 < M) (g : Sg) (hDk : Dk ty ad F g) (hok : okS g) (a : Int) (ha : -2147483648 ≤ a ∧ a < 2147483648) (b1 : Int) (hb1 : -2147483648 ≤ b1 ∧ b1 < 2147483648) :
    XI l y_K_order w_K_order ({ frames := 7, cells := 8, slots := 48, locals := 124 } : Room) [.ref (ad (0)), .int (iI (a)), .int (iI (b1))] D ty ad M F sz 8 48 (dPost ty ad F (o_order g a b1)) (dPx ty ad F (o_order g a b1)) := by
  refine vx_ofW (cc := b_K_order) (maxL := 5) (ret := (some .int)) (by decide) rfl ?_
  intro p e s m args below meth c s₁ B hml hex hv
  obtain ⟨rfl, ⟨hsz, hP, hK, hD0⟩, hxk⟩ := hv
  have hx := B.exec
  have hb := B.bytes
  have hr := B.returns
  have hts := atoms_spec (ws := w_K_order) B.pre
  have hq : ∀ w ∈ wT, w.before _ s = true := fun w h => hts w (List.mem_cons_of_mem _ h)
  have hown : s.vm.findClass R_K = some m.cls := findClass_of_methodNamed B.named
  have hlocks := B.notSynchronized
  subst hsz
  have hw := pw_start hP hK hD0
  have hl := lv_entry ([.ref (ad (0)), .int (iI (a)), .int (iI (b1))]) (n := 5) (Nat.le_of_ble_eq_true rfl)
  rw [lg_entry_eq]
  generalize (lg_sl ([.ref (ad (0)), .int (iI (a)), .int (iI (b1))]) ++ List.replicate (5 - (lg_sl ([.ref (ad (0)), .int (iI (a)), .int (iI (b1))])).length) Slot.unset).toArray = ls at hl ⊢
  have hl : lv_has ls 5 [(0, .ref (ad (0))), (1, .int (iI (a))), (2, .int (iI (b1)))] := hl
  change W p l e ({ frames := 7, cells := 8, slots := 48, locals := 124 } : Room) s m ([.ref (ad (0)), .int (iI (a)), .int (iI (b1))]).toArray below meth c s.heap [] 0 0 (vx_MQ below (va_Qi (dPost ty ad F (o_order g a b1)) (pAt D classes (tysL ty) ad M (pA ad M s.heap.size)) (pA ad M s.heap.size)) (xX D ty ad M s.heap.size (dPx ty ad F (o_order g a b1))) ([.ref (ad (0)), .int (iI (a)), .int (iI (b1))]).toArray s 8 48 (pA ad M s.heap.size)) (F0 m 0 ls [])
  generalize hQ : vx_MQ below (va_Qi (dPost ty ad F (o_order g a b1)) (pAt D classes (tysL ty) ad M (pA ad M s.heap.size)) (pA ad M s.heap.size)) (xX D ty ad M s.heap.size (dPx ty ad F (o_order g a b1))) ([.ref (ad (0)), .int (iI (a)), .int (iI (b1))]).toArray s 8 48 (pA ad M s.heap.size) = Q
  obtain ⟨H, hH⟩ : ∃ H, H = s.heap := ⟨_, rfl⟩
  obtain ⟨locs, hlo⟩ : ∃ z : List Loc, z = [] := ⟨_, rfl⟩
  have hw : pw D classes (tysL ty) ad M F (pA ad M s.heap.size) s H locs := by rw [hH, hlo]; exact hw
  have hgo : W p l e ({ frames := 7, cells := 8, slots := 48, locals := 124 } : Room) s m ([.ref (ad (0)), .int (iI (a)), .int (iI (b1))]).toArray below meth c H locs 0 0 Q (F0 m 0 ls []) := by
    obtain ⟨hK, hRg, hBn, hTx⟩ := id hDk
    obtain ⟨⟨q0, hR1, hq0⟩, hRf⟩ := id hRg
    refine lv_aload_n hx hb d_K_order_0 rfl (lv_at hl 0 rfl) ?_
    refine lv_iload_n hx hb d_K_order_1 rfl (lv_at hl 1 rfl) ?_
    refine px_callr hw (vx_runV (As := [.int (iI (a))]) (rest := []) ⟨hx, hb, hml, hown, hq⟩ (c_K_register l D ty ad M F H.size hl0 hM g hDk hok a ha) (cwV 1 hq (gV ml_K_34 im_K_register se_K_register in_K m_K_register) rfl rfl rfl (by decide +kernel) ⟨Nat.le_of_ble_eq_true rfl, Nat.le_of_ble_eq_true rfl⟩) (px_preV hw hxk (by omega) hK rfl) rfl rfl hl.1 rfl (lv_room (Nat.le_of_ble_eq_true rfl)) d_K_order_2 ⟨Nat.le_of_ble_eq_true rfl, Nat.le_of_ble_eq_true rfl⟩) ?_ ?_
    · intro E9 ce9 q9 F9 H9 l9 hp9 hw9 h1 h2 h3
      rw [← hQ]
      refine px_out hex hlocks hw9 h1 h2 h3 ?_ (Nat.le_of_ble_eq_true rfl) (Nat.le_of_ble_eq_true rfl)
      exact by
        obtain ⟨h7, h8, h6⟩ := hp9
        dsimp only at h8 h6
        subst h8; subst h6
        rw [dPx, o_order, cif_neg (fun h9 => h7 (h9.1))]
        exact ⟨Or.inl ⟨rfl, rfl⟩, hDk, fun _ _ => rfl⟩
    intro r2 F2 H locs q2 hw
    obtain ⟨hRa, er2, eF2⟩ := q2
    dsimp only at er2 eF2
    rw [eF2] at hw
    clear eF2
    obtain ⟨hRa1, hRa2⟩ := id hRa
    obtain ⟨x, ex⟩ : ∃ z : Nat, z = a.toNat := ⟨_, rfl⟩
    rw [← ex] at er2
    subst er2
    have hokx := hok.at (show x < 16 by omega)
    obtain ⟨xs, exs⟩ : ∃ z : Nat, z = if zS g x < 0 then 1 else 0 := ⟨_, rfl⟩
    obtain ⟨xt, ext⟩ : ∃ z : Nat, z = (zS g x).natAbs := ⟨_, rfl⟩
    have hFx : Frc ty ad F (2 + 5 * x) xt (bS g x) xs := by rw [exs, ext]; exact hRf x (by omega)
    have hzx : sg xs xt = zS g x := by rw [exs, ext]; exact sg_self _
    have hsx : xs ≤ 1 := by rw [exs]; split <;> omega
    rw [← ext] at hokx
    obtain ⟨hsmx1, hsmx2, hpx, hgx⟩ := id hokx
    have hOx := hFx.2.1
    refine lv_astore_n (lv' := [(3, .ref (ad (2 + 5 * x))), (0, .ref (ad (0))), (1, .int (iI (a))), (2, .int (iI (b1)))]) hx hb d_K_order_5 rfl hl (by decide) rfl (fun ls hl => ?_)
    refine lv_aload_n hx hb d_K_order_6 rfl (lv_at hl 1 rfl) ?_
    refine lv_iload_n hx hb d_K_order_7 rfl (lv_at hl 3 rfl) ?_
    refine px_callr hw (vx_runV (As := [.int (iI (b1))]) (rest := []) ⟨hx, hb, hml, hown, hq⟩ (c_K_register l D ty ad M F H.size hl0 hM g hDk hok b1 hb1) (cwV 1 hq (gV ml_K_34 im_K_register se_K_register in_K m_K_register) rfl rfl rfl (by decide +kernel) ⟨Nat.le_of_ble_eq_true rfl, Nat.le_of_ble_eq_true rfl⟩) (px_preV hw hxk (by omega) hK rfl) rfl rfl hl.1 rfl (lv_room (Nat.le_of_ble_eq_true rfl)) d_K_order_8 ⟨Nat.le_of_ble_eq_true rfl, Nat.le_of_ble_eq_true rfl⟩) ?_ ?_
    · intro E9 ce9 q9 F9 H9 l9 hp9 hw9 h1 h2 h3
      rw [← hQ]
      refine px_out hex hlocks hw9 h1 h2 h3 ?_ (Nat.le_of_ble_eq_true rfl) (Nat.le_of_ble_eq_true rfl)
      exact by
        obtain ⟨h7, h8, h6⟩ := hp9
        dsimp only at h8 h6
        subst h8; subst h6
        rw [dPx, o_order, cif_neg (fun h9 => h7 (h9.2))]
        exact ⟨Or.inl ⟨rfl, rfl⟩, hDk, fun _ _ => rfl⟩
    intro r8 F8 H locs q8 hw
    obtain ⟨hRb1, er8, eF8⟩ := q8
    dsimp only at er8 eF8
    rw [eF8] at hw
    clear eF8
    obtain ⟨hRb11, hRb12⟩ := id hRb1
    obtain ⟨y, ey⟩ : ∃ z : Nat, z = b1.toNat := ⟨_, rfl⟩
    rw [← ey] at er8
    subst er8
    have hoky := hok.at (show y < 16 by omega)
    obtain ⟨ys, eys⟩ : ∃ z : Nat, z = if zS g y < 0 then 1 else 0 := ⟨_, rfl⟩
    obtain ⟨yt, eyt⟩ : ∃ z : Nat, z = (zS g y).natAbs := ⟨_, rfl⟩
    have hFy : Frc ty ad F (2 + 5 * y) yt (bS g y) ys := by rw [eys, eyt]; exact hRf y (by omega)
    have hzy : sg ys yt = zS g y := by rw [eys, eyt]; exact sg_self _
    have hsy : ys ≤ 1 := by rw [eys]; split <;> omega
    rw [← eyt] at hoky
    obtain ⟨hsmy1, hsmy2, hpy, hgy⟩ := id hoky
    have hOy := hFy.2.1
    refine lv_astore (lv' := [(4, .ref (ad (2 + 5 * y))), (3, .ref (ad (2 + 5 * x))), (0, .ref (ad (0))), (1, .int (iI (a))), (2, .int (iI (b1)))]) hx hb d_K_order_11 hl (by decide) rfl (fun ls hl => ?_)
    refine lv_aload_n hx hb d_K_order_13 rfl (lv_at hl 2 rfl) ?_
    refine pw_get (ci := 5) (C := R_K) (T := T_K) (N := 4) hx hb hq i_K hown hw (by omega) hK rfl 1 (by decide) (hq _ fl_K_19) (fun _ h9 => h9) rfl d_K_order_14 ?_
    refine lv_aload_n hx hb d_K_order_17 rfl (lv_at hl 1 rfl) ?_
    refine lv_aload hx hb d_K_order_18 (lv_at hl 0 rfl) ?_
    refine pw_calli hw (va_runV (As := [.ref (ad (2 + 5 * x)), .ref (ad (2 + 5 * y))]) (rest := []) ⟨hx, hb, hml, hown, hq⟩ (c_B_compareFractions l D ty ad M F H.size hM hBn (2 + 5 * x) xt (bS g x) xs (by omega) hFx (by omega) hsmx1 hsmx2 (2 + 5 * y) yt (bS g y) ys (by omega) hFy (by omega) hsmy1 hsmy2 (fun h9 => by rw [exs] at h9; split at h9 <;> omega) (fun h9 => by rw [eys] at h9; split at h9 <;> omega) hpx hpy) (cwV 2 hq (gV ml_K_80 im_B_compareFractions se_B_compareFractions in_B m_B_compareFractions) rfl rfl rfl (by decide +kernel) ⟨Nat.le_of_ble_eq_true rfl, Nat.le_of_ble_eq_true rfl⟩) (pw_preBn hw hM hBn) rfl rfl hl.1 rfl (lv_room (Nat.le_of_ble_eq_true rfl)) d_K_order_20 ⟨Nat.le_of_ble_eq_true rfl, Nat.le_of_ble_eq_true rfl⟩) (fun r20 F20 H locs q20 hw => ?_)
    obtain ⟨er20, hB20, hf20⟩ := q20
    rw [sg_cmp, sg_cmp, hzx, hzy] at er20
    have hK_at_20 : F20 (0) = .inr (5, [.ref (ad (1)), .ref (ad (82)), .ref (ad (96)), .int (iI (pS g))]) := (hf20 (0) (by omega)).trans hK
    have hOx_at_20 : F20 (2 + 5 * x) = .inr (1, [.ref (ad (2 + 5 * x + 1)), .ref (ad (2 + 5 * x + 3)), .int (iI ((xs : Int)))]) := (hf20 (2 + 5 * x) (by omega)).trans hOx
    have hFx_at_20 : Frc ty ad F20 (2 + 5 * x) xt (bS g x) xs := Frc.m5 hFx (hf20 (2 + 5 * x) (by omega)) (hf20 (2 + 5 * x + 1) (by omega)) (hf20 (2 + 5 * x + 2) (by omega)) (hf20 (2 + 5 * x + 3) (by omega)) (hf20 (2 + 5 * x + 4) (by omega))
    have hOy_at_20 : F20 (2 + 5 * y) = .inr (1, [.ref (ad (2 + 5 * y + 1)), .ref (ad (2 + 5 * y + 3)), .int (iI ((ys : Int)))]) := (hf20 (2 + 5 * y) (by omega)).trans hOy
    have hFy_at_20 : Frc ty ad F20 (2 + 5 * y) yt (bS g y) ys := Frc.m5 hFy (hf20 (2 + 5 * y) (by omega)) (hf20 (2 + 5 * y + 1) (by omega)) (hf20 (2 + 5 * y + 2) (by omega)) (hf20 (2 + 5 * y + 3) (by omega)) (hf20 (2 + 5 * y + 4) (by omega))
    rw [← hQ]
    refine W.widen (k := 8) (n := 48) (Nat.le_of_ble_eq_true rfl) (Nat.le_of_ble_eq_true rfl) ?_
    exact vx_ret (pw_iret hx hb hr hlocks hw (by
      rw [o_order, cif_pos ⟨hRa, hRb1⟩, ← ex, ← ey]
      exact ⟨rfl, er20, hDk.bench hB20 (fun y9 h9 => hf20 (y9) (by omega)), fun y9 h9 => hf20 (y9) (by omega)⟩) d_K_order_23)
  rw [hH, hlo] at hgo
  exact hgo
set_option maxHeartbeats 4000000 in
set_option maxRecDepth 100000 in
/-- sign(a) -/
theorem c_K_sign (l : Launch) (D : va_G) (ty : Nat → ClassId) (ad : Nat → Nat) (M : Nat) (F : Nat → va_E) (sz : Nat) (hl0 : l.stackTraces = false) (hM : 97 < M) (g : Sg) (hDk : Dk ty ad F g) (hok : okS g) (a : Int) (ha : -2147483648 ≤ a ∧ a < 2147483648) :
    XI l y_K_sign w_K_sign ({ frames := 7, cells := 8, slots := 48, locals := 121 } : Room) [.ref (ad (0)), .int (iI (a))] D ty ad M F sz 8 48 (dPost ty ad F (o_sign g a)) (dPx ty ad F (o_sign g a)) := by
  refine vx_ofW (cc := b_K_sign) (maxL := 2) (ret := (some .int)) (by decide) rfl ?_
  intro p e s m args below meth c s₁ B hml hex hv
  obtain ⟨rfl, ⟨hsz, hP, hK, hD0⟩, hxk⟩ := hv
  have hx := B.exec
  have hb := B.bytes
  have hr := B.returns
  have hts := atoms_spec (ws := w_K_sign) B.pre
  have hq : ∀ w ∈ wT, w.before _ s = true := fun w h => hts w (List.mem_cons_of_mem _ h)
  have hown : s.vm.findClass R_K = some m.cls := findClass_of_methodNamed B.named
  have hlocks := B.notSynchronized
  subst hsz
  have hw := pw_start hP hK hD0
  have hl := lv_entry ([.ref (ad (0)), .int (iI (a))]) (n := 2) (Nat.le_of_ble_eq_true rfl)
  rw [lg_entry_eq]
  generalize (lg_sl ([.ref (ad (0)), .int (iI (a))]) ++ List.replicate (2 - (lg_sl ([.ref (ad (0)), .int (iI (a))])).length) Slot.unset).toArray = ls at hl ⊢
  have hl : lv_has ls 2 [(0, .ref (ad (0))), (1, .int (iI (a)))] := hl
  change W p l e ({ frames := 7, cells := 8, slots := 48, locals := 121 } : Room) s m ([.ref (ad (0)), .int (iI (a))]).toArray below meth c s.heap [] 0 0 (vx_MQ below (va_Qi (dPost ty ad F (o_sign g a)) (pAt D classes (tysL ty) ad M (pA ad M s.heap.size)) (pA ad M s.heap.size)) (xX D ty ad M s.heap.size (dPx ty ad F (o_sign g a))) ([.ref (ad (0)), .int (iI (a))]).toArray s 8 48 (pA ad M s.heap.size)) (F0 m 0 ls [])
  generalize hQ : vx_MQ below (va_Qi (dPost ty ad F (o_sign g a)) (pAt D classes (tysL ty) ad M (pA ad M s.heap.size)) (pA ad M s.heap.size)) (xX D ty ad M s.heap.size (dPx ty ad F (o_sign g a))) ([.ref (ad (0)), .int (iI (a))]).toArray s 8 48 (pA ad M s.heap.size) = Q
  obtain ⟨H, hH⟩ : ∃ H, H = s.heap := ⟨_, rfl⟩
  obtain ⟨locs, hlo⟩ : ∃ z : List Loc, z = [] := ⟨_, rfl⟩
  have hw : pw D classes (tysL ty) ad M F (pA ad M s.heap.size) s H locs := by rw [hH, hlo]; exact hw
  have hgo : W p l e ({ frames := 7, cells := 8, slots := 48, locals := 121 } : Room) s m ([.ref (ad (0)), .int (iI (a))]).toArray below meth c H locs 0 0 Q (F0 m 0 ls []) := by
    obtain ⟨hK, hRg, hBn, hTx⟩ := id hDk
    obtain ⟨⟨q0, hR1, hq0⟩, hRf⟩ := id hRg
    refine lv_aload_n hx hb d_K_sign_0 rfl (lv_at hl 0 rfl) ?_
    refine lv_iload_n hx hb d_K_sign_1 rfl (lv_at hl 1 rfl) ?_
    refine px_callr hw (vx_runV (As := [.int (iI (a))]) (rest := []) ⟨hx, hb, hml, hown, hq⟩ (c_K_register l D ty ad M F H.size hl0 hM g hDk hok a ha) (cwV 1 hq (gV ml_K_34 im_K_register se_K_register in_K m_K_register) rfl rfl rfl (by decide +kernel) ⟨Nat.le_of_ble_eq_true rfl, Nat.le_of_ble_eq_true rfl⟩) (px_preV hw hxk (by omega) hK rfl) rfl rfl hl.1 rfl (lv_room (Nat.le_of_ble_eq_true rfl)) d_K_sign_2 ⟨Nat.le_of_ble_eq_true rfl, Nat.le_of_ble_eq_true rfl⟩) ?_ ?_
    · intro E9 ce9 q9 F9 H9 l9 hp9 hw9 h1 h2 h3
      rw [← hQ]
      refine px_out hex hlocks hw9 h1 h2 h3 ?_ (Nat.le_of_ble_eq_true rfl) (Nat.le_of_ble_eq_true rfl)
      exact by
        obtain ⟨h7, h8, h6⟩ := hp9
        dsimp only at h8 h6
        subst h8; subst h6
        rw [dPx, o_sign, cif_neg (fun h9 => h7 (h9))]
        exact ⟨Or.inl ⟨rfl, rfl⟩, hDk, fun _ _ => rfl⟩
    intro r2 F2 H locs q2 hw
    obtain ⟨hRa, er2, eF2⟩ := q2
    dsimp only at er2 eF2
    rw [eF2] at hw
    clear eF2
    obtain ⟨hRa1, hRa2⟩ := id hRa
    obtain ⟨x, ex⟩ : ∃ z : Nat, z = a.toNat := ⟨_, rfl⟩
    rw [← ex] at er2
    subst er2
    have hokx := hok.at (show x < 16 by omega)
    obtain ⟨xs, exs⟩ : ∃ z : Nat, z = if zS g x < 0 then 1 else 0 := ⟨_, rfl⟩
    obtain ⟨xt, ext⟩ : ∃ z : Nat, z = (zS g x).natAbs := ⟨_, rfl⟩
    have hFx : Frc ty ad F (2 + 5 * x) xt (bS g x) xs := by rw [exs, ext]; exact hRf x (by omega)
    have hzx : sg xs xt = zS g x := by rw [exs, ext]; exact sg_self _
    have hsx : xs ≤ 1 := by rw [exs]; split <;> omega
    rw [← ext] at hokx
    obtain ⟨hsmx1, hsmx2, hpx, hgx⟩ := id hokx
    have hOx := hFx.2.1
    refine pw_calli hw (va_runV (As := []) (rest := []) ⟨hx, hb, hml, hown, hq⟩ (c_F_signum l D ty ad M F H.size (2 + 5 * x) xt (bS g x) xs (by omega) hFx) (cwV 0 hq (gV ml_K_61 im_F_signum se_F_signum in_F m_F_signum) rfl rfl rfl (by decide +kernel) ⟨Nat.le_of_ble_eq_true rfl, Nat.le_of_ble_eq_true rfl⟩) (pw_preV hw (by omega) hOx rfl) rfl rfl hl.1 rfl (lv_room (Nat.le_of_ble_eq_true rfl)) d_K_sign_5 ⟨Nat.le_of_ble_eq_true rfl, Nat.le_of_ble_eq_true rfl⟩) (fun r5 F5 H locs q5 hw => ?_)
    obtain ⟨er5, eF5⟩ := q5
    rw [eF5] at hw
    clear eF5
    subst er5
    rw [← hQ]
    refine W.widen (k := 8) (n := 48) (Nat.le_of_ble_eq_true rfl) (Nat.le_of_ble_eq_true rfl) ?_
    exact vx_ret (pw_iret hx hb hr hlocks hw (by
      rw [o_sign, cif_pos hRa, ← ex]
      exact ⟨rfl, by rw [sgn_sg hsx, hzx], hDk, fun _ _ => rfl⟩) d_K_sign_8)
  rw [hH, hlo] at hgo
  exact hgo
set_option maxHeartbeats 4000000 in
set_option maxRecDepth 100000 in
/-- half(a, which) -/
theorem c_K_half (l : Launch) (D : va_G) (ty : Nat → ClassId) (ad : Nat → Nat) (M : Nat) (F : Nat → va_E) (sz : Nat) (hl0 : l.stackTraces = false) (hM : 97 < M) (g : Sg) (hDk : Dk ty ad F g) (hok : okS g) (a : Int) (ha : -2147483648 ≤ a ∧ a < 2147483648) (v : Int) (hv : -2147483648 ≤ v ∧ v < 2147483648) :
    XR l y_K_half w_K_half ({ frames := 7, cells := 2, slots := 12, locals := 121 } : Room) [.ref (ad (0)), .int (iI (a)), .int (iI (v))] D ty ad M F sz 2 12 (fun u => (isR a ∧ (v = 0 ∨ v = 1)) ∧ u.1 = (if v = 0 then 2 + 5 * a.toNat + 1 else 2 + 5 * a.toNat + 3) ∧ u.2 = F) (fun u => ¬ (isR a ∧ (v = 0 ∨ v = 1)) ∧ u.1 = xE ∧ u.2 = F) := by
  refine vx_ofW (cc := b_K_half) (maxL := 4) (ret := (some (.object "FractionDesk$Whole"))) (by decide) rfl ?_
  intro p e s m args below meth c s₁ B hml hex hv
  obtain ⟨rfl, ⟨hsz, hP, hK, hD0⟩, hxk⟩ := hv
  have hx := B.exec
  have hb := B.bytes
  have hr := B.returns
  have hts := atoms_spec (ws := w_K_half) B.pre
  have hq : ∀ w ∈ wT, w.before _ s = true := fun w h => hts w (List.mem_cons_of_mem _ h)
  have hown : s.vm.findClass R_K = some m.cls := findClass_of_methodNamed B.named
  have hlocks := B.notSynchronized
  subst hsz
  have hw := pw_start hP hK hD0
  have hl := lv_entry ([.ref (ad (0)), .int (iI (a)), .int (iI (v))]) (n := 4) (Nat.le_of_ble_eq_true rfl)
  rw [lg_entry_eq]
  generalize (lg_sl ([.ref (ad (0)), .int (iI (a)), .int (iI (v))]) ++ List.replicate (4 - (lg_sl ([.ref (ad (0)), .int (iI (a)), .int (iI (v))])).length) Slot.unset).toArray = ls at hl ⊢
  have hl : lv_has ls 4 [(0, .ref (ad (0))), (1, .int (iI (a))), (2, .int (iI (v)))] := hl
  change W p l e ({ frames := 7, cells := 2, slots := 12, locals := 121 } : Room) s m ([.ref (ad (0)), .int (iI (a)), .int (iI (v))]).toArray below meth c s.heap [] 0 0 (vx_MQ below (va_Qr (fun u => (isR a ∧ (v = 0 ∨ v = 1)) ∧ u.1 = (if v = 0 then 2 + 5 * a.toNat + 1 else 2 + 5 * a.toNat + 3) ∧ u.2 = F) (pAtR D classes (tysL ty) ad M (pA ad M s.heap.size)) (pA ad M s.heap.size)) (xX D ty ad M s.heap.size (fun u => ¬ (isR a ∧ (v = 0 ∨ v = 1)) ∧ u.1 = xE ∧ u.2 = F)) ([.ref (ad (0)), .int (iI (a)), .int (iI (v))]).toArray s 2 12 (pA ad M s.heap.size)) (F0 m 0 ls [])
  generalize hQ : vx_MQ below (va_Qr (fun u => (isR a ∧ (v = 0 ∨ v = 1)) ∧ u.1 = (if v = 0 then 2 + 5 * a.toNat + 1 else 2 + 5 * a.toNat + 3) ∧ u.2 = F) (pAtR D classes (tysL ty) ad M (pA ad M s.heap.size)) (pA ad M s.heap.size)) (xX D ty ad M s.heap.size (fun u => ¬ (isR a ∧ (v = 0 ∨ v = 1)) ∧ u.1 = xE ∧ u.2 = F)) ([.ref (ad (0)), .int (iI (a)), .int (iI (v))]).toArray s 2 12 (pA ad M s.heap.size) = Q
  obtain ⟨H, hH⟩ : ∃ H, H = s.heap := ⟨_, rfl⟩
  obtain ⟨locs, hlo⟩ : ∃ z : List Loc, z = [] := ⟨_, rfl⟩
  have hw : pw D classes (tysL ty) ad M F (pA ad M s.heap.size) s H locs := by rw [hH, hlo]; exact hw
  have hgo : W p l e ({ frames := 7, cells := 2, slots := 12, locals := 121 } : Room) s m ([.ref (ad (0)), .int (iI (a)), .int (iI (v))]).toArray below meth c H locs 0 0 Q (F0 m 0 ls []) := by
    obtain ⟨hK, hRg, hBn, hTx⟩ := id hDk
    obtain ⟨⟨q0, hR1, hq0⟩, hRf⟩ := id hRg
    refine lv_aload_n hx hb d_K_half_0 rfl (lv_at hl 0 rfl) ?_
    refine lv_iload_n hx hb d_K_half_1 rfl (lv_at hl 1 rfl) ?_
    refine px_callr hw (vx_runV (As := [.int (iI (a))]) (rest := []) ⟨hx, hb, hml, hown, hq⟩ (c_K_register l D ty ad M F H.size hl0 hM g hDk hok a ha) (cwV 1 hq (gV ml_K_34 im_K_register se_K_register in_K m_K_register) rfl rfl rfl (by decide +kernel) ⟨Nat.le_of_ble_eq_true rfl, Nat.le_of_ble_eq_true rfl⟩) (px_preV hw hxk (by omega) hK rfl) rfl rfl hl.1 rfl (lv_room (Nat.le_of_ble_eq_true rfl)) d_K_half_2 ⟨Nat.le_of_ble_eq_true rfl, Nat.le_of_ble_eq_true rfl⟩) ?_ ?_
    · intro E9 ce9 q9 F9 H9 l9 hp9 hw9 h1 h2 h3
      rw [← hQ]
      refine px_out hex hlocks hw9 h1 h2 h3 ?_ (Nat.le_of_ble_eq_true rfl) (Nat.le_of_ble_eq_true rfl)
      exact ⟨fun h9 => hp9.1 h9.1, hp9.2.1, hp9.2.2⟩
    intro r2 F2 H locs q2 hw
    obtain ⟨hRa, er2, eF2⟩ := q2
    dsimp only at er2 eF2
    rw [eF2] at hw
    clear eF2
    obtain ⟨hRa1, hRa2⟩ := id hRa
    obtain ⟨x, ex⟩ : ∃ z : Nat, z = a.toNat := ⟨_, rfl⟩
    rw [← ex] at er2
    subst er2
    have hokx := hok.at (show x < 16 by omega)
    obtain ⟨xs, exs⟩ : ∃ z : Nat, z = if zS g x < 0 then 1 else 0 := ⟨_, rfl⟩
    obtain ⟨xt, ext⟩ : ∃ z : Nat, z = (zS g x).natAbs := ⟨_, rfl⟩
    have hFx : Frc ty ad F (2 + 5 * x) xt (bS g x) xs := by rw [exs, ext]; exact hRf x (by omega)
    have hzx : sg xs xt = zS g x := by rw [exs, ext]; exact sg_self _
    have hsx : xs ≤ 1 := by rw [exs]; split <;> omega
    rw [← ext] at hokx
    obtain ⟨hsmx1, hsmx2, hpx, hgx⟩ := id hokx
    have hOx := hFx.2.1
    refine lv_astore_n (lv' := [(3, .ref (ad (2 + 5 * x))), (0, .ref (ad (0))), (1, .int (iI (a))), (2, .int (iI (v)))]) hx hb d_K_half_5 rfl hl (by decide) rfl (fun ls hl => ?_)
    refine lv_iload_n hx hb d_K_half_6 rfl (lv_at hl 3 rfl) ?_
    refine wz_if_eq (tgt := 25) hx hb d_K_half_7 (by decide) (by omega) (by omega) (fun c7 => ?_) (fun c7 => ?_)
    · refine lv_iload_n hx hb d_K_half_25 rfl (lv_at hl 3 rfl) ?_
      refine wz_if_ne (tgt := 36) hx hb d_K_half_26 (by decide) (by omega) (by omega) (fun c26 => ?_) (fun c26 => ?_)
      · refine lv_aload_n hx hb d_K_half_36 rfl (lv_at hl 0 rfl) ?_
        refine pw_get (ci := 1) (C := R_F) (T := T_F) (N := 3) hx hb hq i_F hown hw (by omega) hOx rfl 1 (by decide) (hq _ fl_K_104) (fun _ h9 => h9) rfl d_K_half_37 ?_
        rw [← hQ]
        refine W.widen (k := 2) (n := 12) (Nat.le_of_ble_eq_true rfl) (Nat.le_of_ble_eq_true rfl) ?_
        exact vx_ret (pw_aret hx hb hr (Or.inl ⟨_, rfl⟩) hlocks hw (⟨⟨hRa, by omega⟩, by rw [if_neg (by omega), ← ex], rfl⟩) d_K_half_40)
      · refine lv_aload_n hx hb d_K_half_29 rfl (lv_at hl 0 rfl) ?_
        refine pw_get (ci := 1) (C := R_F) (T := T_F) (N := 3) hx hb hq i_F hown hw (by omega) hOx rfl 0 (by decide) (hq _ fl_K_100) (fun _ h9 => h9) rfl d_K_half_30 ?_
        refine lv_goto (tgt := 40) hx hb d_K_half_33 (by decide) ?_
        rw [← hQ]
        refine W.widen (k := 2) (n := 12) (Nat.le_of_ble_eq_true rfl) (Nat.le_of_ble_eq_true rfl) ?_
        exact vx_ret (pw_aret hx hb hr (Or.inl ⟨_, rfl⟩) hlocks hw (⟨⟨hRa, by omega⟩, by rw [if_pos (by omega), ← ex], rfl⟩) d_K_half_40)
    · refine lv_iload_n hx hb d_K_half_10 rfl (lv_at hl 3 rfl) ?_
      refine wz_iconst (n := 1) hx hb d_K_half_11 ?_
      refine wz_icmp_eq (tgt := 25) hx hb d_K_half_12 (by decide) (by omega) (by omega) (by omega) (by omega) (fun c12 => ?_) (fun c12 => ?_)
      · refine lv_iload_n hx hb d_K_half_25 rfl (lv_at hl 3 rfl) ?_
        refine wz_if_ne (tgt := 36) hx hb d_K_half_26 (by decide) (by omega) (by omega) (fun c26 => ?_) (fun c26 => ?_)
        · refine lv_aload_n hx hb d_K_half_36 rfl (lv_at hl 0 rfl) ?_
          refine pw_get (ci := 1) (C := R_F) (T := T_F) (N := 3) hx hb hq i_F hown hw (by omega) hOx rfl 1 (by decide) (hq _ fl_K_104) (fun _ h9 => h9) rfl d_K_half_37 ?_
          rw [← hQ]
          refine W.widen (k := 2) (n := 12) (Nat.le_of_ble_eq_true rfl) (Nat.le_of_ble_eq_true rfl) ?_
          exact vx_ret (pw_aret hx hb hr (Or.inl ⟨_, rfl⟩) hlocks hw (⟨⟨hRa, by omega⟩, by rw [if_neg (by omega), ← ex], rfl⟩) d_K_half_40)
        · refine lv_aload_n hx hb d_K_half_29 rfl (lv_at hl 0 rfl) ?_
          refine pw_get (ci := 1) (C := R_F) (T := T_F) (N := 3) hx hb hq i_F hown hw (by omega) hOx rfl 0 (by decide) (hq _ fl_K_100) (fun _ h9 => h9) rfl d_K_half_30 ?_
          refine lv_goto (tgt := 40) hx hb d_K_half_33 (by decide) ?_
          rw [← hQ]
          refine W.widen (k := 2) (n := 12) (Nat.le_of_ble_eq_true rfl) (Nat.le_of_ble_eq_true rfl) ?_
          exact vx_ret (pw_aret hx hb hr (Or.inl ⟨_, rfl⟩) hlocks hw (⟨⟨hRa, by omega⟩, by rw [if_pos (by omega), ← ex], rfl⟩) d_K_half_40)
      · rw [← hQ]
        exact px_throwA (is := 175) (text := "neither top nor bottom") hx hb hl0 hown hq hxk (by decide) hw (hl.1.trans hml.symm) d_K_half_15 d_K_half_18 d_K_half_19 d_K_half_21 d_K_half_24 hex (Nat.le_of_ble_eq_true rfl) (Nat.le_of_ble_eq_true rfl) (Nat.le_of_ble_eq_true rfl) (Nat.le_of_ble_eq_true rfl) hlocks (⟨fun h9 => by omega, rfl, rfl⟩) (Nat.le_of_ble_eq_true rfl) (Nat.le_of_ble_eq_true rfl)
  rw [hH, hlo] at hgo
  exact hgo
set_option maxHeartbeats 4000000 in
set_option maxRecDepth 100000 in
/-- places(a, which) -/
theorem c_K_places (l : Launch) (D : va_G) (ty : Nat → ClassId) (ad : Nat → Nat) (M : Nat) (F : Nat → va_E) (sz : Nat) (hl0 : l.stackTraces = false) (hM : 97 < M) (g : Sg) (hDk : Dk ty ad F g) (hok : okS g) (a : Int) (ha : -2147483648 ≤ a ∧ a < 2147483648) (v : Int) (hv : -2147483648 ≤ v ∧ v < 2147483648) :
    XI l y_K_places w_K_places ({ frames := 8, cells := 8, slots := 48, locals := 144 } : Room) [.ref (ad (0)), .int (iI (a)), .int (iI (v))] D ty ad M F sz 8 48 (dPost ty ad F (o_places g a v)) (dPx ty ad F (o_places g a v)) := by
  refine vx_ofW (cc := b_K_places) (maxL := 3) (ret := (some .int)) (by decide) rfl ?_
  intro p e s m args below meth c s₁ B hml hex hv
  obtain ⟨rfl, ⟨hsz, hP, hK, hD0⟩, hxk⟩ := hv
  have hx := B.exec
  have hb := B.bytes
  have hr := B.returns
  have hts := atoms_spec (ws := w_K_places) B.pre
  have hq : ∀ w ∈ wT, w.before _ s = true := fun w h => hts w (List.mem_cons_of_mem _ h)
  have hown : s.vm.findClass R_K = some m.cls := findClass_of_methodNamed B.named
  have hlocks := B.notSynchronized
  subst hsz
  have hw := pw_start hP hK hD0
  have hl := lv_entry ([.ref (ad (0)), .int (iI (a)), .int (iI (v))]) (n := 3) (Nat.le_of_ble_eq_true rfl)
  rw [lg_entry_eq]
  generalize (lg_sl ([.ref (ad (0)), .int (iI (a)), .int (iI (v))]) ++ List.replicate (3 - (lg_sl ([.ref (ad (0)), .int (iI (a)), .int (iI (v))])).length) Slot.unset).toArray = ls at hl ⊢
  have hl : lv_has ls 3 [(0, .ref (ad (0))), (1, .int (iI (a))), (2, .int (iI (v)))] := hl
  change W p l e ({ frames := 8, cells := 8, slots := 48, locals := 144 } : Room) s m ([.ref (ad (0)), .int (iI (a)), .int (iI (v))]).toArray below meth c s.heap [] 0 0 (vx_MQ below (va_Qi (dPost ty ad F (o_places g a v)) (pAt D classes (tysL ty) ad M (pA ad M s.heap.size)) (pA ad M s.heap.size)) (xX D ty ad M s.heap.size (dPx ty ad F (o_places g a v))) ([.ref (ad (0)), .int (iI (a)), .int (iI (v))]).toArray s 8 48 (pA ad M s.heap.size)) (F0 m 0 ls [])
  generalize hQ : vx_MQ below (va_Qi (dPost ty ad F (o_places g a v)) (pAt D classes (tysL ty) ad M (pA ad M s.heap.size)) (pA ad M s.heap.size)) (xX D ty ad M s.heap.size (dPx ty ad F (o_places g a v))) ([.ref (ad (0)), .int (iI (a)), .int (iI (v))]).toArray s 8 48 (pA ad M s.heap.size) = Q
  obtain ⟨H, hH⟩ : ∃ H, H = s.heap := ⟨_, rfl⟩
  obtain ⟨locs, hlo⟩ : ∃ z : List Loc, z = [] := ⟨_, rfl⟩
  have hw : pw D classes (tysL ty) ad M F (pA ad M s.heap.size) s H locs := by rw [hH, hlo]; exact hw
  have hgo : W p l e ({ frames := 8, cells := 8, slots := 48, locals := 144 } : Room) s m ([.ref (ad (0)), .int (iI (a)), .int (iI (v))]).toArray below meth c H locs 0 0 Q (F0 m 0 ls []) := by
    obtain ⟨hK, hRg, hBn, hTx⟩ := id hDk
    obtain ⟨⟨q0, hR1, hq0⟩, hRf⟩ := id hRg
    refine lv_aload_n hx hb d_K_places_0 rfl (lv_at hl 0 rfl) ?_
    refine lv_iload_n hx hb d_K_places_1 rfl (lv_at hl 1 rfl) ?_
    refine lv_iload_n hx hb d_K_places_2 rfl (lv_at hl 2 rfl) ?_
    refine px_callr hw (vx_runV (As := [.int (iI (a)), .int (iI (v))]) (rest := []) ⟨hx, hb, hml, hown, hq⟩ (c_K_half l D ty ad M F H.size hl0 hM g hDk hok a ha v hv) (cwV 2 hq (gV ml_K_125 im_K_half se_K_half in_K m_K_half) rfl rfl rfl (by decide +kernel) ⟨Nat.le_of_ble_eq_true rfl, Nat.le_of_ble_eq_true rfl⟩) (px_preV hw hxk (by omega) hK rfl) rfl rfl hl.1 rfl (lv_room (Nat.le_of_ble_eq_true rfl)) d_K_places_3 ⟨Nat.le_of_ble_eq_true rfl, Nat.le_of_ble_eq_true rfl⟩) ?_ ?_
    · intro E9 ce9 q9 F9 H9 l9 hp9 hw9 h1 h2 h3
      rw [← hQ]
      refine px_out hex hlocks hw9 h1 h2 h3 ?_ (Nat.le_of_ble_eq_true rfl) (Nat.le_of_ble_eq_true rfl)
      exact by
        obtain ⟨h7, h8, h6⟩ := hp9
        dsimp only at h8 h6
        subst h8; subst h6
        rw [dPx, o_places, cif_neg h7]
        exact ⟨Or.inl ⟨rfl, rfl⟩, hDk, fun _ _ => rfl⟩
    intro r3 F3 H locs q3 hw
    obtain ⟨hR, er3, eF3⟩ := q3
    dsimp only at er3 eF3
    rw [eF3] at hw
    clear eF3
    obtain ⟨⟨hR1, hR2⟩, hR3⟩ := id hR
    obtain ⟨x, ex⟩ : ∃ z : Nat, z = a.toNat := ⟨_, rfl⟩
    have hFx : frz ty ad F (2 + 5 * x) (zS g x) (bS g x) := hRf x (by omega)
    have hW3 : Wv ty ad F r3 67 (if v = 0 then (zS g x).natAbs else bS g x) := by
      rw [er3, ← ex]
      by_cases c9 : v = 0
      · rw [if_pos c9, if_pos c9]; exact hFx.2.2.1
      · rw [if_neg c9, if_neg c9]; exact hFx.2.2.2
    have hr3 : r3 + 1 < M := by rw [er3]; split <;> omega
    refine pw_calli hw (va_runV (As := []) (rest := []) ⟨hx, hb, hml, hown, hq⟩ (c_W_bits l D ty ad M F H.size r3 67 (if v = 0 then (zS g x).natAbs else bS g x) hr3 (by omega) hW3) (cwV 0 hq (gV ml_K_129 im_W_bits se_W_bits in_W m_W_bits) rfl rfl rfl (by decide +kernel) ⟨Nat.le_of_ble_eq_true rfl, Nat.le_of_ble_eq_true rfl⟩) (pw_preWa hw (by omega) hW3.a) rfl rfl hl.1 rfl (lv_room (Nat.le_of_ble_eq_true rfl)) d_K_places_6 ⟨Nat.le_of_ble_eq_true rfl, Nat.le_of_ble_eq_true rfl⟩) (fun r6 F6 H locs q6 hw => ?_)
    obtain ⟨er6, eF6⟩ := q6
    rw [eF6] at hw
    clear eF6
    subst er6
    rw [← hQ]
    refine W.widen (k := 8) (n := 48) (Nat.le_of_ble_eq_true rfl) (Nat.le_of_ble_eq_true rfl) ?_
    exact vx_ret (pw_iret hx hb hr hlocks hw (by
      rw [o_places, cif_pos hR, ← ex]
      exact ⟨rfl, rfl, hDk, fun _ _ => rfl⟩) d_K_places_9)
  rw [hH, hlo] at hgo
  exact hgo
set_option maxHeartbeats 4000000 in
set_option maxRecDepth 100000 in
/-- part(a, which, k) -/
theorem c_K_part (l : Launch) (D : va_G) (ty : Nat → ClassId) (ad : Nat → Nat) (M : Nat) (F : Nat → va_E) (sz : Nat) (hl0 : l.stackTraces = false) (hM : 97 < M) (g : Sg) (hDk : Dk ty ad F g) (hok : okS g) (a : Int) (ha : -2147483648 ≤ a ∧ a < 2147483648) (v : Int) (hv : -2147483648 ≤ v ∧ v < 2147483648) (k : Int) (hk : -2147483648 ≤ k ∧ k < 2147483648) :
    XJ l y_K_part w_K_part ({ frames := 8, cells := 8, slots := 48, locals := 144 } : Room) [.ref (ad (0)), .int (iI (a)), .int (iI (v)), .int (iI (k))] D ty ad M F sz 8 48 (fun r F1 => (o_part g a v k).1 = 0 ∧ r = iL (o_part g a v k).2.1 ∧ Dk ty ad F1 (o_part g a v k).2.2 ∧ frD F F1) (dPx ty ad F (o_part g a v k)) := by
  refine vx_ofW (cc := b_K_part) (maxL := 4) (ret := (some .long)) (by decide) rfl ?_
  intro p e s m args below meth c s₁ B hml hex hv
  obtain ⟨rfl, ⟨hsz, hP, hK, hD0⟩, hxk⟩ := hv
  have hx := B.exec
  have hb := B.bytes
  have hr := B.returns
  have hts := atoms_spec (ws := w_K_part) B.pre
  have hq : ∀ w ∈ wT, w.before _ s = true := fun w h => hts w (List.mem_cons_of_mem _ h)
  have hown : s.vm.findClass R_K = some m.cls := findClass_of_methodNamed B.named
  have hlocks := B.notSynchronized
  subst hsz
  have hw := pw_start hP hK hD0
  have hl := lv_entry ([.ref (ad (0)), .int (iI (a)), .int (iI (v)), .int (iI (k))]) (n := 4) (Nat.le_of_ble_eq_true rfl)
  rw [lg_entry_eq]
  generalize (lg_sl ([.ref (ad (0)), .int (iI (a)), .int (iI (v)), .int (iI (k))]) ++ List.replicate (4 - (lg_sl ([.ref (ad (0)), .int (iI (a)), .int (iI (v)), .int (iI (k))])).length) Slot.unset).toArray = ls at hl ⊢
  have hl : lv_has ls 4 [(0, .ref (ad (0))), (1, .int (iI (a))), (2, .int (iI (v))), (3, .int (iI (k)))] := hl
  change W p l e ({ frames := 8, cells := 8, slots := 48, locals := 144 } : Room) s m ([.ref (ad (0)), .int (iI (a)), .int (iI (v)), .int (iI (k))]).toArray below meth c s.heap [] 0 0 (vx_MQ below (va_Ql (fun r F1 => (o_part g a v k).1 = 0 ∧ r = iL (o_part g a v k).2.1 ∧ Dk ty ad F1 (o_part g a v k).2.2 ∧ frD F F1) (pAt D classes (tysL ty) ad M (pA ad M s.heap.size)) (pA ad M s.heap.size)) (xX D ty ad M s.heap.size (dPx ty ad F (o_part g a v k))) ([.ref (ad (0)), .int (iI (a)), .int (iI (v)), .int (iI (k))]).toArray s 8 48 (pA ad M s.heap.size)) (F0 m 0 ls [])
  generalize hQ : vx_MQ below (va_Ql (fun r F1 => (o_part g a v k).1 = 0 ∧ r = iL (o_part g a v k).2.1 ∧ Dk ty ad F1 (o_part g a v k).2.2 ∧ frD F F1) (pAt D classes (tysL ty) ad M (pA ad M s.heap.size)) (pA ad M s.heap.size)) (xX D ty ad M s.heap.size (dPx ty ad F (o_part g a v k))) ([.ref (ad (0)), .int (iI (a)), .int (iI (v)), .int (iI (k))]).toArray s 8 48 (pA ad M s.heap.size) = Q
  obtain ⟨H, hH⟩ : ∃ H, H = s.heap := ⟨_, rfl⟩
  obtain ⟨locs, hlo⟩ : ∃ z : List Loc, z = [] := ⟨_, rfl⟩
  have hw : pw D classes (tysL ty) ad M F (pA ad M s.heap.size) s H locs := by rw [hH, hlo]; exact hw
  have hgo : W p l e ({ frames := 8, cells := 8, slots := 48, locals := 144 } : Room) s m ([.ref (ad (0)), .int (iI (a)), .int (iI (v)), .int (iI (k))]).toArray below meth c H locs 0 0 Q (F0 m 0 ls []) := by
    obtain ⟨hK, hRg, hBn, hTx⟩ := id hDk
    obtain ⟨⟨q0, hR1, hq0⟩, hRf⟩ := id hRg
    refine lv_aload_n hx hb d_K_part_0 rfl (lv_at hl 0 rfl) ?_
    refine lv_iload_n hx hb d_K_part_1 rfl (lv_at hl 1 rfl) ?_
    refine lv_iload_n hx hb d_K_part_2 rfl (lv_at hl 2 rfl) ?_
    refine px_callr hw (vx_runV (As := [.int (iI (a)), .int (iI (v))]) (rest := []) ⟨hx, hb, hml, hown, hq⟩ (c_K_half l D ty ad M F H.size hl0 hM g hDk hok a ha v hv) (cwV 2 hq (gV ml_K_125 im_K_half se_K_half in_K m_K_half) rfl rfl rfl (by decide +kernel) ⟨Nat.le_of_ble_eq_true rfl, Nat.le_of_ble_eq_true rfl⟩) (px_preV hw hxk (by omega) hK rfl) rfl rfl hl.1 rfl (lv_room (Nat.le_of_ble_eq_true rfl)) d_K_part_3 ⟨Nat.le_of_ble_eq_true rfl, Nat.le_of_ble_eq_true rfl⟩) ?_ ?_
    · intro E9 ce9 q9 F9 H9 l9 hp9 hw9 h1 h2 h3
      rw [← hQ]
      refine px_out hex hlocks hw9 h1 h2 h3 ?_ (Nat.le_of_ble_eq_true rfl) (Nat.le_of_ble_eq_true rfl)
      exact by
        obtain ⟨h7, h8, h6⟩ := hp9
        dsimp only at h8 h6
        subst h8; subst h6
        rw [dPx, o_part, cif_neg h7]
        exact ⟨Or.inl ⟨rfl, rfl⟩, hDk, fun _ _ => rfl⟩
    intro r3 F3 H locs q3 hw
    obtain ⟨hR, er3, eF3⟩ := q3
    dsimp only at er3 eF3
    rw [eF3] at hw
    clear eF3
    obtain ⟨⟨hR1, hR2⟩, hR3⟩ := id hR
    obtain ⟨x, ex⟩ : ∃ z : Nat, z = a.toNat := ⟨_, rfl⟩
    have hFx : frz ty ad F (2 + 5 * x) (zS g x) (bS g x) := hRf x (by omega)
    have hW3 : Wv ty ad F r3 67 (if v = 0 then (zS g x).natAbs else bS g x) := by
      rw [er3, ← ex]
      by_cases c9 : v = 0
      · rw [if_pos c9, if_pos c9]; exact hFx.2.2.1
      · rw [if_neg c9, if_neg c9]; exact hFx.2.2.2
    have hr3 : r3 + 1 < M := by rw [er3]; split <;> omega
    refine lv_iload_n hx hb d_K_part_6 rfl (lv_at hl 3 rfl) ?_
    refine pw_calll hw (va_runV (As := [.int (iI (k))]) (rest := []) ⟨hx, hb, hml, hown, hq⟩ (c_W_word l D ty ad M F H.size r3 67 (if v = 0 then (zS g x).natAbs else bS g x) k hr3 (by omega) hW3 hk) (cwV 1 hq (gV ml_K_134 im_W_word se_W_word in_W m_W_word) rfl rfl rfl (by decide +kernel) ⟨Nat.le_of_ble_eq_true rfl, Nat.le_of_ble_eq_true rfl⟩) (pw_preWa hw (by omega) hW3.a) rfl rfl hl.1 rfl (lv_room (Nat.le_of_ble_eq_true rfl)) d_K_part_7 ⟨Nat.le_of_ble_eq_true rfl, Nat.le_of_ble_eq_true rfl⟩) (fun r7 F7 H locs q7 hw => ?_)
    obtain ⟨er7, eF7⟩ := q7
    rw [eF7] at hw
    clear eF7
    subst er7
    rw [← hQ]
    refine W.widen (k := 8) (n := 48) (Nat.le_of_ble_eq_true rfl) (Nat.le_of_ble_eq_true rfl) ?_
    exact vx_ret (pw_lret hx hb hr hlocks hw (by
      rw [o_part, cif_pos hR, ← ex]
      exact ⟨rfl, rfl, hDk, fun _ _ => rfl⟩) d_K_part_10)
  rw [hH, hlo] at hgo
  exact hgo
