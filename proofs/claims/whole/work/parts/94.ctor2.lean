/-! constructors: Bench, Text, the reference: by program -/
set_option maxHeartbeats 400000 in
set_option maxRecDepth 100000 in
/-- new Bench() -/
theorem c_B_init (l : Launch) (D : va_G) (ty : Nat → ClassId) (ad : Nat → Nat) (M : Nat) (F : Nat → va_E) (sz : Nat) (hM : M = 83) (h0 : F 82 = .inr (4, [.null, .null, .null, .null, .null, .null, .int (iI 0)])) :
    CN l y_B_init w_B_init ({ frames := 3, cells := 13, slots := 833, locals := 65 } : Room) [.ref (ad (82))] D ty ad M F sz 13 (13) (833) (fun u => Bn ty u.1 u.2 ∧ ∀ y, y < 82 → u.2 y = F y) := by
  refine Met.ofW (cc := b_B_init) (maxL := 1) (ret := none) (by decide) rfl ?_
  intro p e s m args below meth c s₁ B hml hv
  obtain ⟨rfl, hsz, hP, hK, hD0⟩ := hv
  have hx := B.exec
  have hb := B.bytes
  have hr := B.returns
  have hts := atoms_spec (ws := w_B_init) B.pre
  have hq : ∀ w ∈ wT, w.before _ s = true := fun w h => hts w (List.mem_cons_of_mem _ h)
  have hown : s.vm.findClass R_B = some m.cls := findClass_of_methodNamed B.named
  have hlocks := B.notSynchronized
  have hin : meth.name = "<init>" := (name_of_methodNamed B.named B.method).1
  subst hsz
  have hw := pw_start hP hK hD0
  have hl := lv_entry ([.ref (ad (82))]) (n := 1) (Nat.le_of_ble_eq_true rfl)
  rw [lg_entry_eq]
  generalize (lg_sl ([.ref (ad (82))]) ++ List.replicate (1 - (lg_sl ([.ref (ad (82))])).length) Slot.unset).toArray = ls at hl ⊢
  have hl : lv_has ls 1 [(0, .ref (ad (82)))] := hl
  change W p l e ({ frames := 3, cells := 13, slots := 833, locals := 65 } : Room) s m ([.ref (ad (82))]).toArray below meth c s.heap [] 0 0 (MQ below (va_Qv (fun u : (Nat → Nat) × (Nat → va_E) => (∀ i, i < M → u.1 i = ad i) ∧ (fun u => Bn ty u.1 u.2 ∧ ∀ y, y < 82 → u.2 y = F y) u) (fun u => pAt D classes (tysL ty) u.1 (M + 13) (pA ad M s.heap.size) u.2) (pA ad M s.heap.size)) ([.ref (ad (82))]).toArray s (13) (833) (pA ad M s.heap.size)) (F0 m 0 ls [])
  generalize hAr : (([.ref (ad (82))] : List Value)).toArray = args9 at *
  generalize hQ : MQ below (va_Qv (fun u : (Nat → Nat) × (Nat → va_E) => (∀ i, i < M → u.1 i = ad i) ∧ (fun u => Bn ty u.1 u.2 ∧ ∀ y, y < 82 → u.2 y = F y) u) (fun u => pAt D classes (tysL ty) u.1 (M + 13) (pA ad M s.heap.size) u.2) (pA ad M s.heap.size)) args9 s (13) (833) (pA ad M s.heap.size) = Q
  obtain ⟨H, hH⟩ : ∃ H, H = s.heap := ⟨_, rfl⟩
  obtain ⟨locs, hlo⟩ : ∃ z : List Loc, z = [] := ⟨_, rfl⟩
  have hw : pw D classes (tysL ty) ad M F (pA ad M s.heap.size) s H locs := by rw [hH, hlo]; exact hw
  generalize hA9 : pA ad M s.heap.size = A9 at hw
  have hgo : W p l e ({ frames := 3, cells := 13, slots := 833, locals := 65 } : Room) s m args9 below meth c H locs 0 0 Q (F0 m 0 ls []) := by
    refine lv_aload_n hx hb d_B_init_0 rfl (lv_at hl 0 rfl) ?_
    refine W.objInit hx hb hown (hq _ ml_B_3) (hq _ im_obj) (hq _ m_obj) rfl (by rw [hml]; exact hl.1) rfl d_B_init_1 (Nat.le_of_ble_eq_true rfl) (Nat.le_of_ble_eq_true rfl) ?_
    refine W.eq (g2 := F0 m 4 ls []) rfl ?_
    refine lv_aload_n hx hb d_B_init_4 rfl (lv_at hl 0 rfl) ?_
    refine pw_new (ci := 0) (fs := [.null, .int (iI (0))]) (C := R_W) (T := T_W) (N := 2) hx hb hq i_W ft_W ft_W_ok hown (hq _ cl_B_9) (hq _ ia_W) (hq _ in_W) hw rfl (fun j hj => by rcases (show j = 0 ∨ j = 1 by omega) with rfl | rfl <;> rfl) (Nat.le_of_ble_eq_true rfl) (Nat.le_of_ble_eq_true rfl) d_B_init_5 (j := 83) (by omega) (fun ad M F5 H ead5 eM5 eF5 hw => ?_)
    have m5_83 : F5 (83) = .inr (0, [.null, .int (iI (0))]) := by rw [eF5]; exact va_up_self ..
    have hl : lv_has ls 1 [(0, .ref (ad (82)))] := by rw [ead5 (82) (by omega)]; exact hl
    rw [← ead5 (82) (by omega)]
    have h0_at_5 : F5 (82) = .inr (4, [.null, .null, .null, .null, .null, .null, .int (iI (0))]) := by exact (show F5 (82) = F (82) from by rw [eF5]; exact va_up_ne _ _ (by omega)).trans h0
    refine lv_dup hx hb d_B_init_8 rfl ?_
    refine wz_sipush (n := 136) hx hb d_B_init_9 (by decide) ?_
    refine pw_calln hw (va_runI (As := [.int (iI (136))]) (rest := [.ref (ad (83)), .ref (ad (82))]) ⟨hx, hb, hml, hown, hq⟩ (c_W_init l D ty ad M F5 H.size (83) 136 (by omega) (by omega) m5_83) (cwI 1 hq (gT m_W_init) rfl rfl rfl (hq _ in_W) (hq _ ml_B_13) (hq _ im_W_init) rfl (by decide +kernel) ⟨Nat.le_of_ble_eq_true rfl, Nat.le_of_ble_eq_true rfl⟩) (pw_preS hw) rfl rfl hl.1 rfl (lv_room (Nat.le_of_ble_eq_true rfl)) d_B_init_12 ⟨Nat.le_of_ble_eq_true rfl, Nat.le_of_ble_eq_true rfl⟩) (fun ad M F12 H locs ead12 eM12 q12 hw => ?_)
    dsimp only at q12
    obtain ⟨w12_0, w12_1, hf12⟩ := q12
    have hl : lv_has ls 1 [(0, .ref (ad (82)))] := by rw [ead12 (82) (by omega)]; exact hl
    rw [← ead12 (83) (by omega)]
    rw [← ead12 (82) (by omega)]
    have h0_at_12 : F12 (82) = .inr (4, [.null, .null, .null, .null, .null, .null, .int (iI (0))]) := by exact (hf12 (82) (by omega)).trans h0_at_5
    refine pw_putF (ci := 4) (C := R_B) (T := T_B) (N := 7) (ty := (.object "FractionDesk$Whole")) (fs' := [.ref (ad (83)), .null, .null, .null, .null, .null, .int (iI (0))]) hx hb hq i_B ft_B ft_B_ok n_B hown hw (by omega) h0_at_12 rfl 0 (by decide) (hq _ fl_B_16) (fun _ h9 => h9) rfl hin rfl (by decide +kernel) rfl rfl (Nat.le_of_ble_eq_true rfl) rfl d_B_init_15 (fun F15 H locs eF15 hw => ?_)
    have m15_82 : F15 (82) = .inr (4, [.ref (ad (83)), .null, .null, .null, .null, .null, .int (iI (0))]) := by rw [eF15]; exact va_up_self ..
    have w12_0_at_15 : F15 (83) = .inr (0, [.ref (ad (83 + 1)), .int (iI (0))]) := (show F15 (83) = F12 (83) from by rw [eF15]; exact va_up_ne _ _ (by omega)).trans w12_0
    have w12_1_at_15 : F15 (83 + 1) = .inl (ty 0, 136, .inl (fun _ => iI 0)) := (show F15 (83 + 1) = F12 (83 + 1) from by rw [eF15]; exact va_up_ne _ _ (by omega)).trans w12_1
    refine lv_aload_n hx hb d_B_init_18 rfl (lv_at hl 0 rfl) ?_
    refine pw_new (ci := 0) (fs := [.null, .int (iI (0))]) (C := R_W) (T := T_W) (N := 2) hx hb hq i_W ft_W ft_W_ok hown (hq _ cl_B_9) (hq _ ia_W) (hq _ in_W) hw rfl (fun j hj => by rcases (show j = 0 ∨ j = 1 by omega) with rfl | rfl <;> rfl) (Nat.le_of_ble_eq_true rfl) (Nat.le_of_ble_eq_true rfl) d_B_init_19 (j := 85) (by omega) (fun ad M F19 H ead19 eM19 eF19 hw => ?_)
    have m19_85 : F19 (85) = .inr (0, [.null, .int (iI (0))]) := by rw [eF19]; exact va_up_self ..
    have hl : lv_has ls 1 [(0, .ref (ad (82)))] := by rw [ead19 (82) (by omega)]; exact hl
    rw [← ead19 (82) (by omega)]
    have w12_0_at_19 : F19 (83) = .inr (0, [.ref (ad (83 + 1)), .int (iI (0))]) := by rw [ead19 (83 + 1) (by omega)]; exact (show F19 (83) = F15 (83) from by rw [eF19]; exact va_up_ne _ _ (by omega)).trans w12_0_at_15
    have w12_1_at_19 : F19 (83 + 1) = .inl (ty 0, 136, .inl (fun _ => iI 0)) := by exact (show F19 (83 + 1) = F15 (83 + 1) from by rw [eF19]; exact va_up_ne _ _ (by omega)).trans w12_1_at_15
    have m15_82_at_19 : F19 (82) = .inr (4, [.ref (ad (83)), .null, .null, .null, .null, .null, .int (iI (0))]) := by rw [ead19 (83) (by omega)]; exact (show F19 (82) = F15 (82) from by rw [eF19]; exact va_up_ne _ _ (by omega)).trans m15_82
    refine lv_dup hx hb d_B_init_22 rfl ?_
    refine wz_sipush (n := 136) hx hb d_B_init_23 (by decide) ?_
    refine pw_calln hw (va_runI (As := [.int (iI (136))]) (rest := [.ref (ad (85)), .ref (ad (82))]) ⟨hx, hb, hml, hown, hq⟩ (c_W_init l D ty ad M F19 H.size (85) 136 (by omega) (by omega) m19_85) (cwI 1 hq (gT m_W_init) rfl rfl rfl (hq _ in_W) (hq _ ml_B_13) (hq _ im_W_init) rfl (by decide +kernel) ⟨Nat.le_of_ble_eq_true rfl, Nat.le_of_ble_eq_true rfl⟩) (pw_preS hw) rfl rfl hl.1 rfl (lv_room (Nat.le_of_ble_eq_true rfl)) d_B_init_26 ⟨Nat.le_of_ble_eq_true rfl, Nat.le_of_ble_eq_true rfl⟩) (fun ad M F26 H locs ead26 eM26 q26 hw => ?_)
    dsimp only at q26
    obtain ⟨w26_0, w26_1, hf26⟩ := q26
    have hl : lv_has ls 1 [(0, .ref (ad (82)))] := by rw [ead26 (82) (by omega)]; exact hl
    rw [← ead26 (85) (by omega)]
    rw [← ead26 (82) (by omega)]
    have w12_0_at_26 : F26 (83) = .inr (0, [.ref (ad (83 + 1)), .int (iI (0))]) := by rw [ead26 (83 + 1) (by omega)]; exact (hf26 (83) (by omega)).trans w12_0_at_19
    have w12_1_at_26 : F26 (83 + 1) = .inl (ty 0, 136, .inl (fun _ => iI 0)) := by exact (hf26 (83 + 1) (by omega)).trans w12_1_at_19
    have m15_82_at_26 : F26 (82) = .inr (4, [.ref (ad (83)), .null, .null, .null, .null, .null, .int (iI (0))]) := by rw [ead26 (83) (by omega)]; exact (hf26 (82) (by omega)).trans m15_82_at_19
    refine pw_putF (ci := 4) (C := R_B) (T := T_B) (N := 7) (ty := (.object "FractionDesk$Whole")) (fs' := [.ref (ad (83)), .ref (ad (85)), .null, .null, .null, .null, .int (iI (0))]) hx hb hq i_B ft_B ft_B_ok n_B hown hw (by omega) m15_82_at_26 rfl 1 (by decide) (hq _ fl_B_20) (fun _ h9 => h9) rfl hin rfl (by decide +kernel) rfl rfl (Nat.le_of_ble_eq_true rfl) rfl d_B_init_29 (fun F29 H locs eF29 hw => ?_)
    have m29_82 : F29 (82) = .inr (4, [.ref (ad (83)), .ref (ad (85)), .null, .null, .null, .null, .int (iI (0))]) := by rw [eF29]; exact va_up_self ..
    have w12_0_at_29 : F29 (83) = .inr (0, [.ref (ad (83 + 1)), .int (iI (0))]) := (show F29 (83) = F26 (83) from by rw [eF29]; exact va_up_ne _ _ (by omega)).trans w12_0_at_26
    have w12_1_at_29 : F29 (83 + 1) = .inl (ty 0, 136, .inl (fun _ => iI 0)) := (show F29 (83 + 1) = F26 (83 + 1) from by rw [eF29]; exact va_up_ne _ _ (by omega)).trans w12_1_at_26
    have w26_0_at_29 : F29 (85) = .inr (0, [.ref (ad (85 + 1)), .int (iI (0))]) := (show F29 (85) = F26 (85) from by rw [eF29]; exact va_up_ne _ _ (by omega)).trans w26_0
    have w26_1_at_29 : F29 (85 + 1) = .inl (ty 0, 136, .inl (fun _ => iI 0)) := (show F29 (85 + 1) = F26 (85 + 1) from by rw [eF29]; exact va_up_ne _ _ (by omega)).trans w26_1
    refine lv_aload_n hx hb d_B_init_32 rfl (lv_at hl 0 rfl) ?_
    refine pw_new (ci := 0) (fs := [.null, .int (iI (0))]) (C := R_W) (T := T_W) (N := 2) hx hb hq i_W ft_W ft_W_ok hown (hq _ cl_B_9) (hq _ ia_W) (hq _ in_W) hw rfl (fun j hj => by rcases (show j = 0 ∨ j = 1 by omega) with rfl | rfl <;> rfl) (Nat.le_of_ble_eq_true rfl) (Nat.le_of_ble_eq_true rfl) d_B_init_33 (j := 87) (by omega) (fun ad M F33 H ead33 eM33 eF33 hw => ?_)
    have m33_87 : F33 (87) = .inr (0, [.null, .int (iI (0))]) := by rw [eF33]; exact va_up_self ..
    have hl : lv_has ls 1 [(0, .ref (ad (82)))] := by rw [ead33 (82) (by omega)]; exact hl
    rw [← ead33 (82) (by omega)]
    have w12_0_at_33 : F33 (83) = .inr (0, [.ref (ad (83 + 1)), .int (iI (0))]) := by rw [ead33 (83 + 1) (by omega)]; exact (show F33 (83) = F29 (83) from by rw [eF33]; exact va_up_ne _ _ (by omega)).trans w12_0_at_29
    have w12_1_at_33 : F33 (83 + 1) = .inl (ty 0, 136, .inl (fun _ => iI 0)) := by exact (show F33 (83 + 1) = F29 (83 + 1) from by rw [eF33]; exact va_up_ne _ _ (by omega)).trans w12_1_at_29
    have w26_0_at_33 : F33 (85) = .inr (0, [.ref (ad (85 + 1)), .int (iI (0))]) := by rw [ead33 (85 + 1) (by omega)]; exact (show F33 (85) = F29 (85) from by rw [eF33]; exact va_up_ne _ _ (by omega)).trans w26_0_at_29
    have w26_1_at_33 : F33 (85 + 1) = .inl (ty 0, 136, .inl (fun _ => iI 0)) := by exact (show F33 (85 + 1) = F29 (85 + 1) from by rw [eF33]; exact va_up_ne _ _ (by omega)).trans w26_1_at_29
    have m29_82_at_33 : F33 (82) = .inr (4, [.ref (ad (83)), .ref (ad (85)), .null, .null, .null, .null, .int (iI (0))]) := by rw [ead33 (83) (by omega), ead33 (85) (by omega)]; exact (show F33 (82) = F29 (82) from by rw [eF33]; exact va_up_ne _ _ (by omega)).trans m29_82
    refine lv_dup hx hb d_B_init_36 rfl ?_
    refine wz_sipush (n := 136) hx hb d_B_init_37 (by decide) ?_
    refine pw_calln hw (va_runI (As := [.int (iI (136))]) (rest := [.ref (ad (87)), .ref (ad (82))]) ⟨hx, hb, hml, hown, hq⟩ (c_W_init l D ty ad M F33 H.size (87) 136 (by omega) (by omega) m33_87) (cwI 1 hq (gT m_W_init) rfl rfl rfl (hq _ in_W) (hq _ ml_B_13) (hq _ im_W_init) rfl (by decide +kernel) ⟨Nat.le_of_ble_eq_true rfl, Nat.le_of_ble_eq_true rfl⟩) (pw_preS hw) rfl rfl hl.1 rfl (lv_room (Nat.le_of_ble_eq_true rfl)) d_B_init_40 ⟨Nat.le_of_ble_eq_true rfl, Nat.le_of_ble_eq_true rfl⟩) (fun ad M F40 H locs ead40 eM40 q40 hw => ?_)
    dsimp only at q40
    obtain ⟨w40_0, w40_1, hf40⟩ := q40
    have hl : lv_has ls 1 [(0, .ref (ad (82)))] := by rw [ead40 (82) (by omega)]; exact hl
    rw [← ead40 (87) (by omega)]
    rw [← ead40 (82) (by omega)]
    have w12_0_at_40 : F40 (83) = .inr (0, [.ref (ad (83 + 1)), .int (iI (0))]) := by rw [ead40 (83 + 1) (by omega)]; exact (hf40 (83) (by omega)).trans w12_0_at_33
    have w12_1_at_40 : F40 (83 + 1) = .inl (ty 0, 136, .inl (fun _ => iI 0)) := by exact (hf40 (83 + 1) (by omega)).trans w12_1_at_33
    have w26_0_at_40 : F40 (85) = .inr (0, [.ref (ad (85 + 1)), .int (iI (0))]) := by rw [ead40 (85 + 1) (by omega)]; exact (hf40 (85) (by omega)).trans w26_0_at_33
    have w26_1_at_40 : F40 (85 + 1) = .inl (ty 0, 136, .inl (fun _ => iI 0)) := by exact (hf40 (85 + 1) (by omega)).trans w26_1_at_33
    have m29_82_at_40 : F40 (82) = .inr (4, [.ref (ad (83)), .ref (ad (85)), .null, .null, .null, .null, .int (iI (0))]) := by rw [ead40 (83) (by omega), ead40 (85) (by omega)]; exact (hf40 (82) (by omega)).trans m29_82_at_33
    refine pw_putF (ci := 4) (C := R_B) (T := T_B) (N := 7) (ty := (.object "FractionDesk$Whole")) (fs' := [.ref (ad (83)), .ref (ad (85)), .ref (ad (87)), .null, .null, .null, .int (iI (0))]) hx hb hq i_B ft_B ft_B_ok n_B hown hw (by omega) m29_82_at_40 rfl 2 (by decide) (hq _ fl_B_23) (fun _ h9 => h9) rfl hin rfl (by decide +kernel) rfl rfl (Nat.le_of_ble_eq_true rfl) rfl d_B_init_43 (fun F43 H locs eF43 hw => ?_)
    have m43_82 : F43 (82) = .inr (4, [.ref (ad (83)), .ref (ad (85)), .ref (ad (87)), .null, .null, .null, .int (iI (0))]) := by rw [eF43]; exact va_up_self ..
    have w12_0_at_43 : F43 (83) = .inr (0, [.ref (ad (83 + 1)), .int (iI (0))]) := (show F43 (83) = F40 (83) from by rw [eF43]; exact va_up_ne _ _ (by omega)).trans w12_0_at_40
    have w12_1_at_43 : F43 (83 + 1) = .inl (ty 0, 136, .inl (fun _ => iI 0)) := (show F43 (83 + 1) = F40 (83 + 1) from by rw [eF43]; exact va_up_ne _ _ (by omega)).trans w12_1_at_40
    have w26_0_at_43 : F43 (85) = .inr (0, [.ref (ad (85 + 1)), .int (iI (0))]) := (show F43 (85) = F40 (85) from by rw [eF43]; exact va_up_ne _ _ (by omega)).trans w26_0_at_40
    have w26_1_at_43 : F43 (85 + 1) = .inl (ty 0, 136, .inl (fun _ => iI 0)) := (show F43 (85 + 1) = F40 (85 + 1) from by rw [eF43]; exact va_up_ne _ _ (by omega)).trans w26_1_at_40
    have w40_0_at_43 : F43 (87) = .inr (0, [.ref (ad (87 + 1)), .int (iI (0))]) := (show F43 (87) = F40 (87) from by rw [eF43]; exact va_up_ne _ _ (by omega)).trans w40_0
    have w40_1_at_43 : F43 (87 + 1) = .inl (ty 0, 136, .inl (fun _ => iI 0)) := (show F43 (87 + 1) = F40 (87 + 1) from by rw [eF43]; exact va_up_ne _ _ (by omega)).trans w40_1
    refine lv_aload_n hx hb d_B_init_46 rfl (lv_at hl 0 rfl) ?_
    refine pw_new (ci := 0) (fs := [.null, .int (iI (0))]) (C := R_W) (T := T_W) (N := 2) hx hb hq i_W ft_W ft_W_ok hown (hq _ cl_B_9) (hq _ ia_W) (hq _ in_W) hw rfl (fun j hj => by rcases (show j = 0 ∨ j = 1 by omega) with rfl | rfl <;> rfl) (Nat.le_of_ble_eq_true rfl) (Nat.le_of_ble_eq_true rfl) d_B_init_47 (j := 89) (by omega) (fun ad M F47 H ead47 eM47 eF47 hw => ?_)
    have m47_89 : F47 (89) = .inr (0, [.null, .int (iI (0))]) := by rw [eF47]; exact va_up_self ..
    have hl : lv_has ls 1 [(0, .ref (ad (82)))] := by rw [ead47 (82) (by omega)]; exact hl
    rw [← ead47 (82) (by omega)]
    have w12_0_at_47 : F47 (83) = .inr (0, [.ref (ad (83 + 1)), .int (iI (0))]) := by rw [ead47 (83 + 1) (by omega)]; exact (show F47 (83) = F43 (83) from by rw [eF47]; exact va_up_ne _ _ (by omega)).trans w12_0_at_43
    have w12_1_at_47 : F47 (83 + 1) = .inl (ty 0, 136, .inl (fun _ => iI 0)) := by exact (show F47 (83 + 1) = F43 (83 + 1) from by rw [eF47]; exact va_up_ne _ _ (by omega)).trans w12_1_at_43
    have w26_0_at_47 : F47 (85) = .inr (0, [.ref (ad (85 + 1)), .int (iI (0))]) := by rw [ead47 (85 + 1) (by omega)]; exact (show F47 (85) = F43 (85) from by rw [eF47]; exact va_up_ne _ _ (by omega)).trans w26_0_at_43
    have w26_1_at_47 : F47 (85 + 1) = .inl (ty 0, 136, .inl (fun _ => iI 0)) := by exact (show F47 (85 + 1) = F43 (85 + 1) from by rw [eF47]; exact va_up_ne _ _ (by omega)).trans w26_1_at_43
    have w40_0_at_47 : F47 (87) = .inr (0, [.ref (ad (87 + 1)), .int (iI (0))]) := by rw [ead47 (87 + 1) (by omega)]; exact (show F47 (87) = F43 (87) from by rw [eF47]; exact va_up_ne _ _ (by omega)).trans w40_0_at_43
    have w40_1_at_47 : F47 (87 + 1) = .inl (ty 0, 136, .inl (fun _ => iI 0)) := by exact (show F47 (87 + 1) = F43 (87 + 1) from by rw [eF47]; exact va_up_ne _ _ (by omega)).trans w40_1_at_43
    have m43_82_at_47 : F47 (82) = .inr (4, [.ref (ad (83)), .ref (ad (85)), .ref (ad (87)), .null, .null, .null, .int (iI (0))]) := by rw [ead47 (83) (by omega), ead47 (85) (by omega), ead47 (87) (by omega)]; exact (show F47 (82) = F43 (82) from by rw [eF47]; exact va_up_ne _ _ (by omega)).trans m43_82
    refine lv_dup hx hb d_B_init_50 rfl ?_
    refine wz_sipush (n := 136) hx hb d_B_init_51 (by decide) ?_
    refine pw_calln hw (va_runI (As := [.int (iI (136))]) (rest := [.ref (ad (89)), .ref (ad (82))]) ⟨hx, hb, hml, hown, hq⟩ (c_W_init l D ty ad M F47 H.size (89) 136 (by omega) (by omega) m47_89) (cwI 1 hq (gT m_W_init) rfl rfl rfl (hq _ in_W) (hq _ ml_B_13) (hq _ im_W_init) rfl (by decide +kernel) ⟨Nat.le_of_ble_eq_true rfl, Nat.le_of_ble_eq_true rfl⟩) (pw_preS hw) rfl rfl hl.1 rfl (lv_room (Nat.le_of_ble_eq_true rfl)) d_B_init_54 ⟨Nat.le_of_ble_eq_true rfl, Nat.le_of_ble_eq_true rfl⟩) (fun ad M F54 H locs ead54 eM54 q54 hw => ?_)
    dsimp only at q54
    obtain ⟨w54_0, w54_1, hf54⟩ := q54
    have hl : lv_has ls 1 [(0, .ref (ad (82)))] := by rw [ead54 (82) (by omega)]; exact hl
    rw [← ead54 (89) (by omega)]
    rw [← ead54 (82) (by omega)]
    have w12_0_at_54 : F54 (83) = .inr (0, [.ref (ad (83 + 1)), .int (iI (0))]) := by rw [ead54 (83 + 1) (by omega)]; exact (hf54 (83) (by omega)).trans w12_0_at_47
    have w12_1_at_54 : F54 (83 + 1) = .inl (ty 0, 136, .inl (fun _ => iI 0)) := by exact (hf54 (83 + 1) (by omega)).trans w12_1_at_47
    have w26_0_at_54 : F54 (85) = .inr (0, [.ref (ad (85 + 1)), .int (iI (0))]) := by rw [ead54 (85 + 1) (by omega)]; exact (hf54 (85) (by omega)).trans w26_0_at_47
    have w26_1_at_54 : F54 (85 + 1) = .inl (ty 0, 136, .inl (fun _ => iI 0)) := by exact (hf54 (85 + 1) (by omega)).trans w26_1_at_47
    have w40_0_at_54 : F54 (87) = .inr (0, [.ref (ad (87 + 1)), .int (iI (0))]) := by rw [ead54 (87 + 1) (by omega)]; exact (hf54 (87) (by omega)).trans w40_0_at_47
    have w40_1_at_54 : F54 (87 + 1) = .inl (ty 0, 136, .inl (fun _ => iI 0)) := by exact (hf54 (87 + 1) (by omega)).trans w40_1_at_47
    have m43_82_at_54 : F54 (82) = .inr (4, [.ref (ad (83)), .ref (ad (85)), .ref (ad (87)), .null, .null, .null, .int (iI (0))]) := by rw [ead54 (83) (by omega), ead54 (85) (by omega), ead54 (87) (by omega)]; exact (hf54 (82) (by omega)).trans m43_82_at_47
    refine pw_putF (ci := 4) (C := R_B) (T := T_B) (N := 7) (ty := (.object "FractionDesk$Whole")) (fs' := [.ref (ad (83)), .ref (ad (85)), .ref (ad (87)), .ref (ad (89)), .null, .null, .int (iI (0))]) hx hb hq i_B ft_B ft_B_ok n_B hown hw (by omega) m43_82_at_54 rfl 3 (by decide) (hq _ fl_B_26) (fun _ h9 => h9) rfl hin rfl (by decide +kernel) rfl rfl (Nat.le_of_ble_eq_true rfl) rfl d_B_init_57 (fun F57 H locs eF57 hw => ?_)
    have m57_82 : F57 (82) = .inr (4, [.ref (ad (83)), .ref (ad (85)), .ref (ad (87)), .ref (ad (89)), .null, .null, .int (iI (0))]) := by rw [eF57]; exact va_up_self ..
    have w12_0_at_57 : F57 (83) = .inr (0, [.ref (ad (83 + 1)), .int (iI (0))]) := (show F57 (83) = F54 (83) from by rw [eF57]; exact va_up_ne _ _ (by omega)).trans w12_0_at_54
    have w12_1_at_57 : F57 (83 + 1) = .inl (ty 0, 136, .inl (fun _ => iI 0)) := (show F57 (83 + 1) = F54 (83 + 1) from by rw [eF57]; exact va_up_ne _ _ (by omega)).trans w12_1_at_54
    have w26_0_at_57 : F57 (85) = .inr (0, [.ref (ad (85 + 1)), .int (iI (0))]) := (show F57 (85) = F54 (85) from by rw [eF57]; exact va_up_ne _ _ (by omega)).trans w26_0_at_54
    have w26_1_at_57 : F57 (85 + 1) = .inl (ty 0, 136, .inl (fun _ => iI 0)) := (show F57 (85 + 1) = F54 (85 + 1) from by rw [eF57]; exact va_up_ne _ _ (by omega)).trans w26_1_at_54
    have w40_0_at_57 : F57 (87) = .inr (0, [.ref (ad (87 + 1)), .int (iI (0))]) := (show F57 (87) = F54 (87) from by rw [eF57]; exact va_up_ne _ _ (by omega)).trans w40_0_at_54
    have w40_1_at_57 : F57 (87 + 1) = .inl (ty 0, 136, .inl (fun _ => iI 0)) := (show F57 (87 + 1) = F54 (87 + 1) from by rw [eF57]; exact va_up_ne _ _ (by omega)).trans w40_1_at_54
    have w54_0_at_57 : F57 (89) = .inr (0, [.ref (ad (89 + 1)), .int (iI (0))]) := (show F57 (89) = F54 (89) from by rw [eF57]; exact va_up_ne _ _ (by omega)).trans w54_0
    have w54_1_at_57 : F57 (89 + 1) = .inl (ty 0, 136, .inl (fun _ => iI 0)) := (show F57 (89 + 1) = F54 (89 + 1) from by rw [eF57]; exact va_up_ne _ _ (by omega)).trans w54_1
    refine lv_aload_n hx hb d_B_init_60 rfl (lv_at hl 0 rfl) ?_
    refine pw_new (ci := 0) (fs := [.null, .int (iI (0))]) (C := R_W) (T := T_W) (N := 2) hx hb hq i_W ft_W ft_W_ok hown (hq _ cl_B_9) (hq _ ia_W) (hq _ in_W) hw rfl (fun j hj => by rcases (show j = 0 ∨ j = 1 by omega) with rfl | rfl <;> rfl) (Nat.le_of_ble_eq_true rfl) (Nat.le_of_ble_eq_true rfl) d_B_init_61 (j := 91) (by omega) (fun ad M F61 H ead61 eM61 eF61 hw => ?_)
    have m61_91 : F61 (91) = .inr (0, [.null, .int (iI (0))]) := by rw [eF61]; exact va_up_self ..
    have hl : lv_has ls 1 [(0, .ref (ad (82)))] := by rw [ead61 (82) (by omega)]; exact hl
    rw [← ead61 (82) (by omega)]
    have w12_0_at_61 : F61 (83) = .inr (0, [.ref (ad (83 + 1)), .int (iI (0))]) := by rw [ead61 (83 + 1) (by omega)]; exact (show F61 (83) = F57 (83) from by rw [eF61]; exact va_up_ne _ _ (by omega)).trans w12_0_at_57
    have w12_1_at_61 : F61 (83 + 1) = .inl (ty 0, 136, .inl (fun _ => iI 0)) := by exact (show F61 (83 + 1) = F57 (83 + 1) from by rw [eF61]; exact va_up_ne _ _ (by omega)).trans w12_1_at_57
    have w26_0_at_61 : F61 (85) = .inr (0, [.ref (ad (85 + 1)), .int (iI (0))]) := by rw [ead61 (85 + 1) (by omega)]; exact (show F61 (85) = F57 (85) from by rw [eF61]; exact va_up_ne _ _ (by omega)).trans w26_0_at_57
    have w26_1_at_61 : F61 (85 + 1) = .inl (ty 0, 136, .inl (fun _ => iI 0)) := by exact (show F61 (85 + 1) = F57 (85 + 1) from by rw [eF61]; exact va_up_ne _ _ (by omega)).trans w26_1_at_57
    have w40_0_at_61 : F61 (87) = .inr (0, [.ref (ad (87 + 1)), .int (iI (0))]) := by rw [ead61 (87 + 1) (by omega)]; exact (show F61 (87) = F57 (87) from by rw [eF61]; exact va_up_ne _ _ (by omega)).trans w40_0_at_57
    have w40_1_at_61 : F61 (87 + 1) = .inl (ty 0, 136, .inl (fun _ => iI 0)) := by exact (show F61 (87 + 1) = F57 (87 + 1) from by rw [eF61]; exact va_up_ne _ _ (by omega)).trans w40_1_at_57
    have w54_0_at_61 : F61 (89) = .inr (0, [.ref (ad (89 + 1)), .int (iI (0))]) := by rw [ead61 (89 + 1) (by omega)]; exact (show F61 (89) = F57 (89) from by rw [eF61]; exact va_up_ne _ _ (by omega)).trans w54_0_at_57
    have w54_1_at_61 : F61 (89 + 1) = .inl (ty 0, 136, .inl (fun _ => iI 0)) := by exact (show F61 (89 + 1) = F57 (89 + 1) from by rw [eF61]; exact va_up_ne _ _ (by omega)).trans w54_1_at_57
    have m57_82_at_61 : F61 (82) = .inr (4, [.ref (ad (83)), .ref (ad (85)), .ref (ad (87)), .ref (ad (89)), .null, .null, .int (iI (0))]) := by rw [ead61 (83) (by omega), ead61 (85) (by omega), ead61 (87) (by omega), ead61 (89) (by omega)]; exact (show F61 (82) = F57 (82) from by rw [eF61]; exact va_up_ne _ _ (by omega)).trans m57_82
    refine lv_dup hx hb d_B_init_64 rfl ?_
    refine wz_sipush (n := 136) hx hb d_B_init_65 (by decide) ?_
    refine pw_calln hw (va_runI (As := [.int (iI (136))]) (rest := [.ref (ad (91)), .ref (ad (82))]) ⟨hx, hb, hml, hown, hq⟩ (c_W_init l D ty ad M F61 H.size (91) 136 (by omega) (by omega) m61_91) (cwI 1 hq (gT m_W_init) rfl rfl rfl (hq _ in_W) (hq _ ml_B_13) (hq _ im_W_init) rfl (by decide +kernel) ⟨Nat.le_of_ble_eq_true rfl, Nat.le_of_ble_eq_true rfl⟩) (pw_preS hw) rfl rfl hl.1 rfl (lv_room (Nat.le_of_ble_eq_true rfl)) d_B_init_68 ⟨Nat.le_of_ble_eq_true rfl, Nat.le_of_ble_eq_true rfl⟩) (fun ad M F68 H locs ead68 eM68 q68 hw => ?_)
    dsimp only at q68
    obtain ⟨w68_0, w68_1, hf68⟩ := q68
    have hl : lv_has ls 1 [(0, .ref (ad (82)))] := by rw [ead68 (82) (by omega)]; exact hl
    rw [← ead68 (91) (by omega)]
    rw [← ead68 (82) (by omega)]
    have w12_0_at_68 : F68 (83) = .inr (0, [.ref (ad (83 + 1)), .int (iI (0))]) := by rw [ead68 (83 + 1) (by omega)]; exact (hf68 (83) (by omega)).trans w12_0_at_61
    have w12_1_at_68 : F68 (83 + 1) = .inl (ty 0, 136, .inl (fun _ => iI 0)) := by exact (hf68 (83 + 1) (by omega)).trans w12_1_at_61
    have w26_0_at_68 : F68 (85) = .inr (0, [.ref (ad (85 + 1)), .int (iI (0))]) := by rw [ead68 (85 + 1) (by omega)]; exact (hf68 (85) (by omega)).trans w26_0_at_61
    have w26_1_at_68 : F68 (85 + 1) = .inl (ty 0, 136, .inl (fun _ => iI 0)) := by exact (hf68 (85 + 1) (by omega)).trans w26_1_at_61
    have w40_0_at_68 : F68 (87) = .inr (0, [.ref (ad (87 + 1)), .int (iI (0))]) := by rw [ead68 (87 + 1) (by omega)]; exact (hf68 (87) (by omega)).trans w40_0_at_61
    have w40_1_at_68 : F68 (87 + 1) = .inl (ty 0, 136, .inl (fun _ => iI 0)) := by exact (hf68 (87 + 1) (by omega)).trans w40_1_at_61
    have w54_0_at_68 : F68 (89) = .inr (0, [.ref (ad (89 + 1)), .int (iI (0))]) := by rw [ead68 (89 + 1) (by omega)]; exact (hf68 (89) (by omega)).trans w54_0_at_61
    have w54_1_at_68 : F68 (89 + 1) = .inl (ty 0, 136, .inl (fun _ => iI 0)) := by exact (hf68 (89 + 1) (by omega)).trans w54_1_at_61
    have m57_82_at_68 : F68 (82) = .inr (4, [.ref (ad (83)), .ref (ad (85)), .ref (ad (87)), .ref (ad (89)), .null, .null, .int (iI (0))]) := by rw [ead68 (83) (by omega), ead68 (85) (by omega), ead68 (87) (by omega), ead68 (89) (by omega)]; exact (hf68 (82) (by omega)).trans m57_82_at_61
    refine pw_putF (ci := 4) (C := R_B) (T := T_B) (N := 7) (ty := (.object "FractionDesk$Whole")) (fs' := [.ref (ad (83)), .ref (ad (85)), .ref (ad (87)), .ref (ad (89)), .ref (ad (91)), .null, .int (iI (0))]) hx hb hq i_B ft_B ft_B_ok n_B hown hw (by omega) m57_82_at_68 rfl 4 (by decide) (hq _ fl_B_29) (fun _ h9 => h9) rfl hin rfl (by decide +kernel) rfl rfl (Nat.le_of_ble_eq_true rfl) rfl d_B_init_71 (fun F71 H locs eF71 hw => ?_)
    have m71_82 : F71 (82) = .inr (4, [.ref (ad (83)), .ref (ad (85)), .ref (ad (87)), .ref (ad (89)), .ref (ad (91)), .null, .int (iI (0))]) := by rw [eF71]; exact va_up_self ..
    have w12_0_at_71 : F71 (83) = .inr (0, [.ref (ad (83 + 1)), .int (iI (0))]) := (show F71 (83) = F68 (83) from by rw [eF71]; exact va_up_ne _ _ (by omega)).trans w12_0_at_68
    have w12_1_at_71 : F71 (83 + 1) = .inl (ty 0, 136, .inl (fun _ => iI 0)) := (show F71 (83 + 1) = F68 (83 + 1) from by rw [eF71]; exact va_up_ne _ _ (by omega)).trans w12_1_at_68
    have w26_0_at_71 : F71 (85) = .inr (0, [.ref (ad (85 + 1)), .int (iI (0))]) := (show F71 (85) = F68 (85) from by rw [eF71]; exact va_up_ne _ _ (by omega)).trans w26_0_at_68
    have w26_1_at_71 : F71 (85 + 1) = .inl (ty 0, 136, .inl (fun _ => iI 0)) := (show F71 (85 + 1) = F68 (85 + 1) from by rw [eF71]; exact va_up_ne _ _ (by omega)).trans w26_1_at_68
    have w40_0_at_71 : F71 (87) = .inr (0, [.ref (ad (87 + 1)), .int (iI (0))]) := (show F71 (87) = F68 (87) from by rw [eF71]; exact va_up_ne _ _ (by omega)).trans w40_0_at_68
    have w40_1_at_71 : F71 (87 + 1) = .inl (ty 0, 136, .inl (fun _ => iI 0)) := (show F71 (87 + 1) = F68 (87 + 1) from by rw [eF71]; exact va_up_ne _ _ (by omega)).trans w40_1_at_68
    have w54_0_at_71 : F71 (89) = .inr (0, [.ref (ad (89 + 1)), .int (iI (0))]) := (show F71 (89) = F68 (89) from by rw [eF71]; exact va_up_ne _ _ (by omega)).trans w54_0_at_68
    have w54_1_at_71 : F71 (89 + 1) = .inl (ty 0, 136, .inl (fun _ => iI 0)) := (show F71 (89 + 1) = F68 (89 + 1) from by rw [eF71]; exact va_up_ne _ _ (by omega)).trans w54_1_at_68
    have w68_0_at_71 : F71 (91) = .inr (0, [.ref (ad (91 + 1)), .int (iI (0))]) := (show F71 (91) = F68 (91) from by rw [eF71]; exact va_up_ne _ _ (by omega)).trans w68_0
    have w68_1_at_71 : F71 (91 + 1) = .inl (ty 0, 136, .inl (fun _ => iI 0)) := (show F71 (91 + 1) = F68 (91 + 1) from by rw [eF71]; exact va_up_ne _ _ (by omega)).trans w68_1
    refine lv_aload_n hx hb d_B_init_74 rfl (lv_at hl 0 rfl) ?_
    refine pw_new (ci := 3) (fs := [.null, .long (iL (0)), .long (iL (0)), .long (iL (0)), .long (iL (0))]) (C := R_D) (T := T_D) (N := 5) hx hb hq i_D ft_D ft_D_ok hown (hq _ cl_B_32) (hq _ ia_D) (hq _ in_D) hw rfl (fun j hj => by rcases (show j = 0 ∨ j = 1 ∨ j = 2 ∨ j = 3 ∨ j = 4 by omega) with rfl | rfl | rfl | rfl | rfl <;> rfl) (Nat.le_of_ble_eq_true rfl) (Nat.le_of_ble_eq_true rfl) d_B_init_75 (j := 93) (by omega) (fun ad M F75 H ead75 eM75 eF75 hw => ?_)
    have m75_93 : F75 (93) = .inr (3, [.null, .long (iL (0)), .long (iL (0)), .long (iL (0)), .long (iL (0))]) := by rw [eF75]; exact va_up_self ..
    have hl : lv_has ls 1 [(0, .ref (ad (82)))] := by rw [ead75 (82) (by omega)]; exact hl
    rw [← ead75 (82) (by omega)]
    have w12_0_at_75 : F75 (83) = .inr (0, [.ref (ad (83 + 1)), .int (iI (0))]) := by rw [ead75 (83 + 1) (by omega)]; exact (show F75 (83) = F71 (83) from by rw [eF75]; exact va_up_ne _ _ (by omega)).trans w12_0_at_71
    have w12_1_at_75 : F75 (83 + 1) = .inl (ty 0, 136, .inl (fun _ => iI 0)) := by exact (show F75 (83 + 1) = F71 (83 + 1) from by rw [eF75]; exact va_up_ne _ _ (by omega)).trans w12_1_at_71
    have w26_0_at_75 : F75 (85) = .inr (0, [.ref (ad (85 + 1)), .int (iI (0))]) := by rw [ead75 (85 + 1) (by omega)]; exact (show F75 (85) = F71 (85) from by rw [eF75]; exact va_up_ne _ _ (by omega)).trans w26_0_at_71
    have w26_1_at_75 : F75 (85 + 1) = .inl (ty 0, 136, .inl (fun _ => iI 0)) := by exact (show F75 (85 + 1) = F71 (85 + 1) from by rw [eF75]; exact va_up_ne _ _ (by omega)).trans w26_1_at_71
    have w40_0_at_75 : F75 (87) = .inr (0, [.ref (ad (87 + 1)), .int (iI (0))]) := by rw [ead75 (87 + 1) (by omega)]; exact (show F75 (87) = F71 (87) from by rw [eF75]; exact va_up_ne _ _ (by omega)).trans w40_0_at_71
    have w40_1_at_75 : F75 (87 + 1) = .inl (ty 0, 136, .inl (fun _ => iI 0)) := by exact (show F75 (87 + 1) = F71 (87 + 1) from by rw [eF75]; exact va_up_ne _ _ (by omega)).trans w40_1_at_71
    have w54_0_at_75 : F75 (89) = .inr (0, [.ref (ad (89 + 1)), .int (iI (0))]) := by rw [ead75 (89 + 1) (by omega)]; exact (show F75 (89) = F71 (89) from by rw [eF75]; exact va_up_ne _ _ (by omega)).trans w54_0_at_71
    have w54_1_at_75 : F75 (89 + 1) = .inl (ty 0, 136, .inl (fun _ => iI 0)) := by exact (show F75 (89 + 1) = F71 (89 + 1) from by rw [eF75]; exact va_up_ne _ _ (by omega)).trans w54_1_at_71
    have w68_0_at_75 : F75 (91) = .inr (0, [.ref (ad (91 + 1)), .int (iI (0))]) := by rw [ead75 (91 + 1) (by omega)]; exact (show F75 (91) = F71 (91) from by rw [eF75]; exact va_up_ne _ _ (by omega)).trans w68_0_at_71
    have w68_1_at_75 : F75 (91 + 1) = .inl (ty 0, 136, .inl (fun _ => iI 0)) := by exact (show F75 (91 + 1) = F71 (91 + 1) from by rw [eF75]; exact va_up_ne _ _ (by omega)).trans w68_1_at_71
    have m71_82_at_75 : F75 (82) = .inr (4, [.ref (ad (83)), .ref (ad (85)), .ref (ad (87)), .ref (ad (89)), .ref (ad (91)), .null, .int (iI (0))]) := by rw [ead75 (83) (by omega), ead75 (85) (by omega), ead75 (87) (by omega), ead75 (89) (by omega), ead75 (91) (by omega)]; exact (show F75 (82) = F71 (82) from by rw [eF75]; exact va_up_ne _ _ (by omega)).trans m71_82
    refine lv_dup hx hb d_B_init_78 rfl ?_
    refine pw_calln hw (va_runI (As := []) (rest := [.ref (ad (93)), .ref (ad (82))]) ⟨hx, hb, hml, hown, hq⟩ (c_D_init l D ty ad M F75 H.size 93 (by omega) m75_93) (cwI 0 hq (gT m_D_init) rfl rfl rfl (hq _ in_D) (hq _ ml_B_34) (hq _ im_D_init) rfl (by decide +kernel) ⟨Nat.le_of_ble_eq_true rfl, Nat.le_of_ble_eq_true rfl⟩) (pw_preS hw) rfl rfl hl.1 rfl (lv_room (Nat.le_of_ble_eq_true rfl)) d_B_init_79 ⟨Nat.le_of_ble_eq_true rfl, Nat.le_of_ble_eq_true rfl⟩) (fun ad M F79 H locs ead79 eM79 q79 hw => ?_)
    dsimp only at q79
    obtain ⟨d79_0, d79_1, hf79⟩ := q79
    have hl : lv_has ls 1 [(0, .ref (ad (82)))] := by rw [ead79 (82) (by omega)]; exact hl
    rw [← ead79 (93) (by omega)]
    rw [← ead79 (82) (by omega)]
    have w12_0_at_79 : F79 (83) = .inr (0, [.ref (ad (83 + 1)), .int (iI (0))]) := by rw [ead79 (83 + 1) (by omega)]; exact (hf79 (83) (by omega)).trans w12_0_at_75
    have w12_1_at_79 : F79 (83 + 1) = .inl (ty 0, 136, .inl (fun _ => iI 0)) := by exact (hf79 (83 + 1) (by omega)).trans w12_1_at_75
    have w26_0_at_79 : F79 (85) = .inr (0, [.ref (ad (85 + 1)), .int (iI (0))]) := by rw [ead79 (85 + 1) (by omega)]; exact (hf79 (85) (by omega)).trans w26_0_at_75
    have w26_1_at_79 : F79 (85 + 1) = .inl (ty 0, 136, .inl (fun _ => iI 0)) := by exact (hf79 (85 + 1) (by omega)).trans w26_1_at_75
    have w40_0_at_79 : F79 (87) = .inr (0, [.ref (ad (87 + 1)), .int (iI (0))]) := by rw [ead79 (87 + 1) (by omega)]; exact (hf79 (87) (by omega)).trans w40_0_at_75
    have w40_1_at_79 : F79 (87 + 1) = .inl (ty 0, 136, .inl (fun _ => iI 0)) := by exact (hf79 (87 + 1) (by omega)).trans w40_1_at_75
    have w54_0_at_79 : F79 (89) = .inr (0, [.ref (ad (89 + 1)), .int (iI (0))]) := by rw [ead79 (89 + 1) (by omega)]; exact (hf79 (89) (by omega)).trans w54_0_at_75
    have w54_1_at_79 : F79 (89 + 1) = .inl (ty 0, 136, .inl (fun _ => iI 0)) := by exact (hf79 (89 + 1) (by omega)).trans w54_1_at_75
    have w68_0_at_79 : F79 (91) = .inr (0, [.ref (ad (91 + 1)), .int (iI (0))]) := by rw [ead79 (91 + 1) (by omega)]; exact (hf79 (91) (by omega)).trans w68_0_at_75
    have w68_1_at_79 : F79 (91 + 1) = .inl (ty 0, 136, .inl (fun _ => iI 0)) := by exact (hf79 (91 + 1) (by omega)).trans w68_1_at_75
    have m71_82_at_79 : F79 (82) = .inr (4, [.ref (ad (83)), .ref (ad (85)), .ref (ad (87)), .ref (ad (89)), .ref (ad (91)), .null, .int (iI (0))]) := by rw [ead79 (83) (by omega), ead79 (85) (by omega), ead79 (87) (by omega), ead79 (89) (by omega), ead79 (91) (by omega)]; exact (hf79 (82) (by omega)).trans m71_82_at_75
    refine pw_putF (ci := 4) (C := R_B) (T := T_B) (N := 7) (ty := (.object "FractionDesk$Divisors")) (fs' := [.ref (ad (83)), .ref (ad (85)), .ref (ad (87)), .ref (ad (89)), .ref (ad (91)), .ref (ad (93)), .int (iI (0))]) hx hb hq i_B ft_B ft_B_ok n_B hown hw (by omega) m71_82_at_79 rfl 5 (by decide) (hq _ fl_B_35) (fun _ h9 => h9) rfl hin rfl (by decide +kernel) rfl rfl (Nat.le_of_ble_eq_true rfl) rfl d_B_init_82 (fun F82 H locs eF82 hw => ?_)
    have m82_82 : F82 (82) = .inr (4, [.ref (ad (83)), .ref (ad (85)), .ref (ad (87)), .ref (ad (89)), .ref (ad (91)), .ref (ad (93)), .int (iI (0))]) := by rw [eF82]; exact va_up_self ..
    have w12_0_at_82 : F82 (83) = .inr (0, [.ref (ad (83 + 1)), .int (iI (0))]) := (show F82 (83) = F79 (83) from by rw [eF82]; exact va_up_ne _ _ (by omega)).trans w12_0_at_79
    have w12_1_at_82 : F82 (83 + 1) = .inl (ty 0, 136, .inl (fun _ => iI 0)) := (show F82 (83 + 1) = F79 (83 + 1) from by rw [eF82]; exact va_up_ne _ _ (by omega)).trans w12_1_at_79
    have w26_0_at_82 : F82 (85) = .inr (0, [.ref (ad (85 + 1)), .int (iI (0))]) := (show F82 (85) = F79 (85) from by rw [eF82]; exact va_up_ne _ _ (by omega)).trans w26_0_at_79
    have w26_1_at_82 : F82 (85 + 1) = .inl (ty 0, 136, .inl (fun _ => iI 0)) := (show F82 (85 + 1) = F79 (85 + 1) from by rw [eF82]; exact va_up_ne _ _ (by omega)).trans w26_1_at_79
    have w40_0_at_82 : F82 (87) = .inr (0, [.ref (ad (87 + 1)), .int (iI (0))]) := (show F82 (87) = F79 (87) from by rw [eF82]; exact va_up_ne _ _ (by omega)).trans w40_0_at_79
    have w40_1_at_82 : F82 (87 + 1) = .inl (ty 0, 136, .inl (fun _ => iI 0)) := (show F82 (87 + 1) = F79 (87 + 1) from by rw [eF82]; exact va_up_ne _ _ (by omega)).trans w40_1_at_79
    have w54_0_at_82 : F82 (89) = .inr (0, [.ref (ad (89 + 1)), .int (iI (0))]) := (show F82 (89) = F79 (89) from by rw [eF82]; exact va_up_ne _ _ (by omega)).trans w54_0_at_79
    have w54_1_at_82 : F82 (89 + 1) = .inl (ty 0, 136, .inl (fun _ => iI 0)) := (show F82 (89 + 1) = F79 (89 + 1) from by rw [eF82]; exact va_up_ne _ _ (by omega)).trans w54_1_at_79
    have w68_0_at_82 : F82 (91) = .inr (0, [.ref (ad (91 + 1)), .int (iI (0))]) := (show F82 (91) = F79 (91) from by rw [eF82]; exact va_up_ne _ _ (by omega)).trans w68_0_at_79
    have w68_1_at_82 : F82 (91 + 1) = .inl (ty 0, 136, .inl (fun _ => iI 0)) := (show F82 (91 + 1) = F79 (91 + 1) from by rw [eF82]; exact va_up_ne _ _ (by omega)).trans w68_1_at_79
    have d79_0_at_82 : F82 (93) = .inr (3, [.ref (ad (93 + 1)), .long (iL (0)), .long (iL (0)), .long (iL (0)), .long (iL (0))]) := (show F82 (93) = F79 (93) from by rw [eF82]; exact va_up_ne _ _ (by omega)).trans d79_0
    have d79_1_at_82 : Wa ty ad F82 (93 + 1) 136 := Wa.mv d79_1 (show F82 (93 + 1) = F79 (93 + 1) from by rw [eF82]; exact va_up_ne _ _ (by omega)) (show F82 (93 + 1 + 1) = F79 (93 + 1 + 1) from by rw [eF82]; exact va_up_ne _ _ (by omega))
    refine lv_aload_n hx hb d_B_init_85 rfl (lv_at hl 0 rfl) ?_
    refine wz_iconst (n := 0) hx hb d_B_init_86 ?_
    refine pw_put (ci := 4) (C := R_B) (T := T_B) (N := 7) (ty := .boolean) (fs' := [.ref (ad (83)), .ref (ad (85)), .ref (ad (87)), .ref (ad (89)), .ref (ad (91)), .ref (ad (93)), .int (iI (0))]) hx hb hq i_B ft_B ft_B_ok n_B hown hw (by omega) m82_82 rfl 6 (by decide) (hq _ fl_B_39) (fun _ h9 => h9) rfl (by decide +kernel) rfl rfl (Nat.le_of_ble_eq_true rfl) rfl d_B_init_87 (fun F87 H locs eF87 hw => ?_)
    have m87_82 : F87 (82) = .inr (4, [.ref (ad (83)), .ref (ad (85)), .ref (ad (87)), .ref (ad (89)), .ref (ad (91)), .ref (ad (93)), .int (iI (0))]) := by rw [eF87]; exact va_up_self ..
    have w12_0_at_87 : F87 (83) = .inr (0, [.ref (ad (83 + 1)), .int (iI (0))]) := (show F87 (83) = F82 (83) from by rw [eF87]; exact va_up_ne _ _ (by omega)).trans w12_0_at_82
    have w12_1_at_87 : F87 (83 + 1) = .inl (ty 0, 136, .inl (fun _ => iI 0)) := (show F87 (83 + 1) = F82 (83 + 1) from by rw [eF87]; exact va_up_ne _ _ (by omega)).trans w12_1_at_82
    have w26_0_at_87 : F87 (85) = .inr (0, [.ref (ad (85 + 1)), .int (iI (0))]) := (show F87 (85) = F82 (85) from by rw [eF87]; exact va_up_ne _ _ (by omega)).trans w26_0_at_82
    have w26_1_at_87 : F87 (85 + 1) = .inl (ty 0, 136, .inl (fun _ => iI 0)) := (show F87 (85 + 1) = F82 (85 + 1) from by rw [eF87]; exact va_up_ne _ _ (by omega)).trans w26_1_at_82
    have w40_0_at_87 : F87 (87) = .inr (0, [.ref (ad (87 + 1)), .int (iI (0))]) := (show F87 (87) = F82 (87) from by rw [eF87]; exact va_up_ne _ _ (by omega)).trans w40_0_at_82
    have w40_1_at_87 : F87 (87 + 1) = .inl (ty 0, 136, .inl (fun _ => iI 0)) := (show F87 (87 + 1) = F82 (87 + 1) from by rw [eF87]; exact va_up_ne _ _ (by omega)).trans w40_1_at_82
    have w54_0_at_87 : F87 (89) = .inr (0, [.ref (ad (89 + 1)), .int (iI (0))]) := (show F87 (89) = F82 (89) from by rw [eF87]; exact va_up_ne _ _ (by omega)).trans w54_0_at_82
    have w54_1_at_87 : F87 (89 + 1) = .inl (ty 0, 136, .inl (fun _ => iI 0)) := (show F87 (89 + 1) = F82 (89 + 1) from by rw [eF87]; exact va_up_ne _ _ (by omega)).trans w54_1_at_82
    have w68_0_at_87 : F87 (91) = .inr (0, [.ref (ad (91 + 1)), .int (iI (0))]) := (show F87 (91) = F82 (91) from by rw [eF87]; exact va_up_ne _ _ (by omega)).trans w68_0_at_82
    have w68_1_at_87 : F87 (91 + 1) = .inl (ty 0, 136, .inl (fun _ => iI 0)) := (show F87 (91 + 1) = F82 (91 + 1) from by rw [eF87]; exact va_up_ne _ _ (by omega)).trans w68_1_at_82
    have d79_0_at_87 : F87 (93) = .inr (3, [.ref (ad (93 + 1)), .long (iL (0)), .long (iL (0)), .long (iL (0)), .long (iL (0))]) := (show F87 (93) = F82 (93) from by rw [eF87]; exact va_up_ne _ _ (by omega)).trans d79_0_at_82
    have d79_1_at_87 : Wa ty ad F87 (93 + 1) 136 := Wa.mv d79_1_at_82 (show F87 (93 + 1) = F82 (93 + 1) from by rw [eF87]; exact va_up_ne _ _ (by omega)) (show F87 (93 + 1 + 1) = F82 (93 + 1 + 1) from by rw [eF87]; exact va_up_ne _ _ (by omega))
    rw [← hQ]
    rw [← hA9] at hw
    exact pw_nret hx hb hr hlocks hw (by omega) (fun i9 h9 => (ead79 i9 (by omega)).trans ((ead75 i9 (by omega)).trans ((ead68 i9 (by omega)).trans ((ead61 i9 (by omega)).trans ((ead54 i9 (by omega)).trans ((ead47 i9 (by omega)).trans ((ead40 i9 (by omega)).trans ((ead33 i9 (by omega)).trans ((ead26 i9 (by omega)).trans ((ead19 i9 (by omega)).trans ((ead12 i9 (by omega)).trans (ead5 i9 (by omega))))))))))))) (⟨⟨⟨0, by decide, m87_82⟩, ⟨0, fun _ => iI 0, w12_0_at_87, w12_1_at_87⟩, ⟨0, fun _ => iI 0, w26_0_at_87, w26_1_at_87⟩, ⟨0, fun _ => iI 0, w40_0_at_87, w40_1_at_87⟩, ⟨0, fun _ => iI 0, w54_0_at_87, w54_1_at_87⟩, ⟨0, fun _ => iI 0, w68_0_at_87, w68_1_at_87⟩, ⟨_, _, _, _, d79_0_at_87⟩, d79_1_at_87⟩, fun y9 h9 => (show F87 (y9) = F82 (y9) from by rw [eF87]; exact va_up_ne _ _ (by omega)).trans ((show F82 (y9) = F79 (y9) from by rw [eF82]; exact va_up_ne _ _ (by omega)).trans ((hf79 (y9) (by omega)).trans ((show F75 (y9) = F71 (y9) from by rw [eF75]; exact va_up_ne _ _ (by omega)).trans ((show F71 (y9) = F68 (y9) from by rw [eF71]; exact va_up_ne _ _ (by omega)).trans ((hf68 (y9) (by omega)).trans ((show F61 (y9) = F57 (y9) from by rw [eF61]; exact va_up_ne _ _ (by omega)).trans ((show F57 (y9) = F54 (y9) from by rw [eF57]; exact va_up_ne _ _ (by omega)).trans ((hf54 (y9) (by omega)).trans ((show F47 (y9) = F43 (y9) from by rw [eF47]; exact va_up_ne _ _ (by omega)).trans ((show F43 (y9) = F40 (y9) from by rw [eF43]; exact va_up_ne _ _ (by omega)).trans ((hf40 (y9) (by omega)).trans ((show F33 (y9) = F29 (y9) from by rw [eF33]; exact va_up_ne _ _ (by omega)).trans ((show F29 (y9) = F26 (y9) from by rw [eF29]; exact va_up_ne _ _ (by omega)).trans ((hf26 (y9) (by omega)).trans ((show F19 (y9) = F15 (y9) from by rw [eF19]; exact va_up_ne _ _ (by omega)).trans ((show F15 (y9) = F12 (y9) from by rw [eF15]; exact va_up_ne _ _ (by omega)).trans ((hf12 (y9) (by omega)).trans (show F5 (y9) = F (y9) from by rw [eF5]; exact va_up_ne _ _ (by omega)))))))))))))))))))⟩) d_B_init_90
  rw [hH, hlo] at hgo
  exact hgo
set_option maxHeartbeats 400000 in
set_option maxRecDepth 100000 in
/-- new Text() -/
theorem c_T_init (l : Launch) (D : va_G) (ty : Nat → ClassId) (ad : Nat → Nat) (M : Nat) (F : Nat → va_E) (sz : Nat) (hM : M = 97) (h0 : F 96 = .inr (2, [.null, .int (iI 0)])) :
    CN l y_T_init w_T_init ({ frames := 1, cells := 1, slots := 1400, locals := 24 } : Room) [.ref (ad (96))] D ty ad M F sz 1 (1) (1400) (fun u => Tx ty u.1 u.2 0 (fun _ => 0) ∧ ∀ y, y < 96 → u.2 y = F y) := by
  refine Met.ofW (cc := b_T_init) (maxL := 1) (ret := none) (by decide) rfl ?_
  intro p e s m args below meth c s₁ B hml hv
  obtain ⟨rfl, hsz, hP, hK, hD0⟩ := hv
  have hx := B.exec
  have hb := B.bytes
  have hr := B.returns
  have hts := atoms_spec (ws := w_T_init) B.pre
  have hq : ∀ w ∈ wT, w.before _ s = true := fun w h => hts w (List.mem_cons_of_mem _ h)
  have hown : s.vm.findClass R_T = some m.cls := findClass_of_methodNamed B.named
  have hlocks := B.notSynchronized
  have hin : meth.name = "<init>" := (name_of_methodNamed B.named B.method).1
  subst hsz
  have hw := pw_start hP hK hD0
  have hl := lv_entry ([.ref (ad (96))]) (n := 1) (Nat.le_of_ble_eq_true rfl)
  rw [lg_entry_eq]
  generalize (lg_sl ([.ref (ad (96))]) ++ List.replicate (1 - (lg_sl ([.ref (ad (96))])).length) Slot.unset).toArray = ls at hl ⊢
  have hl : lv_has ls 1 [(0, .ref (ad (96)))] := hl
  change W p l e ({ frames := 1, cells := 1, slots := 1400, locals := 24 } : Room) s m ([.ref (ad (96))]).toArray below meth c s.heap [] 0 0 (MQ below (va_Qv (fun u : (Nat → Nat) × (Nat → va_E) => (∀ i, i < M → u.1 i = ad i) ∧ (fun u => Tx ty u.1 u.2 0 (fun _ => 0) ∧ ∀ y, y < 96 → u.2 y = F y) u) (fun u => pAt D classes (tysL ty) u.1 (M + 1) (pA ad M s.heap.size) u.2) (pA ad M s.heap.size)) ([.ref (ad (96))]).toArray s (1) (1400) (pA ad M s.heap.size)) (F0 m 0 ls [])
  generalize hAr : (([.ref (ad (96))] : List Value)).toArray = args9 at *
  generalize hQ : MQ below (va_Qv (fun u : (Nat → Nat) × (Nat → va_E) => (∀ i, i < M → u.1 i = ad i) ∧ (fun u => Tx ty u.1 u.2 0 (fun _ => 0) ∧ ∀ y, y < 96 → u.2 y = F y) u) (fun u => pAt D classes (tysL ty) u.1 (M + 1) (pA ad M s.heap.size) u.2) (pA ad M s.heap.size)) args9 s (1) (1400) (pA ad M s.heap.size) = Q
  obtain ⟨H, hH⟩ : ∃ H, H = s.heap := ⟨_, rfl⟩
  obtain ⟨locs, hlo⟩ : ∃ z : List Loc, z = [] := ⟨_, rfl⟩
  have hw : pw D classes (tysL ty) ad M F (pA ad M s.heap.size) s H locs := by rw [hH, hlo]; exact hw
  generalize hA9 : pA ad M s.heap.size = A9 at hw
  have hgo : W p l e ({ frames := 1, cells := 1, slots := 1400, locals := 24 } : Room) s m args9 below meth c H locs 0 0 Q (F0 m 0 ls []) := by
    refine lv_aload_n hx hb d_T_init_0 rfl (lv_at hl 0 rfl) ?_
    refine W.objInit hx hb hown (hq _ ml_T_3) (hq _ im_obj) (hq _ m_obj) rfl (by rw [hml]; exact hl.1) rfl d_T_init_1 (Nat.le_of_ble_eq_true rfl) (Nat.le_of_ble_eq_true rfl) ?_
    refine W.eq (g2 := F0 m 4 ls []) rfl ?_
    refine lv_aload_n hx hb d_T_init_4 rfl (lv_at hl 0 rfl) ?_
    refine wz_sipush (n := 1400) hx hb d_T_init_5 (by decide) ?_
    refine pw_newa (atype := .char) (a0 := (1400, .inl (fun _ => iI 0))) (N' := 1400) hx hb (hq _ ac_char) rfl hw (k := 1) rfl (fun _ h9 => by cases h9) (fun _ h9 => by cases h9) (fun _ => rfl) (iI_nn (by omega) (by omega)) (by decide) (Nat.le_of_ble_eq_true rfl) (Nat.le_of_ble_eq_true rfl) (Nat.le_of_ble_eq_true rfl) d_T_init_8 (j := 97) (by omega) (fun ad M F8 H ead8 eM8 eF8 hw => ?_)
    have m8_97 : F8 (97) = .inl (ty 1, 1400, .inl (fun _ => iI 0)) := by rw [eF8]; exact va_up_self ..
    have hl : lv_has ls 1 [(0, .ref (ad (96)))] := by rw [ead8 (96) (by omega)]; exact hl
    rw [← ead8 (96) (by omega)]
    have h0_at_8 : F8 (96) = .inr (2, [.null, .int (iI (0))]) := by exact (show F8 (96) = F (96) from by rw [eF8]; exact va_up_ne _ _ (by omega)).trans h0
    refine pw_putF (ci := 2) (C := R_T) (T := T_T) (N := 2) (ty := (.array .char)) (fs' := [.ref (ad (97)), .int (iI (0))]) hx hb hq i_T ft_T ft_T_ok n_T hown hw (by omega) h0_at_8 rfl 0 (by decide) (hq _ fl_T_9) (fun _ h9 => h9) rfl hin rfl (by decide +kernel) rfl rfl (Nat.le_of_ble_eq_true rfl) rfl d_T_init_10 (fun F10 H locs eF10 hw => ?_)
    have m10_96 : F10 (96) = .inr (2, [.ref (ad (97)), .int (iI (0))]) := by rw [eF10]; exact va_up_self ..
    have m8_97_at_10 : F10 (97) = .inl (ty 1, 1400, .inl (fun _ => iI 0)) := (show F10 (97) = F8 (97) from by rw [eF10]; exact va_up_ne _ _ (by omega)).trans m8_97
    refine lv_aload_n hx hb d_T_init_13 rfl (lv_at hl 0 rfl) ?_
    refine wz_iconst (n := 0) hx hb d_T_init_14 ?_
    refine pw_put (ci := 2) (C := R_T) (T := T_T) (N := 2) (ty := .int) (fs' := [.ref (ad (97)), .int (iI (0))]) hx hb hq i_T ft_T ft_T_ok n_T hown hw (by omega) m10_96 rfl 1 (by decide) (hq _ fl_T_15) (fun _ h9 => h9) rfl (by decide +kernel) rfl rfl (Nat.le_of_ble_eq_true rfl) rfl d_T_init_15 (fun F15 H locs eF15 hw => ?_)
    have m15_96 : F15 (96) = .inr (2, [.ref (ad (97)), .int (iI (0))]) := by rw [eF15]; exact va_up_self ..
    have m8_97_at_15 : F15 (97) = .inl (ty 1, 1400, .inl (fun _ => iI 0)) := (show F15 (97) = F10 (97) from by rw [eF15]; exact va_up_ne _ _ (by omega)).trans m8_97_at_10
    rw [← hQ]
    rw [← hA9] at hw
    exact pw_nret hx hb hr hlocks hw (by omega) (fun i9 h9 => ead8 i9 (by omega)) (⟨⟨m15_96, _, m8_97_at_15, by decide, fun i hi => absurd hi (Nat.not_lt_zero _), fun i hi => absurd hi (Nat.not_lt_zero _)⟩, fun y9 h9 => (show F15 (y9) = F10 (y9) from by rw [eF15]; exact va_up_ne _ _ (by omega)).trans ((show F10 (y9) = F8 (y9) from by rw [eF10]; exact va_up_ne _ _ (by omega)).trans (show F8 (y9) = F (y9) from by rw [eF8]; exact va_up_ne _ _ (by omega)))⟩) d_T_init_18
  rw [hH, hlo] at hgo
  exact hgo
set_option maxHeartbeats 400000 in
set_option maxRecDepth 100000 in
/-- new FractionDeskModel() -/
theorem c_M_init (l : Launch) (D : va_G) (ty : Nat → ClassId) (ad : Nat → Nat) (M : Nat) (F : Nat → va_E) (sz : Nat) (hM : M = 99) (h0 : F 98 = .inr (6, [.int (iI 0), .null, .null, .null, .null, .int (iI 0), .int (iI 0), .null])) :
    CN l y_M_init w_M_init ({ frames := 2, cells := 5, slots := 15086, locals := 48 } : Room) [.ref (ad (98))] D ty ad M F sz 5 (5) (15086) (fun u => Mo ty u.1 u.2 0 g0 ∧ ∀ y, y < 98 → u.2 y = F y) := by
  refine Met.ofW (cc := b_M_init) (maxL := 2) (ret := none) (by decide) rfl ?_
  intro p e s m args below meth c s₁ B hml hv
  obtain ⟨rfl, hsz, hP, hK, hD0⟩ := hv
  have hx := B.exec
  have hb := B.bytes
  have hr := B.returns
  have hts := atoms_spec (ws := w_M_init) B.pre
  have hq : ∀ w ∈ wT, w.before _ s = true := fun w h => hts w (List.mem_cons_of_mem _ h)
  have hown : s.vm.findClass R_M = some m.cls := findClass_of_methodNamed B.named
  have hlocks := B.notSynchronized
  have hin : meth.name = "<init>" := (name_of_methodNamed B.named B.method).1
  subst hsz
  have hw := pw_start hP hK hD0
  have hl := lv_entry ([.ref (ad (98))]) (n := 2) (Nat.le_of_ble_eq_true rfl)
  rw [lg_entry_eq]
  generalize (lg_sl ([.ref (ad (98))]) ++ List.replicate (2 - (lg_sl ([.ref (ad (98))])).length) Slot.unset).toArray = ls at hl ⊢
  have hl : lv_has ls 2 [(0, .ref (ad (98)))] := hl
  change W p l e ({ frames := 2, cells := 5, slots := 15086, locals := 48 } : Room) s m ([.ref (ad (98))]).toArray below meth c s.heap [] 0 0 (MQ below (va_Qv (fun u : (Nat → Nat) × (Nat → va_E) => (∀ i, i < M → u.1 i = ad i) ∧ (fun u => Mo ty u.1 u.2 0 g0 ∧ ∀ y, y < 98 → u.2 y = F y) u) (fun u => pAt D classes (tysL ty) u.1 (M + 5) (pA ad M s.heap.size) u.2) (pA ad M s.heap.size)) ([.ref (ad (98))]).toArray s (5) (15086) (pA ad M s.heap.size)) (F0 m 0 ls [])
  generalize hAr : (([.ref (ad (98))] : List Value)).toArray = args9 at *
  generalize hQ : MQ below (va_Qv (fun u : (Nat → Nat) × (Nat → va_E) => (∀ i, i < M → u.1 i = ad i) ∧ (fun u => Mo ty u.1 u.2 0 g0 ∧ ∀ y, y < 98 → u.2 y = F y) u) (fun u => pAt D classes (tysL ty) u.1 (M + 5) (pA ad M s.heap.size) u.2) (pA ad M s.heap.size)) args9 s (5) (15086) (pA ad M s.heap.size) = Q
  obtain ⟨H, hH⟩ : ∃ H, H = s.heap := ⟨_, rfl⟩
  obtain ⟨locs, hlo⟩ : ∃ z : List Loc, z = [] := ⟨_, rfl⟩
  have hw : pw D classes (tysL ty) ad M F (pA ad M s.heap.size) s H locs := by rw [hH, hlo]; exact hw
  generalize hA9 : pA ad M s.heap.size = A9 at hw
  have hgo : W p l e ({ frames := 2, cells := 5, slots := 15086, locals := 48 } : Room) s m args9 below meth c H locs 0 0 Q (F0 m 0 ls []) := by
    refine lv_aload_n hx hb d_M_init_0 rfl (lv_at hl 0 rfl) ?_
    refine W.objInit hx hb hown (hq _ ml_M_1) (hq _ im_obj) (hq _ m_obj) rfl (by rw [hml]; exact hl.1) rfl d_M_init_1 (Nat.le_of_ble_eq_true rfl) (Nat.le_of_ble_eq_true rfl) ?_
    refine W.eq (g2 := F0 m 4 ls []) rfl ?_
    refine lv_aload_n hx hb d_M_init_4 rfl (lv_at hl 0 rfl) ?_
    refine wz_sipush (n := 12900) hx hb d_M_init_5 (by decide) ?_
    refine pw_newa (atype := .int) (a0 := (12900, .inl (fun _ => iI 0))) (N' := 12900) hx hb (hq _ ac_int) rfl hw (k := 0) rfl (fun _ h9 => by cases h9) (fun _ h9 => by cases h9) (fun _ => rfl) (iI_nn (by omega) (by omega)) (by decide) (Nat.le_of_ble_eq_true rfl) (Nat.le_of_ble_eq_true rfl) (Nat.le_of_ble_eq_true rfl) d_M_init_8 (j := 99) (by omega) (fun ad M F8 H ead8 eM8 eF8 hw => ?_)
    have m8_99 : F8 (99) = .inl (ty 0, 12900, .inl (fun _ => iI 0)) := by rw [eF8]; exact va_up_self ..
    have hl : lv_has ls 2 [(0, .ref (ad (98)))] := by rw [ead8 (98) (by omega)]; exact hl
    rw [← ead8 (98) (by omega)]
    have h0_at_8 : F8 (98) = .inr (6, [.int (iI (0)), .null, .null, .null, .null, .int (iI (0)), .int (iI (0)), .null]) := by exact (show F8 (98) = F (98) from by rw [eF8]; exact va_up_ne _ _ (by omega)).trans h0
    refine pw_putF (ci := 6) (C := R_M) (T := T_M) (N := 8) (ty := (.array .int)) (fs' := [.int (iI (0)), .ref (ad (99)), .null, .null, .null, .int (iI (0)), .int (iI (0)), .null]) hx hb hq i_M ft_M ft_M_ok n_M hown hw (by omega) h0_at_8 rfl 1 (by decide) (hq _ fl_M_7) (fun _ h9 => h9) rfl hin rfl (by decide +kernel) rfl rfl (Nat.le_of_ble_eq_true rfl) rfl d_M_init_10 (fun F10 H locs eF10 hw => ?_)
    have m10_98 : F10 (98) = .inr (6, [.int (iI (0)), .ref (ad (99)), .null, .null, .null, .int (iI (0)), .int (iI (0)), .null]) := by rw [eF10]; exact va_up_self ..
    have m8_99_at_10 : F10 (99) = .inl (ty 0, 12900, .inl (fun _ => iI 0)) := (show F10 (99) = F8 (99) from by rw [eF10]; exact va_up_ne _ _ (by omega)).trans m8_99
    refine lv_aload_n hx hb d_M_init_13 rfl (lv_at hl 0 rfl) ?_
    refine wz_bipush (n := 43) hx hb d_M_init_14 (by decide) ?_
    refine pw_newa (atype := .int) (a0 := (43, .inl (fun _ => iI 0))) (N' := 43) hx hb (hq _ ac_int) rfl hw (k := 0) rfl (fun _ h9 => by cases h9) (fun _ h9 => by cases h9) (fun _ => rfl) (iI_nn (by omega) (by omega)) (by decide) (Nat.le_of_ble_eq_true rfl) (Nat.le_of_ble_eq_true rfl) (Nat.le_of_ble_eq_true rfl) d_M_init_16 (j := 100) (by omega) (fun ad M F16 H ead16 eM16 eF16 hw => ?_)
    have m16_100 : F16 (100) = .inl (ty 0, 43, .inl (fun _ => iI 0)) := by rw [eF16]; exact va_up_self ..
    have hl : lv_has ls 2 [(0, .ref (ad (98)))] := by rw [ead16 (98) (by omega)]; exact hl
    rw [← ead16 (98) (by omega)]
    have m8_99_at_16 : F16 (99) = .inl (ty 0, 12900, .inl (fun _ => iI 0)) := by exact (show F16 (99) = F10 (99) from by rw [eF16]; exact va_up_ne _ _ (by omega)).trans m8_99_at_10
    have m10_98_at_16 : F16 (98) = .inr (6, [.int (iI (0)), .ref (ad (99)), .null, .null, .null, .int (iI (0)), .int (iI (0)), .null]) := by rw [ead16 (99) (by omega)]; exact (show F16 (98) = F10 (98) from by rw [eF16]; exact va_up_ne _ _ (by omega)).trans m10_98
    refine pw_putF (ci := 6) (C := R_M) (T := T_M) (N := 8) (ty := (.array .int)) (fs' := [.int (iI (0)), .ref (ad (99)), .ref (ad (100)), .null, .null, .int (iI (0)), .int (iI (0)), .null]) hx hb hq i_M ft_M ft_M_ok n_M hown hw (by omega) m10_98_at_16 rfl 2 (by decide) (hq _ fl_M_13) (fun _ h9 => h9) rfl hin rfl (by decide +kernel) rfl rfl (Nat.le_of_ble_eq_true rfl) rfl d_M_init_18 (fun F18 H locs eF18 hw => ?_)
    have m18_98 : F18 (98) = .inr (6, [.int (iI (0)), .ref (ad (99)), .ref (ad (100)), .null, .null, .int (iI (0)), .int (iI (0)), .null]) := by rw [eF18]; exact va_up_self ..
    have m8_99_at_18 : F18 (99) = .inl (ty 0, 12900, .inl (fun _ => iI 0)) := (show F18 (99) = F16 (99) from by rw [eF18]; exact va_up_ne _ _ (by omega)).trans m8_99_at_16
    have m16_100_at_18 : F18 (100) = .inl (ty 0, 43, .inl (fun _ => iI 0)) := (show F18 (100) = F16 (100) from by rw [eF18]; exact va_up_ne _ _ (by omega)).trans m16_100
    refine lv_aload_n hx hb d_M_init_21 rfl (lv_at hl 0 rfl) ?_
    refine wz_bipush (n := 43) hx hb d_M_init_22 (by decide) ?_
    refine pw_newa (atype := .boolean) (a0 := (43, .inl (fun _ => iI 0))) (N' := 43) hx hb (hq _ ac_boolean) rfl hw (k := 4) rfl (fun _ h9 => by cases h9) (fun _ h9 => by cases h9) (fun _ => rfl) (iI_nn (by omega) (by omega)) (by decide) (Nat.le_of_ble_eq_true rfl) (Nat.le_of_ble_eq_true rfl) (Nat.le_of_ble_eq_true rfl) d_M_init_24 (j := 101) (by omega) (fun ad M F24 H ead24 eM24 eF24 hw => ?_)
    have m24_101 : F24 (101) = .inl (ty 4, 43, .inl (fun _ => iI 0)) := by rw [eF24]; exact va_up_self ..
    have hl : lv_has ls 2 [(0, .ref (ad (98)))] := by rw [ead24 (98) (by omega)]; exact hl
    rw [← ead24 (98) (by omega)]
    have m8_99_at_24 : F24 (99) = .inl (ty 0, 12900, .inl (fun _ => iI 0)) := by exact (show F24 (99) = F18 (99) from by rw [eF24]; exact va_up_ne _ _ (by omega)).trans m8_99_at_18
    have m16_100_at_24 : F24 (100) = .inl (ty 0, 43, .inl (fun _ => iI 0)) := by exact (show F24 (100) = F18 (100) from by rw [eF24]; exact va_up_ne _ _ (by omega)).trans m16_100_at_18
    have m18_98_at_24 : F24 (98) = .inr (6, [.int (iI (0)), .ref (ad (99)), .ref (ad (100)), .null, .null, .int (iI (0)), .int (iI (0)), .null]) := by rw [ead24 (99) (by omega), ead24 (100) (by omega)]; exact (show F24 (98) = F18 (98) from by rw [eF24]; exact va_up_ne _ _ (by omega)).trans m18_98
    refine pw_putF (ci := 6) (C := R_M) (T := T_M) (N := 8) (ty := (.array .boolean)) (fs' := [.int (iI (0)), .ref (ad (99)), .ref (ad (100)), .ref (ad (101)), .null, .int (iI (0)), .int (iI (0)), .null]) hx hb hq i_M ft_M ft_M_ok n_M hown hw (by omega) m18_98_at_24 rfl 3 (by decide) (hq _ fl_M_16) (fun _ h9 => h9) rfl hin rfl (by decide +kernel) rfl rfl (Nat.le_of_ble_eq_true rfl) rfl d_M_init_26 (fun F26 H locs eF26 hw => ?_)
    have m26_98 : F26 (98) = .inr (6, [.int (iI (0)), .ref (ad (99)), .ref (ad (100)), .ref (ad (101)), .null, .int (iI (0)), .int (iI (0)), .null]) := by rw [eF26]; exact va_up_self ..
    have m8_99_at_26 : F26 (99) = .inl (ty 0, 12900, .inl (fun _ => iI 0)) := (show F26 (99) = F24 (99) from by rw [eF26]; exact va_up_ne _ _ (by omega)).trans m8_99_at_24
    have m16_100_at_26 : F26 (100) = .inl (ty 0, 43, .inl (fun _ => iI 0)) := (show F26 (100) = F24 (100) from by rw [eF26]; exact va_up_ne _ _ (by omega)).trans m16_100_at_24
    have m24_101_at_26 : F26 (101) = .inl (ty 4, 43, .inl (fun _ => iI 0)) := (show F26 (101) = F24 (101) from by rw [eF26]; exact va_up_ne _ _ (by omega)).trans m24_101
    refine lv_aload_n hx hb d_M_init_29 rfl (lv_at hl 0 rfl) ?_
    refine wz_sipush (n := 1400) hx hb d_M_init_30 (by decide) ?_
    refine pw_newa (atype := .int) (a0 := (1400, .inl (fun _ => iI 0))) (N' := 1400) hx hb (hq _ ac_int) rfl hw (k := 0) rfl (fun _ h9 => by cases h9) (fun _ h9 => by cases h9) (fun _ => rfl) (iI_nn (by omega) (by omega)) (by decide) (Nat.le_of_ble_eq_true rfl) (Nat.le_of_ble_eq_true rfl) (Nat.le_of_ble_eq_true rfl) d_M_init_33 (j := 102) (by omega) (fun ad M F33 H ead33 eM33 eF33 hw => ?_)
    have m33_102 : F33 (102) = .inl (ty 0, 1400, .inl (fun _ => iI 0)) := by rw [eF33]; exact va_up_self ..
    have hl : lv_has ls 2 [(0, .ref (ad (98)))] := by rw [ead33 (98) (by omega)]; exact hl
    rw [← ead33 (98) (by omega)]
    have m8_99_at_33 : F33 (99) = .inl (ty 0, 12900, .inl (fun _ => iI 0)) := by exact (show F33 (99) = F26 (99) from by rw [eF33]; exact va_up_ne _ _ (by omega)).trans m8_99_at_26
    have m16_100_at_33 : F33 (100) = .inl (ty 0, 43, .inl (fun _ => iI 0)) := by exact (show F33 (100) = F26 (100) from by rw [eF33]; exact va_up_ne _ _ (by omega)).trans m16_100_at_26
    have m24_101_at_33 : F33 (101) = .inl (ty 4, 43, .inl (fun _ => iI 0)) := by exact (show F33 (101) = F26 (101) from by rw [eF33]; exact va_up_ne _ _ (by omega)).trans m24_101_at_26
    have m26_98_at_33 : F33 (98) = .inr (6, [.int (iI (0)), .ref (ad (99)), .ref (ad (100)), .ref (ad (101)), .null, .int (iI (0)), .int (iI (0)), .null]) := by rw [ead33 (99) (by omega), ead33 (100) (by omega), ead33 (101) (by omega)]; exact (show F33 (98) = F26 (98) from by rw [eF33]; exact va_up_ne _ _ (by omega)).trans m26_98
    refine pw_putF (ci := 6) (C := R_M) (T := T_M) (N := 8) (ty := (.array .int)) (fs' := [.int (iI (0)), .ref (ad (99)), .ref (ad (100)), .ref (ad (101)), .ref (ad (102)), .int (iI (0)), .int (iI (0)), .null]) hx hb hq i_M ft_M ft_M_ok n_M hown hw (by omega) m26_98_at_33 rfl 4 (by decide) (hq _ fl_M_20) (fun _ h9 => h9) rfl hin rfl (by decide +kernel) rfl rfl (Nat.le_of_ble_eq_true rfl) rfl d_M_init_35 (fun F35 H locs eF35 hw => ?_)
    have m35_98 : F35 (98) = .inr (6, [.int (iI (0)), .ref (ad (99)), .ref (ad (100)), .ref (ad (101)), .ref (ad (102)), .int (iI (0)), .int (iI (0)), .null]) := by rw [eF35]; exact va_up_self ..
    have m8_99_at_35 : F35 (99) = .inl (ty 0, 12900, .inl (fun _ => iI 0)) := (show F35 (99) = F33 (99) from by rw [eF35]; exact va_up_ne _ _ (by omega)).trans m8_99_at_33
    have m16_100_at_35 : F35 (100) = .inl (ty 0, 43, .inl (fun _ => iI 0)) := (show F35 (100) = F33 (100) from by rw [eF35]; exact va_up_ne _ _ (by omega)).trans m16_100_at_33
    have m24_101_at_35 : F35 (101) = .inl (ty 4, 43, .inl (fun _ => iI 0)) := (show F35 (101) = F33 (101) from by rw [eF35]; exact va_up_ne _ _ (by omega)).trans m24_101_at_33
    have m33_102_at_35 : F35 (102) = .inl (ty 0, 1400, .inl (fun _ => iI 0)) := (show F35 (102) = F33 (102) from by rw [eF35]; exact va_up_ne _ _ (by omega)).trans m33_102
    refine lv_aload_n hx hb d_M_init_38 rfl (lv_at hl 0 rfl) ?_
    refine wz_iconst (n := -1) hx hb d_M_init_39 ?_
    refine pw_put (ci := 6) (C := R_M) (T := T_M) (N := 8) (ty := .int) (fs' := [.int (iI (0)), .ref (ad (99)), .ref (ad (100)), .ref (ad (101)), .ref (ad (102)), .int (iI (0)), .int (iI (-1)), .null]) hx hb hq i_M ft_M ft_M_ok n_M hown hw (by omega) m35_98 rfl 6 (by decide) (hq _ fl_M_23) (fun _ h9 => h9) rfl (by decide +kernel) rfl rfl (Nat.le_of_ble_eq_true rfl) rfl d_M_init_40 (fun F40 H locs eF40 hw => ?_)
    have m40_98 : F40 (98) = .inr (6, [.int (iI (0)), .ref (ad (99)), .ref (ad (100)), .ref (ad (101)), .ref (ad (102)), .int (iI (0)), .int (iI (-1)), .null]) := by rw [eF40]; exact va_up_self ..
    have m8_99_at_40 : F40 (99) = .inl (ty 0, 12900, .inl (fun _ => iI 0)) := (show F40 (99) = F35 (99) from by rw [eF40]; exact va_up_ne _ _ (by omega)).trans m8_99_at_35
    have m16_100_at_40 : F40 (100) = .inl (ty 0, 43, .inl (fun _ => iI 0)) := (show F40 (100) = F35 (100) from by rw [eF40]; exact va_up_ne _ _ (by omega)).trans m16_100_at_35
    have m24_101_at_40 : F40 (101) = .inl (ty 4, 43, .inl (fun _ => iI 0)) := (show F40 (101) = F35 (101) from by rw [eF40]; exact va_up_ne _ _ (by omega)).trans m24_101_at_35
    have m33_102_at_40 : F40 (102) = .inl (ty 0, 1400, .inl (fun _ => iI 0)) := (show F40 (102) = F35 (102) from by rw [eF40]; exact va_up_ne _ _ (by omega)).trans m33_102_at_35
    refine lv_aload_n hx hb d_M_init_43 rfl (lv_at hl 0 rfl) ?_
    refine wz_sipush (n := 700) hx hb d_M_init_44 (by decide) ?_
    refine pw_newa (atype := .int) (a0 := (700, .inl (fun _ => iI 0))) (N' := 700) hx hb (hq _ ac_int) rfl hw (k := 0) rfl (fun _ h9 => by cases h9) (fun _ h9 => by cases h9) (fun _ => rfl) (iI_nn (by omega) (by omega)) (by decide) (Nat.le_of_ble_eq_true rfl) (Nat.le_of_ble_eq_true rfl) (Nat.le_of_ble_eq_true rfl) d_M_init_47 (j := 103) (by omega) (fun ad M F47 H ead47 eM47 eF47 hw => ?_)
    have m47_103 : F47 (103) = .inl (ty 0, 700, .inl (fun _ => iI 0)) := by rw [eF47]; exact va_up_self ..
    have hl : lv_has ls 2 [(0, .ref (ad (98)))] := by rw [ead47 (98) (by omega)]; exact hl
    rw [← ead47 (98) (by omega)]
    have m8_99_at_47 : F47 (99) = .inl (ty 0, 12900, .inl (fun _ => iI 0)) := by exact (show F47 (99) = F40 (99) from by rw [eF47]; exact va_up_ne _ _ (by omega)).trans m8_99_at_40
    have m16_100_at_47 : F47 (100) = .inl (ty 0, 43, .inl (fun _ => iI 0)) := by exact (show F47 (100) = F40 (100) from by rw [eF47]; exact va_up_ne _ _ (by omega)).trans m16_100_at_40
    have m24_101_at_47 : F47 (101) = .inl (ty 4, 43, .inl (fun _ => iI 0)) := by exact (show F47 (101) = F40 (101) from by rw [eF47]; exact va_up_ne _ _ (by omega)).trans m24_101_at_40
    have m33_102_at_47 : F47 (102) = .inl (ty 0, 1400, .inl (fun _ => iI 0)) := by exact (show F47 (102) = F40 (102) from by rw [eF47]; exact va_up_ne _ _ (by omega)).trans m33_102_at_40
    have m40_98_at_47 : F47 (98) = .inr (6, [.int (iI (0)), .ref (ad (99)), .ref (ad (100)), .ref (ad (101)), .ref (ad (102)), .int (iI (0)), .int (iI (-1)), .null]) := by rw [ead47 (99) (by omega), ead47 (100) (by omega), ead47 (101) (by omega), ead47 (102) (by omega)]; exact (show F47 (98) = F40 (98) from by rw [eF47]; exact va_up_ne _ _ (by omega)).trans m40_98
    refine pw_putF (ci := 6) (C := R_M) (T := T_M) (N := 8) (ty := (.array .int)) (fs' := [.int (iI (0)), .ref (ad (99)), .ref (ad (100)), .ref (ad (101)), .ref (ad (102)), .int (iI (0)), .int (iI (-1)), .ref (ad (103))]) hx hb hq i_M ft_M ft_M_ok n_M hown hw (by omega) m40_98_at_47 rfl 7 (by decide) (hq _ fl_M_27) (fun _ h9 => h9) rfl hin rfl (by decide +kernel) rfl rfl (Nat.le_of_ble_eq_true rfl) rfl d_M_init_49 (fun F49 H locs eF49 hw => ?_)
    have m49_98 : F49 (98) = .inr (6, [.int (iI (0)), .ref (ad (99)), .ref (ad (100)), .ref (ad (101)), .ref (ad (102)), .int (iI (0)), .int (iI (-1)), .ref (ad (103))]) := by rw [eF49]; exact va_up_self ..
    have m8_99_at_49 : F49 (99) = .inl (ty 0, 12900, .inl (fun _ => iI 0)) := (show F49 (99) = F47 (99) from by rw [eF49]; exact va_up_ne _ _ (by omega)).trans m8_99_at_47
    have m16_100_at_49 : F49 (100) = .inl (ty 0, 43, .inl (fun _ => iI 0)) := (show F49 (100) = F47 (100) from by rw [eF49]; exact va_up_ne _ _ (by omega)).trans m16_100_at_47
    have m24_101_at_49 : F49 (101) = .inl (ty 4, 43, .inl (fun _ => iI 0)) := (show F49 (101) = F47 (101) from by rw [eF49]; exact va_up_ne _ _ (by omega)).trans m24_101_at_47
    have m33_102_at_49 : F49 (102) = .inl (ty 0, 1400, .inl (fun _ => iI 0)) := (show F49 (102) = F47 (102) from by rw [eF49]; exact va_up_ne _ _ (by omega)).trans m33_102_at_47
    have m47_103_at_49 : F49 (103) = .inl (ty 0, 700, .inl (fun _ => iI 0)) := (show F49 (103) = F47 (103) from by rw [eF49]; exact va_up_ne _ _ (by omega)).trans m47_103
    refine wz_iconst (n := 0) hx hb d_M_init_52 ?_
    refine lv_istore_n (lv' := [(1, .int (iI (0))), (0, .ref (ad (98)))]) hx hb d_M_init_53 rfl hl (by decide) rfl (fun ls hl => ?_)
    have K54 : ∀ (fuel : Nat) (i : Nat) (F54 : Nat → va_E) (H : Heap) (locs : List Loc) (ls : Array Slot), 16 - i < fuel → (i ≤ 16) → (∀ j, j < 16 → Nm ty F54 j 0) → (∀ j, j < i → Nm ty F54 (16 + j) 1) → (∀ y, y < 98 → F54 y = F y) → F54 (98) = .inr (6, [.int (iI (0)), .ref (ad (99)), .ref (ad (100)), .ref (ad (101)), .ref (ad (102)), .int (iI (0)), .int (iI (-1)), .ref (ad (103))]) → F54 (102) = .inl (ty 0, 1400, .inl (fun _ => iI 0)) → F54 (103) = .inl (ty 0, 700, .inl (fun _ => iI 0)) → pw D classes (tysL ty) ad M F54 A9 s H locs → lv_has ls 2 [(0, .ref (ad (98))), (1, .int (iI ((i : Int))))] → W p l e ({ frames := 2, cells := 5, slots := 15086, locals := 48 } : Room) s m args9 below meth c H locs (0 + 1 + 1 + 1 + 1 + 1) (0 + 12900 + 43 + 43 + 1400 + 700) Q (F0 m 54 ls []) := by
      intro fuel
      induction fuel with
      | zero => intro i F54 H locs ls hfuel hi hN hN2 hfr hO h102 h103 hw hl; exact absurd hfuel (Nat.not_lt_zero _)
      | succ fuel ih54 =>
        intro i F54 H locs ls hfuel hi hN hN2 hfr hO h102 h103 hw hl
        refine lv_iload_n hx hb d_M_init_54 rfl (lv_at hl 1 rfl) ?_
        refine wz_bipush (n := 16) hx hb d_M_init_55 (by decide) ?_
        refine wz_icmp_ge (tgt := 75) hx hb d_M_init_57 (by decide) (by omega) (by omega) (by omega) (by omega) (fun c57 => ?_) (fun c57 => ?_)
        · rw [← hQ]
          rw [← hA9] at hw
          exact pw_nret hx hb hr hlocks hw (by omega) (fun i9 h9 => (ead47 i9 (by omega)).trans ((ead33 i9 (by omega)).trans ((ead24 i9 (by omega)).trans ((ead16 i9 (by omega)).trans (ead8 i9 (by omega)))))) (⟨⟨hO, fun j hj => ⟨hN j hj, hN2 j (by omega)⟩, _, _, h102, fun i hi => absurd hi (Nat.not_lt_zero _), h103⟩, fun y9 h9 => (rfl).trans (hfr y9 h9)⟩) d_M_init_75
        · refine lv_aload_n hx hb d_M_init_60 rfl (lv_at hl 0 rfl) ?_
          refine wz_bipush (n := 16) hx hb d_M_init_61 (by decide) ?_
          refine lv_iload_n hx hb d_M_init_63 rfl (lv_at hl 1 rfl) ?_
          refine wz_iadd (z := ((16 + i : Nat) : Int)) hx hb d_M_init_64 (by omega) ?_
          refine lv_lconst (v := iL 1) hx hb d_M_init_65 (by decide) ?_
          obtain ⟨_, _, _, hA66⟩ := (hN 0 (by decide)).ma
          refine pw_callv hw (va_runV (As := [.int (iI (((16 + i : Nat) : Int))), .long (iL (1))]) (rest := []) ⟨hx, hb, hml, hown, hq⟩ (c_M_setLong l D ty ad M F54 H.size (by omega) 0 0 (-1) hO _ _ _ hA66 (16 + i) (by omega) 1 (by decide)) (cwV 2 hq (gV ml_M_30 im_M_setLong se_M_setLong in_M m_M_setLong) rfl rfl rfl (by decide +kernel) ⟨Nat.le_of_ble_eq_true rfl, Nat.le_of_ble_eq_true rfl⟩) (pw_preV hw (by omega) hO rfl) rfl rfl hl.1 rfl (lv_room (Nat.le_of_ble_eq_true rfl)) d_M_init_66 ⟨Nat.le_of_ble_eq_true rfl, Nat.le_of_ble_eq_true rfl⟩) (fun F66 H locs q66 hw => ?_)
          obtain ⟨N66, hk66, hf66⟩ := q66
          have hO_at_66 : F66 (98) = .inr (6, [.int (iI (0)), .ref (ad (99)), .ref (ad (100)), .ref (ad (101)), .ref (ad (102)), .int (iI (0)), .int (iI (-1)), .ref (ad (103))]) := (hf66 (98) (by omega) (by omega) (by omega)).trans hO
          have h102_at_66 : F66 (102) = .inl (ty 0, 1400, .inl (fun _ => iI 0)) := (hf66 (102) (by omega) (by omega) (by omega)).trans h102
          have h103_at_66 : F66 (103) = .inl (ty 0, 700, .inl (fun _ => iI 0)) := (hf66 (103) (by omega) (by omega) (by omega)).trans h103
          refine wz_iinc (z := ((i + 1 : Nat) : Int)) (lv' := [(1, .int (iI (((i + 1 : Nat) : Int)))), (0, .ref (ad (98)))]) hx hb d_M_init_69 hl (k := 1) rfl (by omega) (by decide) rfl (fun ls hl => ?_)
          refine lv_goto (tgt := 54) hx hb d_M_init_72 (by decide) ?_
          exact ih54 (i + 1) _ _ _ ls (by omega) (by omega) (fun j hj => hk66 _ _ (by omega) (by first | omega | (dsimp only; omega)) (hN j hj)) (fun j hj => by
            by_cases h9 : j = i
            · rw [h9]; exact N66
            · exact hk66 _ _ (by omega) (by first | omega | (dsimp only; omega)) (hN2 j (by omega))) (fun y9 h9 => (hf66 (y9) (by omega) (by omega) (by omega)).trans (hfr y9 h9)) hO_at_66 h102_at_66 h103_at_66 hw (lv_sub hl [1, 0] rfl)
    exact K54 _ 0 _ _ _ ls (Nat.lt_succ_self _) (by omega) (fun j hj => Nm_0 ⟨m8_99_at_49, m16_100_at_49, m24_101_at_49⟩) (fun j hj => absurd hj (by omega)) (fun y9 h9 => (show F49 (y9) = F47 (y9) from by rw [eF49]; exact va_up_ne _ _ (by omega)).trans ((show F47 (y9) = F40 (y9) from by rw [eF47]; exact va_up_ne _ _ (by omega)).trans ((show F40 (y9) = F35 (y9) from by rw [eF40]; exact va_up_ne _ _ (by omega)).trans ((show F35 (y9) = F33 (y9) from by rw [eF35]; exact va_up_ne _ _ (by omega)).trans ((show F33 (y9) = F26 (y9) from by rw [eF33]; exact va_up_ne _ _ (by omega)).trans ((show F26 (y9) = F24 (y9) from by rw [eF26]; exact va_up_ne _ _ (by omega)).trans ((show F24 (y9) = F18 (y9) from by rw [eF24]; exact va_up_ne _ _ (by omega)).trans ((show F18 (y9) = F16 (y9) from by rw [eF18]; exact va_up_ne _ _ (by omega)).trans ((show F16 (y9) = F10 (y9) from by rw [eF16]; exact va_up_ne _ _ (by omega)).trans ((show F10 (y9) = F8 (y9) from by rw [eF10]; exact va_up_ne _ _ (by omega)).trans (show F8 (y9) = F (y9) from by rw [eF8]; exact va_up_ne _ _ (by omega)))))))))))) m49_98 m33_102_at_49 m47_103_at_49 hw (lv_sub hl [1, 0] rfl)
  rw [hH, hlo] at hgo
  exact hgo
