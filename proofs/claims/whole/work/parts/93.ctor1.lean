/-! constructors: Whole, Fraction, Divisors: by program -/
set_option maxHeartbeats 400000 in
set_option maxRecDepth 100000 in
/-- new Whole(n) -/
theorem c_W_init (l : Launch) (D : va_G) (ty : Nat → ClassId) (ad : Nat → Nat) (M : Nat) (F : Nat → va_E) (sz : Nat) (w N0 : Nat) (hN0 : 3 ≤ N0 ∧ N0 ≤ 1000) (hM : M = w + 1) (h0 : F w = .inr (0, [.null, .int (iI 0)])) :
    CN l y_W_init w_W_init ({ frames := 1, cells := 0 + 1, slots := 0 + N0, locals := 24 } : Room) [.ref (ad (w)), .int (iI ((N0 : Int)))] D ty ad M F sz 1 (0 + 1) (0 + N0) (fun u => u.2 w = oW u.1 w 0 ∧ u.2 (w + 1) = aI ty N0 (fun _ => iI 0) ∧ ∀ y, y < w → u.2 y = F y) := by
  refine Met.ofW (cc := b_W_init) (maxL := 2) (ret := none) (by decide) rfl ?_
  intro p e s m args below meth c s₁ B hml hv
  obtain ⟨rfl, hsz, hP, hK, hD0⟩ := hv
  have hx := B.exec
  have hb := B.bytes
  have hr := B.returns
  have hts := atoms_spec (ws := w_W_init) B.pre
  have hq : ∀ w ∈ wT, w.before _ s = true := fun w h => hts w (List.mem_cons_of_mem _ h)
  have hown : s.vm.findClass R_W = some m.cls := findClass_of_methodNamed B.named
  have hlocks := B.notSynchronized
  have hin : meth.name = "<init>" := (name_of_methodNamed B.named B.method).1
  subst hsz
  have hw := pw_start hP hK hD0
  have hl := lv_entry ([.ref (ad (w)), .int (iI ((N0 : Int)))]) (n := 2) (Nat.le_of_ble_eq_true rfl)
  rw [lg_entry_eq]
  generalize (lg_sl ([.ref (ad (w)), .int (iI ((N0 : Int)))]) ++ List.replicate (2 - (lg_sl ([.ref (ad (w)), .int (iI ((N0 : Int)))])).length) Slot.unset).toArray = ls at hl ⊢
  have hl : lv_has ls 2 [(0, .ref (ad (w))), (1, .int (iI ((N0 : Int))))] := hl
  change W p l e ({ frames := 1, cells := 0 + 1, slots := 0 + N0, locals := 24 } : Room) s m ([.ref (ad (w)), .int (iI ((N0 : Int)))]).toArray below meth c s.heap [] 0 0 (MQ below (va_Qv (fun u : (Nat → Nat) × (Nat → va_E) => (∀ i, i < M → u.1 i = ad i) ∧ (fun u => u.2 w = oW u.1 w 0 ∧ u.2 (w + 1) = aI ty N0 (fun _ => iI 0) ∧ ∀ y, y < w → u.2 y = F y) u) (fun u => pAt D classes (tysL ty) u.1 (M + 1) (pA ad M s.heap.size) u.2) (pA ad M s.heap.size)) ([.ref (ad (w)), .int (iI ((N0 : Int)))]).toArray s (0 + 1) (0 + N0) (pA ad M s.heap.size)) (F0 m 0 ls [])
  generalize hAr : (([.ref (ad (w)), .int (iI ((N0 : Int)))] : List Value)).toArray = args9 at *
  generalize hQ : MQ below (va_Qv (fun u : (Nat → Nat) × (Nat → va_E) => (∀ i, i < M → u.1 i = ad i) ∧ (fun u => u.2 w = oW u.1 w 0 ∧ u.2 (w + 1) = aI ty N0 (fun _ => iI 0) ∧ ∀ y, y < w → u.2 y = F y) u) (fun u => pAt D classes (tysL ty) u.1 (M + 1) (pA ad M s.heap.size) u.2) (pA ad M s.heap.size)) args9 s (0 + 1) (0 + N0) (pA ad M s.heap.size) = Q
  obtain ⟨H, hH⟩ : ∃ H, H = s.heap := ⟨_, rfl⟩
  obtain ⟨locs, hlo⟩ : ∃ z : List Loc, z = [] := ⟨_, rfl⟩
  have hw : pw D classes (tysL ty) ad M F (pA ad M s.heap.size) s H locs := by rw [hH, hlo]; exact hw
  generalize hA9 : pA ad M s.heap.size = A9 at hw
  have hgo : W p l e ({ frames := 1, cells := 0 + 1, slots := 0 + N0, locals := 24 } : Room) s m args9 below meth c H locs 0 0 Q (F0 m 0 ls []) := by
    refine lv_aload_n hx hb d_W_init_0 rfl (lv_at hl 0 rfl) ?_
    refine W.objInit hx hb hown (hq _ ml_W_3) (hq _ im_obj) (hq _ m_obj) rfl (by rw [hml]; exact hl.1) rfl d_W_init_1 (Nat.le_of_ble_eq_true rfl) (Nat.le_of_ble_eq_true rfl) ?_
    refine W.eq (g2 := F0 m 4 ls []) rfl ?_
    refine lv_aload_n hx hb d_W_init_4 rfl (lv_at hl 0 rfl) ?_
    refine lv_iload_n hx hb d_W_init_5 rfl (lv_at hl 1 rfl) ?_
    refine wz_iconst (n := 3) hx hb d_W_init_6 ?_
    refine wz_mmax (z := (N0 : Int)) hx hb (hml.trans hl.1.symm) hown (hq _ ml_W_11) (hq _ st_JM_max) (hq _ in_JM) (hq _ m_JM_max) (Nat.le_of_ble_eq_true rfl) (Nat.le_of_ble_eq_true rfl) (Nat.zero_le _) (Nat.zero_le _) (by omega) (by omega) (by omega) (by omega) (by omega) d_W_init_7 ?_
    refine pw_newa (atype := .int) (a0 := (N0, .inl (fun _ => iI 0))) (N' := N0) hx hb (hq _ ac_int) rfl hw (k := 0) rfl (fun _ h9 => by cases h9) (fun _ h9 => by cases h9) (fun _ => rfl) (iI_nn (by omega) (by omega)) (iI_cn (by omega)) (by show N0 * 4 ≤ _; omega) (Nat.le_of_ble_eq_true rfl) (Nat.le_refl _) d_W_init_10 (j := w + 1) (by omega) (fun ad M F10 H ead10 eM10 eF10 hw => ?_)
    have m10_w1 : F10 (w + 1) = .inl (ty 0, N0, .inl (fun _ => iI 0)) := by rw [eF10]; exact va_up_self ..
    have hl : lv_has ls 2 [(0, .ref (ad (w))), (1, .int (iI ((N0 : Int))))] := by rw [ead10 (w) (by omega)]; exact hl
    rw [← ead10 (w) (by omega)]
    have h0_at_10 : F10 (w) = .inr (0, [.null, .int (iI (0))]) := by exact (show F10 (w) = F (w) from by rw [eF10]; exact va_up_ne _ _ (by omega)).trans h0
    refine pw_putF (ci := 0) (C := R_W) (T := T_W) (N := 2) (ty := (.array .int)) (fs' := [.ref (ad (w + 1)), .int (iI (0))]) hx hb hq i_W ft_W ft_W_ok n_W hown hw (by omega) h0_at_10 rfl 0 (by decide) (hq _ fl_W_17) (fun _ h9 => h9) rfl hin rfl (by decide +kernel) rfl rfl (Nat.le_of_ble_eq_true rfl) rfl d_W_init_12 (fun F12 H locs eF12 hw => ?_)
    have m12_w : F12 (w) = .inr (0, [.ref (ad (w + 1)), .int (iI (0))]) := by rw [eF12]; exact va_up_self ..
    have m10_w1_at_12 : F12 (w + 1) = .inl (ty 0, N0, .inl (fun _ => iI 0)) := (show F12 (w + 1) = F10 (w + 1) from by rw [eF12]; exact va_up_ne _ _ (by omega)).trans m10_w1
    refine lv_aload_n hx hb d_W_init_15 rfl (lv_at hl 0 rfl) ?_
    refine wz_iconst (n := 0) hx hb d_W_init_16 ?_
    refine pw_put (ci := 0) (C := R_W) (T := T_W) (N := 2) (ty := .int) (fs' := [.ref (ad (w + 1)), .int (iI (0))]) hx hb hq i_W ft_W ft_W_ok n_W hown hw (by omega) m12_w rfl 1 (by decide) (hq _ fl_W_21) (fun _ h9 => h9) rfl (by decide +kernel) rfl rfl (Nat.le_of_ble_eq_true rfl) rfl d_W_init_17 (fun F17 H locs eF17 hw => ?_)
    have m17_w : F17 (w) = .inr (0, [.ref (ad (w + 1)), .int (iI (0))]) := by rw [eF17]; exact va_up_self ..
    have m10_w1_at_17 : F17 (w + 1) = .inl (ty 0, N0, .inl (fun _ => iI 0)) := (show F17 (w + 1) = F12 (w + 1) from by rw [eF17]; exact va_up_ne _ _ (by omega)).trans m10_w1_at_12
    rw [← hQ]
    rw [← hA9] at hw
    exact pw_nret hx hb hr hlocks hw (by omega) (fun i9 h9 => ead10 i9 (by omega)) (⟨m17_w, m10_w1_at_17, fun y9 h9 => (show F17 (y9) = F12 (y9) from by rw [eF17]; exact va_up_ne _ _ (by omega)).trans ((show F12 (y9) = F10 (y9) from by rw [eF12]; exact va_up_ne _ _ (by omega)).trans (show F10 (y9) = F (y9) from by rw [eF10]; exact va_up_ne _ _ (by omega)))⟩) d_W_init_20
  rw [hH, hlo] at hgo
  exact hgo
set_option maxHeartbeats 400000 in
set_option maxRecDepth 100000 in
/-- new Fraction() -/
theorem c_F_init (l : Launch) (D : va_G) (ty : Nat → ClassId) (ad : Nat → Nat) (M : Nat) (F : Nat → va_E) (sz : Nat) (x : Nat) (hM : M = x + 1) (h0 : F x = .inr (1, [.null, .null, .int (iI 0)])) :
    CN l y_F_init w_F_init ({ frames := 3, cells := 4, slots := 138, locals := 68 } : Room) [.ref (ad (x))] D ty ad M F sz 4 (4) (138) (fun u => u.2 x = oF u.1 x 0 ∧ Wv ty u.1 u.2 (x + 1) 67 0 ∧ Wv ty u.1 u.2 (x + 3) 67 1 ∧ ∀ y, y < x → u.2 y = F y) := by
  refine Met.ofW (cc := b_F_init) (maxL := 1) (ret := none) (by decide) rfl ?_
  intro p e s m args below meth c s₁ B hml hv
  obtain ⟨rfl, hsz, hP, hK, hD0⟩ := hv
  have hx := B.exec
  have hb := B.bytes
  have hr := B.returns
  have hts := atoms_spec (ws := w_F_init) B.pre
  have hq : ∀ w ∈ wT, w.before _ s = true := fun w h => hts w (List.mem_cons_of_mem _ h)
  have hown : s.vm.findClass R_F = some m.cls := findClass_of_methodNamed B.named
  have hlocks := B.notSynchronized
  have hin : meth.name = "<init>" := (name_of_methodNamed B.named B.method).1
  subst hsz
  have hw := pw_start hP hK hD0
  have hl := lv_entry ([.ref (ad (x))]) (n := 1) (Nat.le_of_ble_eq_true rfl)
  rw [lg_entry_eq]
  generalize (lg_sl ([.ref (ad (x))]) ++ List.replicate (1 - (lg_sl ([.ref (ad (x))])).length) Slot.unset).toArray = ls at hl ⊢
  have hl : lv_has ls 1 [(0, .ref (ad (x)))] := hl
  change W p l e ({ frames := 3, cells := 4, slots := 138, locals := 68 } : Room) s m ([.ref (ad (x))]).toArray below meth c s.heap [] 0 0 (MQ below (va_Qv (fun u : (Nat → Nat) × (Nat → va_E) => (∀ i, i < M → u.1 i = ad i) ∧ (fun u => u.2 x = oF u.1 x 0 ∧ Wv ty u.1 u.2 (x + 1) 67 0 ∧ Wv ty u.1 u.2 (x + 3) 67 1 ∧ ∀ y, y < x → u.2 y = F y) u) (fun u => pAt D classes (tysL ty) u.1 (M + 4) (pA ad M s.heap.size) u.2) (pA ad M s.heap.size)) ([.ref (ad (x))]).toArray s (4) (138) (pA ad M s.heap.size)) (F0 m 0 ls [])
  generalize hAr : (([.ref (ad (x))] : List Value)).toArray = args9 at *
  generalize hQ : MQ below (va_Qv (fun u : (Nat → Nat) × (Nat → va_E) => (∀ i, i < M → u.1 i = ad i) ∧ (fun u => u.2 x = oF u.1 x 0 ∧ Wv ty u.1 u.2 (x + 1) 67 0 ∧ Wv ty u.1 u.2 (x + 3) 67 1 ∧ ∀ y, y < x → u.2 y = F y) u) (fun u => pAt D classes (tysL ty) u.1 (M + 4) (pA ad M s.heap.size) u.2) (pA ad M s.heap.size)) args9 s (4) (138) (pA ad M s.heap.size) = Q
  obtain ⟨H, hH⟩ : ∃ H, H = s.heap := ⟨_, rfl⟩
  obtain ⟨locs, hlo⟩ : ∃ z : List Loc, z = [] := ⟨_, rfl⟩
  have hw : pw D classes (tysL ty) ad M F (pA ad M s.heap.size) s H locs := by rw [hH, hlo]; exact hw
  generalize hA9 : pA ad M s.heap.size = A9 at hw
  have hgo : W p l e ({ frames := 3, cells := 4, slots := 138, locals := 68 } : Room) s m args9 below meth c H locs 0 0 Q (F0 m 0 ls []) := by
    refine lv_aload_n hx hb d_F_init_0 rfl (lv_at hl 0 rfl) ?_
    refine W.objInit hx hb hown (hq _ ml_F_1) (hq _ im_obj) (hq _ m_obj) rfl (by rw [hml]; exact hl.1) rfl d_F_init_1 (Nat.le_of_ble_eq_true rfl) (Nat.le_of_ble_eq_true rfl) ?_
    refine W.eq (g2 := F0 m 4 ls []) rfl ?_
    refine lv_aload_n hx hb d_F_init_4 rfl (lv_at hl 0 rfl) ?_
    refine pw_new (ci := 0) (fs := [.null, .int (iI (0))]) (C := R_W) (T := T_W) (N := 2) hx hb hq i_W ft_W ft_W_ok hown (hq _ cl_F_7) (hq _ ia_W) (hq _ in_W) hw rfl (fun j hj => by rcases (show j = 0 ∨ j = 1 by omega) with rfl | rfl <;> rfl) (Nat.le_of_ble_eq_true rfl) (Nat.le_of_ble_eq_true rfl) d_F_init_5 (j := x + 1) (by omega) (fun ad M F5 H ead5 eM5 eF5 hw => ?_)
    have m5_x1 : F5 (x + 1) = .inr (0, [.null, .int (iI (0))]) := by rw [eF5]; exact va_up_self ..
    have hl : lv_has ls 1 [(0, .ref (ad (x)))] := by rw [ead5 (x) (by omega)]; exact hl
    rw [← ead5 (x) (by omega)]
    have h0_at_5 : F5 (x) = .inr (1, [.null, .null, .int (iI (0))]) := by exact (show F5 (x) = F (x) from by rw [eF5]; exact va_up_ne _ _ (by omega)).trans h0
    refine lv_dup hx hb d_F_init_8 rfl ?_
    refine wz_bipush (n := 67) hx hb d_F_init_9 (by decide) ?_
    refine pw_calln hw (va_runI (As := [.int (iI (67))]) (rest := [.ref (ad (x + 1)), .ref (ad (x))]) ⟨hx, hb, hml, hown, hq⟩ (c_W_init l D ty ad M F5 H.size (x + 1) 67 (by omega) (by omega) m5_x1) (cwI 1 hq (gT m_W_init) rfl rfl rfl (hq _ in_W) (hq _ ml_F_11) (hq _ im_W_init) rfl (by decide +kernel) ⟨Nat.le_of_ble_eq_true rfl, Nat.le_of_ble_eq_true rfl⟩) (pw_preS hw) rfl rfl hl.1 rfl (lv_room (Nat.le_of_ble_eq_true rfl)) d_F_init_11 ⟨Nat.le_of_ble_eq_true rfl, Nat.le_of_ble_eq_true rfl⟩) (fun ad M F11 H locs ead11 eM11 q11 hw => ?_)
    dsimp only at q11
    obtain ⟨w11_0, w11_1, hf11⟩ := q11
    have hl : lv_has ls 1 [(0, .ref (ad (x)))] := by rw [ead11 (x) (by omega)]; exact hl
    rw [← ead11 (x + 1) (by omega)]
    rw [← ead11 (x) (by omega)]
    have h0_at_11 : F11 (x) = .inr (1, [.null, .null, .int (iI (0))]) := by exact (hf11 (x) (by omega)).trans h0_at_5
    refine pw_putF (ci := 1) (C := R_F) (T := T_F) (N := 3) (ty := (.object "FractionDesk$Whole")) (fs' := [.ref (ad (x + 1)), .null, .int (iI (0))]) hx hb hq i_F ft_F ft_F_ok n_F hown hw (by omega) h0_at_11 rfl 0 (by decide) (hq _ fl_F_14) (fun _ h9 => h9) rfl hin rfl (by decide +kernel) rfl rfl (Nat.le_of_ble_eq_true rfl) rfl d_F_init_14 (fun F14 H locs eF14 hw => ?_)
    have m14_x : F14 (x) = .inr (1, [.ref (ad (x + 1)), .null, .int (iI (0))]) := by rw [eF14]; exact va_up_self ..
    have w11_0_at_14 : F14 (x + 1) = .inr (0, [.ref (ad (x + 1 + 1)), .int (iI (0))]) := (show F14 (x + 1) = F11 (x + 1) from by rw [eF14]; exact va_up_ne _ _ (by omega)).trans w11_0
    have w11_1_at_14 : F14 (x + 1 + 1) = .inl (ty 0, 67, .inl (fun _ => iI 0)) := (show F14 (x + 1 + 1) = F11 (x + 1 + 1) from by rw [eF14]; exact va_up_ne _ _ (by omega)).trans w11_1
    refine lv_aload_n hx hb d_F_init_17 rfl (lv_at hl 0 rfl) ?_
    refine pw_new (ci := 0) (fs := [.null, .int (iI (0))]) (C := R_W) (T := T_W) (N := 2) hx hb hq i_W ft_W ft_W_ok hown (hq _ cl_F_7) (hq _ ia_W) (hq _ in_W) hw rfl (fun j hj => by rcases (show j = 0 ∨ j = 1 by omega) with rfl | rfl <;> rfl) (Nat.le_of_ble_eq_true rfl) (Nat.le_of_ble_eq_true rfl) d_F_init_18 (j := x + 3) (by omega) (fun ad M F18 H ead18 eM18 eF18 hw => ?_)
    have m18_x3 : F18 (x + 3) = .inr (0, [.null, .int (iI (0))]) := by rw [eF18]; exact va_up_self ..
    have hl : lv_has ls 1 [(0, .ref (ad (x)))] := by rw [ead18 (x) (by omega)]; exact hl
    rw [← ead18 (x) (by omega)]
    have w11_0_at_18 : F18 (x + 1) = .inr (0, [.ref (ad (x + 1 + 1)), .int (iI (0))]) := by rw [ead18 (x + 1 + 1) (by omega)]; exact (show F18 (x + 1) = F14 (x + 1) from by rw [eF18]; exact va_up_ne _ _ (by omega)).trans w11_0_at_14
    have w11_1_at_18 : F18 (x + 1 + 1) = .inl (ty 0, 67, .inl (fun _ => iI 0)) := by exact (show F18 (x + 1 + 1) = F14 (x + 1 + 1) from by rw [eF18]; exact va_up_ne _ _ (by omega)).trans w11_1_at_14
    have m14_x_at_18 : F18 (x) = .inr (1, [.ref (ad (x + 1)), .null, .int (iI (0))]) := by rw [ead18 (x + 1) (by omega)]; exact (show F18 (x) = F14 (x) from by rw [eF18]; exact va_up_ne _ _ (by omega)).trans m14_x
    refine lv_dup hx hb d_F_init_21 rfl ?_
    refine wz_bipush (n := 67) hx hb d_F_init_22 (by decide) ?_
    refine pw_calln hw (va_runI (As := [.int (iI (67))]) (rest := [.ref (ad (x + 3)), .ref (ad (x))]) ⟨hx, hb, hml, hown, hq⟩ (c_W_init l D ty ad M F18 H.size (x + 3) 67 (by omega) (by omega) m18_x3) (cwI 1 hq (gT m_W_init) rfl rfl rfl (hq _ in_W) (hq _ ml_F_11) (hq _ im_W_init) rfl (by decide +kernel) ⟨Nat.le_of_ble_eq_true rfl, Nat.le_of_ble_eq_true rfl⟩) (pw_preS hw) rfl rfl hl.1 rfl (lv_room (Nat.le_of_ble_eq_true rfl)) d_F_init_24 ⟨Nat.le_of_ble_eq_true rfl, Nat.le_of_ble_eq_true rfl⟩) (fun ad M F24 H locs ead24 eM24 q24 hw => ?_)
    dsimp only at q24
    obtain ⟨w24_0, w24_1, hf24⟩ := q24
    have hl : lv_has ls 1 [(0, .ref (ad (x)))] := by rw [ead24 (x) (by omega)]; exact hl
    rw [← ead24 (x + 3) (by omega)]
    rw [← ead24 (x) (by omega)]
    have w11_0_at_24 : F24 (x + 1) = .inr (0, [.ref (ad (x + 1 + 1)), .int (iI (0))]) := by rw [ead24 (x + 1 + 1) (by omega)]; exact (hf24 (x + 1) (by omega)).trans w11_0_at_18
    have w11_1_at_24 : F24 (x + 1 + 1) = .inl (ty 0, 67, .inl (fun _ => iI 0)) := by exact (hf24 (x + 1 + 1) (by omega)).trans w11_1_at_18
    have m14_x_at_24 : F24 (x) = .inr (1, [.ref (ad (x + 1)), .null, .int (iI (0))]) := by rw [ead24 (x + 1) (by omega)]; exact (hf24 (x) (by omega)).trans m14_x_at_18
    refine pw_putF (ci := 1) (C := R_F) (T := T_F) (N := 3) (ty := (.object "FractionDesk$Whole")) (fs' := [.ref (ad (x + 1)), .ref (ad (x + 3)), .int (iI (0))]) hx hb hq i_F ft_F ft_F_ok n_F hown hw (by omega) m14_x_at_24 rfl 1 (by decide) (hq _ fl_F_18) (fun _ h9 => h9) rfl hin rfl (by decide +kernel) rfl rfl (Nat.le_of_ble_eq_true rfl) rfl d_F_init_27 (fun F27 H locs eF27 hw => ?_)
    have m27_x : F27 (x) = .inr (1, [.ref (ad (x + 1)), .ref (ad (x + 3)), .int (iI (0))]) := by rw [eF27]; exact va_up_self ..
    have w11_0_at_27 : F27 (x + 1) = .inr (0, [.ref (ad (x + 1 + 1)), .int (iI (0))]) := (show F27 (x + 1) = F24 (x + 1) from by rw [eF27]; exact va_up_ne _ _ (by omega)).trans w11_0_at_24
    have w11_1_at_27 : F27 (x + 1 + 1) = .inl (ty 0, 67, .inl (fun _ => iI 0)) := (show F27 (x + 1 + 1) = F24 (x + 1 + 1) from by rw [eF27]; exact va_up_ne _ _ (by omega)).trans w11_1_at_24
    have w24_0_at_27 : F27 (x + 3) = .inr (0, [.ref (ad (x + 3 + 1)), .int (iI (0))]) := (show F27 (x + 3) = F24 (x + 3) from by rw [eF27]; exact va_up_ne _ _ (by omega)).trans w24_0
    have w24_1_at_27 : F27 (x + 3 + 1) = .inl (ty 0, 67, .inl (fun _ => iI 0)) := (show F27 (x + 3 + 1) = F24 (x + 3 + 1) from by rw [eF27]; exact va_up_ne _ _ (by omega)).trans w24_1
    refine lv_aload_n hx hb d_F_init_30 rfl (lv_at hl 0 rfl) ?_
    refine pw_get (ci := 1) (C := R_F) (T := T_F) (N := 3) hx hb hq i_F hown hw (by omega) m27_x rfl 1 (by decide) (hq _ fl_F_18) (fun _ h9 => h9) rfl d_F_init_31 ?_
    refine lv_lconst (v := iL 1) hx hb d_F_init_34 (by decide) ?_
    refine pw_callv hw (va_runV (As := [.long (iL (1))]) (rest := []) ⟨hx, hb, hml, hown, hq⟩ (c_W_becomeLong l D ty ad M F27 H.size (x + 3) 67 1 (by omega) (by omega) (by omega) (by omega) ⟨0, fun _ => iI 0, w24_0_at_27, w24_1_at_27⟩) (cwV 1 hq (gV ml_F_21 im_W_becomeLong se_W_becomeLong in_W m_W_becomeLong) rfl rfl rfl (by decide +kernel) ⟨Nat.le_of_ble_eq_true rfl, Nat.le_of_ble_eq_true rfl⟩) (pw_preV hw (by omega) w24_0_at_27 rfl) rfl rfl hl.1 rfl (lv_room (Nat.le_of_ble_eq_true rfl)) d_F_init_35 ⟨Nat.le_of_ble_eq_true rfl, Nat.le_of_ble_eq_true rfl⟩) (fun F35 H locs q35 hw => ?_)
    obtain ⟨wx3, hf35⟩ := q35
    have w11_0_at_35 : F35 (x + 1) = .inr (0, [.ref (ad (x + 1 + 1)), .int (iI (0))]) := (hf35 (x + 1) (by omega) (by omega)).trans w11_0_at_27
    have w11_1_at_35 : F35 (x + 1 + 1) = .inl (ty 0, 67, .inl (fun _ => iI 0)) := (hf35 (x + 1 + 1) (by omega) (by omega)).trans w11_1_at_27
    have m27_x_at_35 : F35 (x) = .inr (1, [.ref (ad (x + 1)), .ref (ad (x + 3)), .int (iI (0))]) := (hf35 (x) (by omega) (by omega)).trans m27_x
    refine lv_aload_n hx hb d_F_init_38 rfl (lv_at hl 0 rfl) ?_
    refine wz_iconst (n := 0) hx hb d_F_init_39 ?_
    refine pw_put (ci := 1) (C := R_F) (T := T_F) (N := 3) (ty := .boolean) (fs' := [.ref (ad (x + 1)), .ref (ad (x + 3)), .int (iI (0))]) hx hb hq i_F ft_F ft_F_ok n_F hown hw (by omega) m27_x_at_35 rfl 2 (by decide) (hq _ fl_F_25) (fun _ h9 => h9) rfl (by decide +kernel) rfl rfl (Nat.le_of_ble_eq_true rfl) rfl d_F_init_40 (fun F40 H locs eF40 hw => ?_)
    have m40_x : F40 (x) = .inr (1, [.ref (ad (x + 1)), .ref (ad (x + 3)), .int (iI (0))]) := by rw [eF40]; exact va_up_self ..
    have w11_0_at_40 : F40 (x + 1) = .inr (0, [.ref (ad (x + 1 + 1)), .int (iI (0))]) := (show F40 (x + 1) = F35 (x + 1) from by rw [eF40]; exact va_up_ne _ _ (by omega)).trans w11_0_at_35
    have w11_1_at_40 : F40 (x + 1 + 1) = .inl (ty 0, 67, .inl (fun _ => iI 0)) := (show F40 (x + 1 + 1) = F35 (x + 1 + 1) from by rw [eF40]; exact va_up_ne _ _ (by omega)).trans w11_1_at_35
    have wx3_at_40 : Wv ty ad F40 (x + 3) 67 (1) := Wv.mv wx3 (show F40 (x + 3) = F35 (x + 3) from by rw [eF40]; exact va_up_ne _ _ (by omega)) (show F40 (x + 3 + 1) = F35 (x + 3 + 1) from by rw [eF40]; exact va_up_ne _ _ (by omega))
    rw [← hQ]
    rw [← hA9] at hw
    exact pw_nret hx hb hr hlocks hw (by omega) (fun i9 h9 => (ead24 i9 (by omega)).trans ((ead18 i9 (by omega)).trans ((ead11 i9 (by omega)).trans (ead5 i9 (by omega))))) (⟨m40_x, ⟨0, fun _ => iI 0, ⟨w11_0_at_40, w11_1_at_40⟩, Wok_0 ..⟩, wx3_at_40, fun y9 h9 => (show F40 (y9) = F35 (y9) from by rw [eF40]; exact va_up_ne _ _ (by omega)).trans ((hf35 (y9) (by omega) (by omega)).trans ((show F27 (y9) = F24 (y9) from by rw [eF27]; exact va_up_ne _ _ (by omega)).trans ((hf24 (y9) (by omega)).trans ((show F18 (y9) = F14 (y9) from by rw [eF18]; exact va_up_ne _ _ (by omega)).trans ((show F14 (y9) = F11 (y9) from by rw [eF14]; exact va_up_ne _ _ (by omega)).trans ((hf11 (y9) (by omega)).trans (show F5 (y9) = F (y9) from by rw [eF5]; exact va_up_ne _ _ (by omega))))))))⟩) d_F_init_43
  rw [hH, hlo] at hgo
  exact hgo
set_option maxHeartbeats 400000 in
set_option maxRecDepth 100000 in
/-- new Divisors() -/
theorem c_D_init (l : Launch) (D : va_G) (ty : Nat → ClassId) (ad : Nat → Nat) (M : Nat) (F : Nat → va_E) (sz : Nat) (d : Nat) (hM : M = d + 1) (h0 : F d = .inr (3, [.null, .long (iL 0), .long (iL 0), .long (iL 0), .long (iL 0)])) :
    CN l y_D_init w_D_init ({ frames := 2, cells := 2, slots := 138, locals := 45 } : Room) [.ref (ad (d))] D ty ad M F sz 2 (2) (138) (fun u => u.2 d = .inr (3, [.ref (u.1 (d + 1)), .long (iL 0), .long (iL 0), .long (iL 0), .long (iL 0)]) ∧ Wa ty u.1 u.2 (d + 1) 136 ∧ ∀ y, y < d → u.2 y = F y) := by
  refine Met.ofW (cc := b_D_init) (maxL := 1) (ret := none) (by decide) rfl ?_
  intro p e s m args below meth c s₁ B hml hv
  obtain ⟨rfl, hsz, hP, hK, hD0⟩ := hv
  have hx := B.exec
  have hb := B.bytes
  have hr := B.returns
  have hts := atoms_spec (ws := w_D_init) B.pre
  have hq : ∀ w ∈ wT, w.before _ s = true := fun w h => hts w (List.mem_cons_of_mem _ h)
  have hown : s.vm.findClass R_D = some m.cls := findClass_of_methodNamed B.named
  have hlocks := B.notSynchronized
  have hin : meth.name = "<init>" := (name_of_methodNamed B.named B.method).1
  subst hsz
  have hw := pw_start hP hK hD0
  have hl := lv_entry ([.ref (ad (d))]) (n := 1) (Nat.le_of_ble_eq_true rfl)
  rw [lg_entry_eq]
  generalize (lg_sl ([.ref (ad (d))]) ++ List.replicate (1 - (lg_sl ([.ref (ad (d))])).length) Slot.unset).toArray = ls at hl ⊢
  have hl : lv_has ls 1 [(0, .ref (ad (d)))] := hl
  change W p l e ({ frames := 2, cells := 2, slots := 138, locals := 45 } : Room) s m ([.ref (ad (d))]).toArray below meth c s.heap [] 0 0 (MQ below (va_Qv (fun u : (Nat → Nat) × (Nat → va_E) => (∀ i, i < M → u.1 i = ad i) ∧ (fun u => u.2 d = .inr (3, [.ref (u.1 (d + 1)), .long (iL 0), .long (iL 0), .long (iL 0), .long (iL 0)]) ∧ Wa ty u.1 u.2 (d + 1) 136 ∧ ∀ y, y < d → u.2 y = F y) u) (fun u => pAt D classes (tysL ty) u.1 (M + 2) (pA ad M s.heap.size) u.2) (pA ad M s.heap.size)) ([.ref (ad (d))]).toArray s (2) (138) (pA ad M s.heap.size)) (F0 m 0 ls [])
  generalize hAr : (([.ref (ad (d))] : List Value)).toArray = args9 at *
  generalize hQ : MQ below (va_Qv (fun u : (Nat → Nat) × (Nat → va_E) => (∀ i, i < M → u.1 i = ad i) ∧ (fun u => u.2 d = .inr (3, [.ref (u.1 (d + 1)), .long (iL 0), .long (iL 0), .long (iL 0), .long (iL 0)]) ∧ Wa ty u.1 u.2 (d + 1) 136 ∧ ∀ y, y < d → u.2 y = F y) u) (fun u => pAt D classes (tysL ty) u.1 (M + 2) (pA ad M s.heap.size) u.2) (pA ad M s.heap.size)) args9 s (2) (138) (pA ad M s.heap.size) = Q
  obtain ⟨H, hH⟩ : ∃ H, H = s.heap := ⟨_, rfl⟩
  obtain ⟨locs, hlo⟩ : ∃ z : List Loc, z = [] := ⟨_, rfl⟩
  have hw : pw D classes (tysL ty) ad M F (pA ad M s.heap.size) s H locs := by rw [hH, hlo]; exact hw
  generalize hA9 : pA ad M s.heap.size = A9 at hw
  have hgo : W p l e ({ frames := 2, cells := 2, slots := 138, locals := 45 } : Room) s m args9 below meth c H locs 0 0 Q (F0 m 0 ls []) := by
    refine lv_aload_n hx hb d_D_init_0 rfl (lv_at hl 0 rfl) ?_
    refine W.objInit hx hb hown (hq _ ml_D_3) (hq _ im_obj) (hq _ m_obj) rfl (by rw [hml]; exact hl.1) rfl d_D_init_1 (Nat.le_of_ble_eq_true rfl) (Nat.le_of_ble_eq_true rfl) ?_
    refine W.eq (g2 := F0 m 4 ls []) rfl ?_
    refine lv_aload_n hx hb d_D_init_4 rfl (lv_at hl 0 rfl) ?_
    refine pw_new (ci := 0) (fs := [.null, .int (iI (0))]) (C := R_W) (T := T_W) (N := 2) hx hb hq i_W ft_W ft_W_ok hown (hq _ cl_D_1) (hq _ ia_W) (hq _ in_W) hw rfl (fun j hj => by rcases (show j = 0 ∨ j = 1 by omega) with rfl | rfl <;> rfl) (Nat.le_of_ble_eq_true rfl) (Nat.le_of_ble_eq_true rfl) d_D_init_5 (j := d + 1) (by omega) (fun ad M F5 H ead5 eM5 eF5 hw => ?_)
    have m5_d1 : F5 (d + 1) = .inr (0, [.null, .int (iI (0))]) := by rw [eF5]; exact va_up_self ..
    have hl : lv_has ls 1 [(0, .ref (ad (d)))] := by rw [ead5 (d) (by omega)]; exact hl
    rw [← ead5 (d) (by omega)]
    have h0_at_5 : F5 (d) = .inr (3, [.null, .long (iL (0)), .long (iL (0)), .long (iL (0)), .long (iL (0))]) := by exact (show F5 (d) = F (d) from by rw [eF5]; exact va_up_ne _ _ (by omega)).trans h0
    refine lv_dup hx hb d_D_init_8 rfl ?_
    refine wz_sipush (n := 136) hx hb d_D_init_9 (by decide) ?_
    refine pw_calln hw (va_runI (As := [.int (iI (136))]) (rest := [.ref (ad (d + 1)), .ref (ad (d))]) ⟨hx, hb, hml, hown, hq⟩ (c_W_init l D ty ad M F5 H.size (d + 1) 136 (by omega) (by omega) m5_d1) (cwI 1 hq (gT m_W_init) rfl rfl rfl (hq _ in_W) (hq _ ml_D_11) (hq _ im_W_init) rfl (by decide +kernel) ⟨Nat.le_of_ble_eq_true rfl, Nat.le_of_ble_eq_true rfl⟩) (pw_preS hw) rfl rfl hl.1 rfl (lv_room (Nat.le_of_ble_eq_true rfl)) d_D_init_12 ⟨Nat.le_of_ble_eq_true rfl, Nat.le_of_ble_eq_true rfl⟩) (fun ad M F12 H locs ead12 eM12 q12 hw => ?_)
    dsimp only at q12
    obtain ⟨w12_0, w12_1, hf12⟩ := q12
    have hl : lv_has ls 1 [(0, .ref (ad (d)))] := by rw [ead12 (d) (by omega)]; exact hl
    rw [← ead12 (d + 1) (by omega)]
    rw [← ead12 (d) (by omega)]
    have h0_at_12 : F12 (d) = .inr (3, [.null, .long (iL (0)), .long (iL (0)), .long (iL (0)), .long (iL (0))]) := by exact (hf12 (d) (by omega)).trans h0_at_5
    refine pw_putF (ci := 3) (C := R_D) (T := T_D) (N := 5) (ty := (.object "FractionDesk$Whole")) (fs' := [.ref (ad (d + 1)), .long (iL (0)), .long (iL (0)), .long (iL (0)), .long (iL (0))]) hx hb hq i_D ft_D ft_D_ok n_D hown hw (by omega) h0_at_12 rfl 0 (by decide) (hq _ fl_D_14) (fun _ h9 => h9) rfl hin rfl (by decide +kernel) rfl rfl (Nat.le_of_ble_eq_true rfl) rfl d_D_init_15 (fun F15 H locs eF15 hw => ?_)
    have m15_d : F15 (d) = .inr (3, [.ref (ad (d + 1)), .long (iL (0)), .long (iL (0)), .long (iL (0)), .long (iL (0))]) := by rw [eF15]; exact va_up_self ..
    have w12_0_at_15 : F15 (d + 1) = .inr (0, [.ref (ad (d + 1 + 1)), .int (iI (0))]) := (show F15 (d + 1) = F12 (d + 1) from by rw [eF15]; exact va_up_ne _ _ (by omega)).trans w12_0
    have w12_1_at_15 : F15 (d + 1 + 1) = .inl (ty 0, 136, .inl (fun _ => iI 0)) := (show F15 (d + 1 + 1) = F12 (d + 1 + 1) from by rw [eF15]; exact va_up_ne _ _ (by omega)).trans w12_1
    rw [← hQ]
    rw [← hA9] at hw
    exact pw_nret hx hb hr hlocks hw (by omega) (fun i9 h9 => (ead12 i9 (by omega)).trans (ead5 i9 (by omega))) (⟨m15_d, ⟨0, fun _ => iI 0, w12_0_at_15, w12_1_at_15⟩, fun y9 h9 => (show F15 (y9) = F12 (y9) from by rw [eF15]; exact va_up_ne _ _ (by omega)).trans ((hf12 (y9) (by omega)).trans (show F5 (y9) = F (y9) from by rw [eF5]; exact va_up_ne _ _ (by omega)))⟩) d_D_init_18
  rw [hH, hlo] at hgo
  exact hgo
