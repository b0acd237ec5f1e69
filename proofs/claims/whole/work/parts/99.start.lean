/-! the law's start: by program -/
set_option maxHeartbeats 4000000 in
set_option maxRecDepth 100000 in
/-- from the entry, for every script of at most 3072 ints, the law comes to its end with true -/
theorem whole_start {p : Program} {e : Env} {s : State} {m : MethodId} {below : List Frame} {meth : Method} {c : Code} (l : Launch) (hl0 : l.stackTraces = false) {b L : Nat} {xs : Nat → Int32} (hL : L ≤ 3072) (C0 : lw_At p s m meth c b L xs) : W p l e room_1 s m #[Value.ref b] below meth c s.heap [] 0 0 (lw_Z below #[Value.ref b] s) (entryFrame m ([Value.ref b] : List Value).toArray 8) := by
  obtain ⟨hx, hb, hr, hml, hown, hts, hX, hbl, hlocks, hgv⟩ := C0
  have hown : s.vm.findClass R_L = some m.cls := hown
  have hq : ∀ w ∈ wT, w.before #[Value.ref b] s = true := fun w h => hts w (List.mem_filter.mp h).1
  have hAO : va_AO R_F s := va_AO.of (hts _ ao_F)
  obtain ⟨c0, iS0, hKn0⟩ := u_known (C := R_W) (T := T_W) (N := 2) (n := 2) hq i_W (hq _ ia_W)
  obtain ⟨c1, iS1, hKn1⟩ := u_known (C := R_F) (T := T_F) (N := 3) (n := 3) hq i_F (hq _ ia_F)
  obtain ⟨c2, iS2, hKn2⟩ := u_known (C := R_T) (T := T_T) (N := 2) (n := 2) hq i_T (hq _ ia_T)
  obtain ⟨c3, iS3, hKn3⟩ := u_known (C := R_D) (T := T_D) (N := 5) (n := 5) hq i_D (hq _ ia_D)
  obtain ⟨c4, iS4, hKn4⟩ := u_known (C := R_B) (T := T_B) (N := 7) (n := 7) hq i_B (hq _ ia_B)
  obtain ⟨c5, iS5, hKn5⟩ := u_known (C := R_K) (T := T_K) (N := 4) (n := 4) hq i_K (hq _ ia_K)
  obtain ⟨c6, iS6, hKn6⟩ := u_known (C := R_M) (T := T_M) (N := 8) (n := 8) hq i_M (hq _ ia_M)
  obtain ⟨D, hKc⟩ : ∃ D : va_G, ∀ (k : Nat) (q : vw_C), classes[k]? = some q → u_Kn s q.1 q.2.1 q.2.2 (D.1 k) (D.2 k) := by
    refine ⟨(fun k => if k = 0 then c0 else if k = 1 then c1 else if k = 2 then c2 else if k = 3 then c3 else if k = 4 then c4 else if k = 5 then c5 else c6, fun k => if k = 0 then iS0 else if k = 1 then iS1 else if k = 2 then iS2 else if k = 3 then iS3 else if k = 4 then iS4 else if k = 5 then iS5 else iS6), ?_⟩
    intro k q hq9
    match k, hq9 with
    | 0, hq9 => cases hq9; exact hKn0
    | 1, hq9 => cases hq9; exact hKn1
    | 2, hq9 => cases hq9; exact hKn2
    | 3, hq9 => cases hq9; exact hKn3
    | 4, hq9 => cases hq9; exact hKn4
    | 5, hq9 => cases hq9; exact hKn5
    | 6, hq9 => cases hq9; exact hKn6
    | k + 7, hq9 => simp [classes] at hq9
  obtain ⟨t0, hT0⟩ := k_int (hq _ ac_int)
  obtain ⟨t1, hT1⟩ := k_char (hq _ ac_char)
  obtain ⟨t2, hT2⟩ := k_obj (hts _ ao_F)
  obtain ⟨t3, hT3⟩ := k_long (hq _ ac_long)
  obtain ⟨t4, hT4⟩ := k_boolean (hq _ ac_boolean)
  obtain ⟨ty, hty⟩ : ∃ ty : Nat → ClassId, ty 0 = t0 ∧ ty 1 = t1 ∧ ty 2 = t2 ∧ ty 3 = t3 ∧ ty 4 = t4 := ⟨fun k => if k = 0 then t0 else if k = 1 then t1 else if k = 2 then t2 else if k = 3 then t3 else t4, rfl, rfl, rfl, rfl, rfl⟩
  obtain ⟨rfl, rfl, rfl, rfl, rfl⟩ := hty
  have hK : va_K D classes (tysL ty) s := by
    refine ⟨hKc, fun k q hq9 => ?_⟩
    match k, hq9 with
    | 0, hq9 => cases hq9; exact hT0
    | 1, hq9 => cases hq9; exact hT1
    | 2, hq9 => cases hq9; exact hT2
    | 3, hq9 => cases hq9; exact hT3
    | 4, hq9 => cases hq9; exact hT4
    | k + 5, hq9 => simp [tysL] at hq9
  obtain ⟨ad, -⟩ : ∃ ad : Nat → Nat, ad = ad := ⟨fun _ => 0, rfl⟩
  obtain ⟨M, hM⟩ : ∃ M : Nat, M = 0 := ⟨_, rfl⟩
  obtain ⟨F, -⟩ : ∃ F : Nat → va_E, F = F := ⟨fun _ => .inr (0, []), rfl⟩
  obtain ⟨H, hH⟩ : ∃ H, H = s.heap := ⟨_, rfl⟩
  obtain ⟨locs, hlo⟩ : ∃ z : List Loc, z = [] := ⟨_, rfl⟩
  have hw : pw D classes (tysL ty) ad M F (fun q => s.heap.size ≤ q) s H locs := by
    rw [hH, hlo, hM]
    exact ⟨hK, fun k q h9 => by simp [pool] at h9, ⟨fun i j p q h9 => by simp [pool] at h9, fun k q h9 => by simp [pool] at h9⟩, va_S.rf, fun _ h9 => h9⟩
  have hl := lv_entry ([.ref b]) (n := 8) (Nat.le_of_ble_eq_true rfl)
  rw [lg_entry_eq]
  generalize (lg_sl ([.ref b]) ++ List.replicate (8 - (lg_sl ([.ref b])).length) Slot.unset).toArray = ls at hl ⊢
  have hl : lv_has ls 8 [(0, .ref (b))] := hl
  have hgo : W p l e room_1 s m #[Value.ref b] below meth c H locs 0 0 (lw_Z below #[Value.ref b] s) (F0 m 0 ls []) := by
    refine pw_new (ci := 5) (fs := [.null, .null, .null, .int (iI (0))]) (C := R_K) (T := T_K) (N := 4) hx hb hq i_K ft_K ft_K_ok hown (hq _ cl_L_8) (hq _ ia_K) (hq _ in_K) hw rfl (fun j hj => by rcases (show j = 0 ∨ j = 1 ∨ j = 2 ∨ j = 3 by omega) with rfl | rfl | rfl | rfl <;> rfl) (Nat.le_of_ble_eq_true rfl) (Nat.le_of_ble_eq_true rfl) d_L_law_0 (j := 0) (by omega) (fun ad M F0 H ead0 eM0 eF0 hw => ?_)
    have m0_0 : F0 (0) = .inr (5, [.null, .null, .null, .int (iI (0))]) := by rw [eF0]; exact va_up_self ..
    have hl : lv_has ls 8 [(0, .ref (b))] := by exact hl
    refine lv_dup hx hb d_L_law_3 rfl ?_
    refine pw_calln hw (va_runI (As := []) (rest := [.ref (ad (0))]) ⟨hx, hb, hml, hown, hq⟩ (c_K_init l D ty ad M F0 H.size (by omega) m0_0) (cwI 0 hq (gT m_K_init) rfl rfl rfl (hq _ in_K) (hq _ ml_L_49) (hq _ im_K_init) rfl (by decide +kernel) ⟨Nat.le_of_ble_eq_true rfl, Nat.le_of_ble_eq_true rfl⟩) (pw_preSq hw hAO) rfl rfl hl.1 rfl (lv_room (Nat.le_of_ble_eq_true rfl)) d_L_law_4 ⟨Nat.le_of_ble_eq_true rfl, Nat.le_of_ble_eq_true rfl⟩) (fun ad M F4 H locs ead4 eM4 q4 hw => ?_)
    dsimp only at q4
    have hDk := q4
    have hl : lv_has ls 8 [(0, .ref (b))] := by exact hl
    rw [← ead4 (0) (by omega)]
    refine lv_astore_n (lv' := [(1, .ref (ad (0))), (0, .ref (b))]) hx hb d_L_law_7 rfl hl (by decide) rfl (fun ls hl => ?_)
    refine pw_new (ci := 6) (fs := [.int (iI (0)), .null, .null, .null, .null, .int (iI (0)), .int (iI (0)), .null]) (C := R_M) (T := T_M) (N := 8) hx hb hq i_M ft_M ft_M_ok hown (hq _ cl_L_50) (hq _ ia_M) (hq _ in_M) hw rfl (fun j hj => by rcases (show j = 0 ∨ j = 1 ∨ j = 2 ∨ j = 3 ∨ j = 4 ∨ j = 5 ∨ j = 6 ∨ j = 7 by omega) with rfl | rfl | rfl | rfl | rfl | rfl | rfl | rfl <;> rfl) (Nat.le_of_ble_eq_true rfl) (Nat.le_of_ble_eq_true rfl) d_L_law_8 (j := 98) (by omega) (fun ad M F8 H ead8 eM8 eF8 hw => ?_)
    have m8_98 : F8 (98) = .inr (6, [.int (iI (0)), .null, .null, .null, .null, .int (iI (0)), .int (iI (0)), .null]) := by rw [eF8]; exact va_up_self ..
    have hl : lv_has ls 8 [(1, .ref (ad (0))), (0, .ref (b))] := by rw [ead8 (0) (by omega)]; exact hl
    have hDk_at_8 : Dk ty ad F8 (g0) := hDk.ad (fun y8 h8 => show F8 (y8) = F4 (y8) from by rw [eF8]; exact va_up_ne _ _ (by omega)) (fun y8 h8 => ead8 y8 (by omega))
    refine lv_dup hx hb d_L_law_11 rfl ?_
    refine pw_calln hw (va_runI (As := []) (rest := [.ref (ad (98))]) ⟨hx, hb, hml, hown, hq⟩ (c_M_init l D ty ad M F8 H.size (by omega) m8_98) (cwI 0 hq (gT m_M_init) rfl rfl rfl (hq _ in_M) (hq _ ml_L_52) (hq _ im_M_init) rfl (by decide +kernel) ⟨Nat.le_of_ble_eq_true rfl, Nat.le_of_ble_eq_true rfl⟩) (pw_preS hw) rfl rfl hl.1 rfl (lv_room (Nat.le_of_ble_eq_true rfl)) d_L_law_12 ⟨Nat.le_of_ble_eq_true rfl, Nat.le_of_ble_eq_true rfl⟩) (fun ad M F12 H locs ead12 eM12 q12 hw => ?_)
    dsimp only at q12
    obtain ⟨hMo, hf12⟩ := q12
    have hl : lv_has ls 8 [(1, .ref (ad (0))), (0, .ref (b))] := by rw [ead12 (0) (by omega)]; exact hl
    rw [← ead12 (98) (by omega)]
    have hDk_at_12 : Dk ty ad F12 (g0) := hDk_at_8.ad (fun y8 h8 => hf12 (y8) (by omega)) (fun y8 h8 => ead12 y8 (by omega))
    refine lv_astore_n (lv' := [(2, .ref (ad (98))), (1, .ref (ad (0))), (0, .ref (b))]) hx hb d_L_law_15 rfl hl (by decide) rfl (fun ls hl => ?_)
    refine wz_iconst (n := 1) hx hb d_L_law_16 ?_
    refine pw_newa (atype := .long) (a0 := (1, .inr (.inl (fun _ => iL 0)))) (N' := 1) hx hb (hq _ ac_long) rfl hw (k := 3) rfl (fun _ h9 => by cases h9) (fun _ h9 => by cases h9) (fun _ => rfl) (iI_nn (by omega) (by omega)) (by decide) (Nat.le_of_ble_eq_true rfl) (Nat.le_of_ble_eq_true rfl) (Nat.le_of_ble_eq_true rfl) d_L_law_17 (j := 104) (by omega) (fun ad M F17 H ead17 eM17 eF17 hw => ?_)
    have m17_104 : F17 (104) = .inl (ty 3, 1, .inr (.inl (fun _ => iL 0))) := by rw [eF17]; exact va_up_self ..
    have hl : lv_has ls 8 [(2, .ref (ad (98))), (1, .ref (ad (0))), (0, .ref (b))] := by rw [ead17 (98) (by omega), ead17 (0) (by omega)]; exact hl
    have hDk_at_17 : Dk ty ad F17 (g0) := hDk_at_12.ad (fun y8 h8 => show F17 (y8) = F12 (y8) from by rw [eF17]; exact va_up_ne _ _ (by omega)) (fun y8 h8 => ead17 y8 (by omega))
    have hMo_at_17 : Mo ty ad F17 (0) (g0) := hMo.ad (fun y8 h7 h8 => show F17 (y8) = F12 (y8) from by rw [eF17]; exact va_up_ne _ _ (by omega)) (fun y8 h7 h8 => ead17 y8 (by omega))
    refine lv_astore_n (lv' := [(3, .ref (ad (104))), (2, .ref (ad (98))), (1, .ref (ad (0))), (0, .ref (b))]) hx hb d_L_law_19 rfl hl (by decide) rfl (fun ls hl => ?_)
    refine wz_iconst (n := 0) hx hb d_L_law_20 ?_
    refine lv_istore (lv' := [(4, .int (iI (0))), (3, .ref (ad (104))), (2, .ref (ad (98))), (1, .ref (ad (0))), (0, .ref (b))]) hx hb d_L_law_21 hl (by decide) rfl (fun ls hl => ?_)
    have hA : ∀ q, pA ad M s.heap.size q → s.heap.size ≤ q := by
      intro q hq9
      rcases hq9 with ⟨i, hi, rfl⟩ | hq9
      · exact (pool_D.mp hw.2.2.1).2 i hi
      · exact hq9
    exact law_loop (by omega) hl0 hL hx hb hr hml hown hq hX hbl hlocks hA (mk_xk hts hgv hA) (mk_Nc hgv) _ _ 0 g0 0 _ _ _ _ ls (by omega) (by omega) (by omega) g0_ok hDk_at_17 hMo_at_17 m17_104 (pw_toA hw) (lv_sub hl [4, 3, 2, 1, 0] rfl)
  rw [hH, hlo] at hgo
  exact hgo
