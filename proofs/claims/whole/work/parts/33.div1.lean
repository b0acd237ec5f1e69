/-! Divisors: highest, findLeap: by program -/
set_option maxHeartbeats 4000000 in
set_option maxRecDepth 100000 in
/-- Divisors.highest(number, size, shift) -/
theorem c_D_highest (l : Launch) (D : va_G) (ty : Nat → ClassId) (ad : Nat → Nat) (M : Nat) (F : Nat → va_E) (sz : Nat) (w N n sz0 s0 : Nat) (g : Nat → Int32) (hM : w + 1 < M) (hN : N < 1000) (hn : n ≤ N) (hd : ∀ i, i < n → dl g i < 2147483648) (hsz0 : sz0 < 1000) (hs : s0 ≤ 30) (hO_w : F (w) = .inr (0, [.ref (ad (w + 1)), .int (iI ((n : Int)))])) (hA_w : F (w + 1) = .inl (ty 0, N, .inl (g))) :
    CJ l y_D_highest w_D_highest ({ frames := 2, cells := 0, slots := 0, locals := 45 } : Room) [.ref (ad (w)), .int (iI ((sz0 : Int))), .int (iI ((s0 : Int)))] D ty ad M F sz (fun r F1 => r = iL ((xl (bv 2147483648 (dl g) n * 2 ^ s0) ((sz0 : Int) - 1) * 2 ^ 31 + xl (bv 2147483648 (dl g) n * 2 ^ s0) ((sz0 : Int) - 2) : Nat) : Int) ∧ F1 = F) := by
  refine Met.ofW (cc := b_D_highest) (maxL := 3) (ret := (some .long)) (by decide) rfl ?_
  intro p e s m args below meth c s₁ B hml hv
  obtain ⟨rfl, hsz, hP, hK, hD0⟩ := hv
  have hx := B.exec
  have hb := B.bytes
  have hr := B.returns
  have hts := atoms_spec (ws := w_D_highest) B.pre
  have hq : ∀ w ∈ wT, w.before _ s = true := fun w h => hts w (List.mem_cons_of_mem _ h)
  have hown : s.vm.findClass R_D = some m.cls := findClass_of_methodNamed B.named
  have hlocks := B.notSynchronized
  subst hsz
  have hw := pw_start hP hK hD0
  have hl := lv_entry ([.ref (ad (w)), .int (iI ((sz0 : Int))), .int (iI ((s0 : Int)))]) (n := 3) (Nat.le_of_ble_eq_true rfl)
  rw [lg_entry_eq]
  generalize (lg_sl ([.ref (ad (w)), .int (iI ((sz0 : Int))), .int (iI ((s0 : Int)))]) ++ List.replicate (3 - (lg_sl ([.ref (ad (w)), .int (iI ((sz0 : Int))), .int (iI ((s0 : Int)))])).length) Slot.unset).toArray = ls at hl ⊢
  have hl : lv_has ls 3 [(0, .ref (ad (w))), (1, .int (iI ((sz0 : Int)))), (2, .int (iI ((s0 : Int))))] := hl
  change W p l e ({ frames := 2, cells := 0, slots := 0, locals := 45 } : Room) s m ([.ref (ad (w)), .int (iI ((sz0 : Int))), .int (iI ((s0 : Int)))]).toArray below meth c s.heap [] 0 0 (MQ below (va_Ql (fun r F1 => r = iL ((xl (bv 2147483648 (dl g) n * 2 ^ s0) ((sz0 : Int) - 1) * 2 ^ 31 + xl (bv 2147483648 (dl g) n * 2 ^ s0) ((sz0 : Int) - 2) : Nat) : Int) ∧ F1 = F) (pAt D classes (tysL ty) ad M (pA ad M s.heap.size)) (pA ad M s.heap.size)) ([.ref (ad (w)), .int (iI ((sz0 : Int))), .int (iI ((s0 : Int)))]).toArray s 0 0 (pA ad M s.heap.size)) (F0 m 0 ls [])
  generalize hQ : MQ below (va_Ql (fun r F1 => r = iL ((xl (bv 2147483648 (dl g) n * 2 ^ s0) ((sz0 : Int) - 1) * 2 ^ 31 + xl (bv 2147483648 (dl g) n * 2 ^ s0) ((sz0 : Int) - 2) : Nat) : Int) ∧ F1 = F) (pAt D classes (tysL ty) ad M (pA ad M s.heap.size)) (pA ad M s.heap.size)) ([.ref (ad (w)), .int (iI ((sz0 : Int))), .int (iI ((s0 : Int)))]).toArray s 0 0 (pA ad M s.heap.size) = Q
  obtain ⟨H, hH⟩ : ∃ H, H = s.heap := ⟨_, rfl⟩
  obtain ⟨locs, hlo⟩ : ∃ z : List Loc, z = [] := ⟨_, rfl⟩
  have hw : pw D classes (tysL ty) ad M F (pA ad M s.heap.size) s H locs := by rw [hH, hlo]; exact hw
  have hgo : W p l e ({ frames := 2, cells := 0, slots := 0, locals := 45 } : Room) s m ([.ref (ad (w)), .int (iI ((sz0 : Int))), .int (iI ((s0 : Int)))]).toArray below meth c H locs 0 0 Q (F0 m 0 ls []) := by
    refine lv_aload_n hx hb d_D_highest_0 rfl (lv_at hl 0 rfl) ?_
    refine lv_iload_n hx hb d_D_highest_1 rfl (lv_at hl 1 rfl) ?_
    refine wz_iconst (n := 1) hx hb d_D_highest_2 ?_
    refine wz_isub hx hb d_D_highest_3 rfl ?_
    refine lv_iload_n hx hb d_D_highest_4 rfl (lv_at hl 2 rfl) ?_
    refine pw_calll hw (va_runV (As := [.int (iI ((sz0 : Int) - 1)), .int (iI ((s0 : Int)))]) (rest := []) ⟨hx, hb, hml, hown, hq⟩ (c_W_shiftedLimb l D ty ad M F H.size w N n g ((sz0 : Int) - 1) s0 hM hN hn hd (by omega) hs hO_w hA_w) (cwV 2 hq (gV ml_D_77 im_W_shiftedLimb se_W_shiftedLimb in_W m_W_shiftedLimb) rfl rfl rfl (by decide +kernel) ⟨Nat.le_of_ble_eq_true rfl, Nat.le_of_ble_eq_true rfl⟩) (pw_preV hw (by omega) hO_w rfl) rfl rfl hl.1 rfl (lv_room (Nat.le_of_ble_eq_true rfl)) d_D_highest_5 ⟨Nat.le_of_ble_eq_true rfl, Nat.le_of_ble_eq_true rfl⟩) (fun r5 F5 H locs q5 hw => ?_)
    obtain ⟨er5, eF5⟩ := q5
    rw [eF5] at hw
    clear eF5
    rw [lmz_xl hd, lmz_xl hd, xl_sh hs] at er5
    obtain ⟨u1, hu1⟩ : ∃ z : Nat, z = xl (bv 2147483648 (dl g) n * 2 ^ s0) ((sz0 : Int) - 1) := ⟨_, rfl⟩
    rw [← hu1] at er5
    subst er5
    have lu1 : u1 < 2147483648 := by rw [hu1]; exact xl_lt _ _
    refine wz_bipush (n := 31) hx hb d_D_highest_8 (by decide) ?_
    refine lv_lshl (v := iL (((u1 * 2 ^ 31 : Nat) : Int))) hx hb d_D_highest_10 (iL_shl (k := 31) (by decide)) ?_
    refine lv_aload_n hx hb d_D_highest_11 rfl (lv_at hl 0 rfl) ?_
    refine lv_iload_n hx hb d_D_highest_12 rfl (lv_at hl 1 rfl) ?_
    refine wz_iconst (n := 2) hx hb d_D_highest_13 ?_
    refine wz_isub hx hb d_D_highest_14 rfl ?_
    refine lv_iload_n hx hb d_D_highest_15 rfl (lv_at hl 2 rfl) ?_
    refine pw_calll hw (va_runV (As := [.int (iI ((sz0 : Int) - 2)), .int (iI ((s0 : Int)))]) (rest := [.long (iL (((u1 * 2 ^ 31 : Nat) : Int)))]) ⟨hx, hb, hml, hown, hq⟩ (c_W_shiftedLimb l D ty ad M F H.size w N n g ((sz0 : Int) - 2) s0 hM hN hn hd (by omega) hs hO_w hA_w) (cwV 2 hq (gV ml_D_77 im_W_shiftedLimb se_W_shiftedLimb in_W m_W_shiftedLimb) rfl rfl rfl (by decide +kernel) ⟨Nat.le_of_ble_eq_true rfl, Nat.le_of_ble_eq_true rfl⟩) (pw_preV hw (by omega) hO_w rfl) rfl rfl hl.1 rfl (lv_room (Nat.le_of_ble_eq_true rfl)) d_D_highest_16 ⟨Nat.le_of_ble_eq_true rfl, Nat.le_of_ble_eq_true rfl⟩) (fun r16 F16 H locs q16 hw => ?_)
    obtain ⟨er16, eF16⟩ := q16
    rw [eF16] at hw
    clear eF16
    rw [lmz_xl hd, lmz_xl hd, xl_sh hs] at er16
    obtain ⟨u2, hu2⟩ : ∃ z : Nat, z = xl (bv 2147483648 (dl g) n * 2 ^ s0) ((sz0 : Int) - 2) := ⟨_, rfl⟩
    rw [← hu2] at er16
    subst er16
    have lu2 : u2 < 2147483648 := by rw [hu2]; exact xl_lt _ _
    refine lv_lor hx hb d_D_highest_19 ?_
    refine lv_topl (fun x19 ex19 => ?_)
    obtain rfl : x19 = iL (((u1 * 2 ^ 31 + u2 : Nat) : Int)) := ex19.trans (iL_or (k := 31) lu2 (by omega))
    rw [← hQ]
    exact pw_lret hx hb hr hlocks hw (⟨by rw [hu1, hu2], rfl⟩) d_D_highest_20
  rw [hH, hlo] at hgo
  exact hgo
set_option maxHeartbeats 4000000 in
set_option maxRecDepth 100000 in
/-- Divisors.findLeap(x, y) -/
theorem c_D_findLeap (l : Launch) (D : va_G) (ty : Nat → ClassId) (ad : Nat → Nat) (M : Nat) (F : Nat → va_E) (sz : Nat) (o a b Na Nb x y : Nat) (hMo : o + 2 < M) (hMa : a + 1 < M) (hMb : b + 1 < M) (hNa : Na < 1000) (hNb : Nb < 1000) (hoa : a ≠ o ∧ a + 1 ≠ o) (hob : b ≠ o ∧ b + 1 ≠ o) (hx0 : 0 < x) (hyx : y ≤ x) (f0 g0 h0 k0 : Int64) (hO_o : F (o) = .inr (3, [.ref (ad (o + 1)), .long (f0), .long (g0), .long (h0), .long (k0)])) (ha : Wv ty ad F a Na x) (hb0 : Wv ty ad F b Nb y) :
    CI l y_D_findLeap w_D_findLeap ({ frames := 3, cells := 0, slots := 0, locals := 67 } : Room) [.ref (ad (o)), .ref (ad (a)), .ref (ad (b))] D ty ad M F sz (fun r F1 => (∃ f g h k : Int, F1 o = .inr (3, [.ref (ad (o + 1)), .long (iL f), .long (iL g), .long (iL h), .long (iL k)]) ∧ (∀ y, y ≠ o → F1 y = F y) ∧ (r = iI 0 ∨ (r = iI 1 ∧ (-2147483648 < f ∧ f < 2147483648) ∧ (-2147483648 < g ∧ g < 2147483648) ∧ (-2147483648 < h ∧ h < 2147483648) ∧ (-2147483648 < k ∧ k < 2147483648) ∧ (f ≤ 0 ∨ g ≤ 0) ∧ (h ≤ 0 ∨ k ≤ 0) ∧ ∃ n x' y' : Nat, eu_R (n + 1) x y x' y' ∧ f * x + g * y = x' ∧ h * x + k * y = y')))) := by
  refine Met.ofW (cc := b_D_findLeap) (maxL := 17) (ret := (some .boolean)) (by decide) rfl ?_
  intro p e s m args below meth c s₁ B hml hv
  obtain ⟨rfl, hsz, hP, hK, hD0⟩ := hv
  have hx := B.exec
  have hb := B.bytes
  have hr := B.returns
  have hts := atoms_spec (ws := w_D_findLeap) B.pre
  have hq : ∀ w ∈ wT, w.before _ s = true := fun w h => hts w (List.mem_cons_of_mem _ h)
  have hown : s.vm.findClass R_D = some m.cls := findClass_of_methodNamed B.named
  have hlocks := B.notSynchronized
  subst hsz
  have hw := pw_start hP hK hD0
  have hl := lv_entry ([.ref (ad (o)), .ref (ad (a)), .ref (ad (b))]) (n := 17) (Nat.le_of_ble_eq_true rfl)
  rw [lg_entry_eq]
  generalize (lg_sl ([.ref (ad (o)), .ref (ad (a)), .ref (ad (b))]) ++ List.replicate (17 - (lg_sl ([.ref (ad (o)), .ref (ad (a)), .ref (ad (b))])).length) Slot.unset).toArray = ls at hl ⊢
  have hl : lv_has ls 17 [(0, .ref (ad (o))), (1, .ref (ad (a))), (2, .ref (ad (b)))] := hl
  change W p l e ({ frames := 3, cells := 0, slots := 0, locals := 67 } : Room) s m ([.ref (ad (o)), .ref (ad (a)), .ref (ad (b))]).toArray below meth c s.heap [] 0 0 (MQ below (va_Qi (fun r F1 => (∃ f g h k : Int, F1 o = .inr (3, [.ref (ad (o + 1)), .long (iL f), .long (iL g), .long (iL h), .long (iL k)]) ∧ (∀ y, y ≠ o → F1 y = F y) ∧ (r = iI 0 ∨ (r = iI 1 ∧ (-2147483648 < f ∧ f < 2147483648) ∧ (-2147483648 < g ∧ g < 2147483648) ∧ (-2147483648 < h ∧ h < 2147483648) ∧ (-2147483648 < k ∧ k < 2147483648) ∧ (f ≤ 0 ∨ g ≤ 0) ∧ (h ≤ 0 ∨ k ≤ 0) ∧ ∃ n x' y' : Nat, eu_R (n + 1) x y x' y' ∧ f * x + g * y = x' ∧ h * x + k * y = y')))) (pAt D classes (tysL ty) ad M (pA ad M s.heap.size)) (pA ad M s.heap.size)) ([.ref (ad (o)), .ref (ad (a)), .ref (ad (b))]).toArray s 0 0 (pA ad M s.heap.size)) (F0 m 0 ls [])
  generalize hQ : MQ below (va_Qi (fun r F1 => (∃ f g h k : Int, F1 o = .inr (3, [.ref (ad (o + 1)), .long (iL f), .long (iL g), .long (iL h), .long (iL k)]) ∧ (∀ y, y ≠ o → F1 y = F y) ∧ (r = iI 0 ∨ (r = iI 1 ∧ (-2147483648 < f ∧ f < 2147483648) ∧ (-2147483648 < g ∧ g < 2147483648) ∧ (-2147483648 < h ∧ h < 2147483648) ∧ (-2147483648 < k ∧ k < 2147483648) ∧ (f ≤ 0 ∨ g ≤ 0) ∧ (h ≤ 0 ∨ k ≤ 0) ∧ ∃ n x' y' : Nat, eu_R (n + 1) x y x' y' ∧ f * x + g * y = x' ∧ h * x + k * y = y')))) (pAt D classes (tysL ty) ad M (pA ad M s.heap.size)) (pA ad M s.heap.size)) ([.ref (ad (o)), .ref (ad (a)), .ref (ad (b))]).toArray s 0 0 (pA ad M s.heap.size) = Q
  obtain ⟨H, hH⟩ : ∃ H, H = s.heap := ⟨_, rfl⟩
  obtain ⟨locs, hlo⟩ : ∃ z : List Loc, z = [] := ⟨_, rfl⟩
  have hw : pw D classes (tysL ty) ad M F (pA ad M s.heap.size) s H locs := by rw [hH, hlo]; exact hw
  have hgo : W p l e ({ frames := 3, cells := 0, slots := 0, locals := 67 } : Room) s m ([.ref (ad (o)), .ref (ad (a)), .ref (ad (b))]).toArray below meth c H locs 0 0 Q (F0 m 0 ls []) := by
    obtain ⟨na, ga, hO_a, hA_a, hoka⟩ := ha.opn
    obtain ⟨nb, gb, hO_b, hA_b, hokb⟩ := hb0.opn
    have hna := hoka.1
    have hnb := hokb.1
    have hna0 : 0 < na := by
      have := hoka.zero
      omega
    refine lv_aload_n hx hb d_D_findLeap_0 rfl (lv_at hl 0 rfl) ?_
    refine lv_lconst (v := iL 1) hx hb d_D_findLeap_1 (by decide) ?_
    refine pw_put (ci := 3) (C := R_D) (T := T_D) (N := 5) (ty := .long) (fs' := [.ref (ad (o + 1)), .long (iL (1)), .long (g0), .long (h0), .long (k0)]) hx hb hq i_D ft_D ft_D_ok n_D hown hw (by omega) hO_o rfl 1 (by decide) (hq _ fl_D_32) (fun _ h9 => h9) rfl (by decide +kernel) rfl rfl (Nat.le_of_ble_eq_true rfl) rfl d_D_findLeap_2 (fun F2 H locs eF2 hw => ?_)
    have m2_o : F2 (o) = .inr (3, [.ref (ad (o + 1)), .long (iL (1)), .long (g0), .long (h0), .long (k0)]) := by rw [eF2]; exact va_up_self ..
    have hO_a_at_2 : F2 (a) = .inr (0, [.ref (ad (a + 1)), .int (iI ((na : Int)))]) := (show F2 (a) = F (a) from by rw [eF2]; exact va_up_ne _ _ (by omega)).trans hO_a
    have hA_a_at_2 : F2 (a + 1) = .inl (ty 0, Na, .inl (ga)) := (show F2 (a + 1) = F (a + 1) from by rw [eF2]; exact va_up_ne _ _ (by omega)).trans hA_a
    have hO_b_at_2 : F2 (b) = .inr (0, [.ref (ad (b + 1)), .int (iI ((nb : Int)))]) := (show F2 (b) = F (b) from by rw [eF2]; exact va_up_ne _ _ (by omega)).trans hO_b
    have hA_b_at_2 : F2 (b + 1) = .inl (ty 0, Nb, .inl (gb)) := (show F2 (b + 1) = F (b + 1) from by rw [eF2]; exact va_up_ne _ _ (by omega)).trans hA_b
    refine lv_aload_n hx hb d_D_findLeap_5 rfl (lv_at hl 0 rfl) ?_
    refine lv_lconst (v := iL 0) hx hb d_D_findLeap_6 (by decide) ?_
    refine pw_put (ci := 3) (C := R_D) (T := T_D) (N := 5) (ty := .long) (fs' := [.ref (ad (o + 1)), .long (iL (1)), .long (iL (0)), .long (h0), .long (k0)]) hx hb hq i_D ft_D ft_D_ok n_D hown hw (by omega) m2_o rfl 2 (by decide) (hq _ fl_D_36) (fun _ h9 => h9) rfl (by decide +kernel) rfl rfl (Nat.le_of_ble_eq_true rfl) rfl d_D_findLeap_7 (fun F7 H locs eF7 hw => ?_)
    have m7_o : F7 (o) = .inr (3, [.ref (ad (o + 1)), .long (iL (1)), .long (iL (0)), .long (h0), .long (k0)]) := by rw [eF7]; exact va_up_self ..
    have hO_a_at_7 : F7 (a) = .inr (0, [.ref (ad (a + 1)), .int (iI ((na : Int)))]) := (show F7 (a) = F2 (a) from by rw [eF7]; exact va_up_ne _ _ (by omega)).trans hO_a_at_2
    have hA_a_at_7 : F7 (a + 1) = .inl (ty 0, Na, .inl (ga)) := (show F7 (a + 1) = F2 (a + 1) from by rw [eF7]; exact va_up_ne _ _ (by omega)).trans hA_a_at_2
    have hO_b_at_7 : F7 (b) = .inr (0, [.ref (ad (b + 1)), .int (iI ((nb : Int)))]) := (show F7 (b) = F2 (b) from by rw [eF7]; exact va_up_ne _ _ (by omega)).trans hO_b_at_2
    have hA_b_at_7 : F7 (b + 1) = .inl (ty 0, Nb, .inl (gb)) := (show F7 (b + 1) = F2 (b + 1) from by rw [eF7]; exact va_up_ne _ _ (by omega)).trans hA_b_at_2
    refine lv_aload_n hx hb d_D_findLeap_10 rfl (lv_at hl 0 rfl) ?_
    refine lv_lconst (v := iL 0) hx hb d_D_findLeap_11 (by decide) ?_
    refine pw_put (ci := 3) (C := R_D) (T := T_D) (N := 5) (ty := .long) (fs' := [.ref (ad (o + 1)), .long (iL (1)), .long (iL (0)), .long (iL (0)), .long (k0)]) hx hb hq i_D ft_D ft_D_ok n_D hown hw (by omega) m7_o rfl 3 (by decide) (hq _ fl_D_43) (fun _ h9 => h9) rfl (by decide +kernel) rfl rfl (Nat.le_of_ble_eq_true rfl) rfl d_D_findLeap_12 (fun F12 H locs eF12 hw => ?_)
    have m12_o : F12 (o) = .inr (3, [.ref (ad (o + 1)), .long (iL (1)), .long (iL (0)), .long (iL (0)), .long (k0)]) := by rw [eF12]; exact va_up_self ..
    have hO_a_at_12 : F12 (a) = .inr (0, [.ref (ad (a + 1)), .int (iI ((na : Int)))]) := (show F12 (a) = F7 (a) from by rw [eF12]; exact va_up_ne _ _ (by omega)).trans hO_a_at_7
    have hA_a_at_12 : F12 (a + 1) = .inl (ty 0, Na, .inl (ga)) := (show F12 (a + 1) = F7 (a + 1) from by rw [eF12]; exact va_up_ne _ _ (by omega)).trans hA_a_at_7
    have hO_b_at_12 : F12 (b) = .inr (0, [.ref (ad (b + 1)), .int (iI ((nb : Int)))]) := (show F12 (b) = F7 (b) from by rw [eF12]; exact va_up_ne _ _ (by omega)).trans hO_b_at_7
    have hA_b_at_12 : F12 (b + 1) = .inl (ty 0, Nb, .inl (gb)) := (show F12 (b + 1) = F7 (b + 1) from by rw [eF12]; exact va_up_ne _ _ (by omega)).trans hA_b_at_7
    refine lv_aload_n hx hb d_D_findLeap_15 rfl (lv_at hl 0 rfl) ?_
    refine lv_lconst (v := iL 1) hx hb d_D_findLeap_16 (by decide) ?_
    refine pw_put (ci := 3) (C := R_D) (T := T_D) (N := 5) (ty := .long) (fs' := [.ref (ad (o + 1)), .long (iL (1)), .long (iL (0)), .long (iL (0)), .long (iL (1))]) hx hb hq i_D ft_D ft_D_ok n_D hown hw (by omega) m12_o rfl 4 (by decide) (hq _ fl_D_46) (fun _ h9 => h9) rfl (by decide +kernel) rfl rfl (Nat.le_of_ble_eq_true rfl) rfl d_D_findLeap_17 (fun F17 H locs eF17 hw => ?_)
    have m17_o : F17 (o) = .inr (3, [.ref (ad (o + 1)), .long (iL (1)), .long (iL (0)), .long (iL (0)), .long (iL (1))]) := by rw [eF17]; exact va_up_self ..
    have hO_a_at_17 : F17 (a) = .inr (0, [.ref (ad (a + 1)), .int (iI ((na : Int)))]) := (show F17 (a) = F12 (a) from by rw [eF17]; exact va_up_ne _ _ (by omega)).trans hO_a_at_12
    have hA_a_at_17 : F17 (a + 1) = .inl (ty 0, Na, .inl (ga)) := (show F17 (a + 1) = F12 (a + 1) from by rw [eF17]; exact va_up_ne _ _ (by omega)).trans hA_a_at_12
    have hO_b_at_17 : F17 (b) = .inr (0, [.ref (ad (b + 1)), .int (iI ((nb : Int)))]) := (show F17 (b) = F12 (b) from by rw [eF17]; exact va_up_ne _ _ (by omega)).trans hO_b_at_12
    have hA_b_at_17 : F17 (b + 1) = .inl (ty 0, Nb, .inl (gb)) := (show F17 (b + 1) = F12 (b + 1) from by rw [eF17]; exact va_up_ne _ _ (by omega)).trans hA_b_at_12
    refine lv_aload_n hx hb d_D_findLeap_20 rfl (lv_at hl 1 rfl) ?_
    refine pw_calli hw (va_runV (As := []) (rest := []) ⟨hx, hb, hml, hown, hq⟩ (c_W_spareBits l D ty ad M F17 H.size a Na na ga hMa hNa hna hoka.2.1 hoka.2.2.1 hO_a_at_17 hA_a_at_17) (cwV 0 hq (gV ml_D_57 im_W_spareBits se_W_spareBits in_W m_W_spareBits) rfl rfl rfl (by decide +kernel) ⟨Nat.le_of_ble_eq_true rfl, Nat.le_of_ble_eq_true rfl⟩) (pw_preV hw (by omega) hO_a_at_17 rfl) rfl rfl hl.1 rfl (lv_room (Nat.le_of_ble_eq_true rfl)) d_D_findLeap_21 ⟨Nat.le_of_ble_eq_true rfl, Nat.le_of_ble_eq_true rfl⟩) (fun r21 F21 H locs q21 hw => ?_)
    obtain ⟨⟨s0, er21, hs1, hs2, hs3⟩, eF21⟩ := q21
    rw [eF21] at hw
    clear eF21
    subst er21
    obtain ⟨hs4, hs5⟩ := hs3 hna0
    obtain ⟨hlt, hge⟩ := kn_shift hoka hna0 hs1 hs4 hs5
    refine lv_istore_n (lv' := [(3, .int (iI ((s0 : Int)))), (0, .ref (ad (o))), (1, .ref (ad (a))), (2, .ref (ad (b)))]) hx hb d_D_findLeap_24 rfl hl (by decide) rfl (fun ls hl => ?_)
    refine lv_aload_n hx hb d_D_findLeap_25 rfl (lv_at hl 2 rfl) ?_
    refine lv_aload_n hx hb d_D_findLeap_26 rfl (lv_at hl 2 rfl) ?_
    refine pw_get (ci := 0) (C := R_W) (T := T_W) (N := 2) hx hb hq i_W hown hw (by omega) hO_a_at_17 rfl 1 (by decide) (hq _ fl_D_61) (fun _ h9 => h9) rfl d_D_findLeap_27 ?_
    refine lv_iload_n hx hb d_D_findLeap_30 rfl (lv_at hl 0 rfl) ?_
    refine pw_calll hw (va_runS (As := [.ref (ad (a)), .int (iI ((na : Int))), .int (iI ((s0 : Int)))]) (rest := []) ⟨hx, hb, hml, hown, hq⟩ (c_D_highest l D ty ad M F17 H.size a Na na na s0 ga hMa hNa hna hoka.2.1 (by omega) hs1 hO_a_at_17 hA_a_at_17) (va_cwS 3 hq (gS ml_D_65 st_D_highest in_D m_D_highest) rfl rfl rfl (by decide +kernel) ⟨Nat.le_of_ble_eq_true rfl, Nat.le_of_ble_eq_true rfl⟩) (pw_preS hw) rfl rfl hl.1 rfl (lv_room (Nat.le_of_ble_eq_true rfl)) d_D_findLeap_31 ⟨Nat.le_of_ble_eq_true rfl, Nat.le_of_ble_eq_true rfl⟩) (fun r31 F31 H locs q31 hw => ?_)
    obtain ⟨er31, eF31⟩ := q31
    rw [eF31] at hw
    clear eF31
    obtain ⟨hi0, hhi0⟩ : ∃ z : Nat, z = xl (bv 2147483648 (dl ga) na * 2 ^ s0) ((na : Int) - 1) * 2 ^ 31 + xl (bv 2147483648 (dl ga) na * 2 ^ s0) ((na : Int) - 2) := ⟨_, rfl⟩
    rw [← hhi0] at er31
    subst er31
    have lhi : hi0 < 4611686018427387904 := by rw [hhi0]; exact hb_lt _ _ _
    have hhi9 : hi0 = x * (2 ^ s0 * (2147483648 * 2147483648)) / 2147483648 ^ na := by
      rw [hhi0, hoka.2.2.2, hb_eq (by omega) (by rw [Nat.mul_comm]; exact hlt), Nat.mul_assoc]
    refine lv_lstore (lv' := [(4, .long (iL ((hi0 : Int)))), (3, .int (iI ((s0 : Int)))), (0, .ref (ad (o))), (1, .ref (ad (a))), (2, .ref (ad (b)))]) hx hb d_D_findLeap_34 hl (by decide) rfl (fun ls hl => ?_)
    refine lv_aload_n hx hb d_D_findLeap_36 rfl (lv_at hl 4 rfl) ?_
    refine lv_aload_n hx hb d_D_findLeap_37 rfl (lv_at hl 3 rfl) ?_
    refine pw_get (ci := 0) (C := R_W) (T := T_W) (N := 2) hx hb hq i_W hown hw (by omega) hO_a_at_17 rfl 1 (by decide) (hq _ fl_D_61) (fun _ h9 => h9) rfl d_D_findLeap_38 ?_
    refine lv_iload_n hx hb d_D_findLeap_41 rfl (lv_at hl 1 rfl) ?_
    refine pw_calll hw (va_runS (As := [.ref (ad (b)), .int (iI ((na : Int))), .int (iI ((s0 : Int)))]) (rest := []) ⟨hx, hb, hml, hown, hq⟩ (c_D_highest l D ty ad M F17 H.size b Nb nb na s0 gb hMb hNb hnb hokb.2.1 (by omega) hs1 hO_b_at_17 hA_b_at_17) (va_cwS 3 hq (gS ml_D_65 st_D_highest in_D m_D_highest) rfl rfl rfl (by decide +kernel) ⟨Nat.le_of_ble_eq_true rfl, Nat.le_of_ble_eq_true rfl⟩) (pw_preS hw) rfl rfl hl.1 rfl (lv_room (Nat.le_of_ble_eq_true rfl)) d_D_findLeap_42 ⟨Nat.le_of_ble_eq_true rfl, Nat.le_of_ble_eq_true rfl⟩) (fun r42 F42 H locs q42 hw => ?_)
    obtain ⟨er42, eF42⟩ := q42
    rw [eF42] at hw
    clear eF42
    obtain ⟨lo0, hlo0⟩ : ∃ z : Nat, z = xl (bv 2147483648 (dl gb) nb * 2 ^ s0) ((na : Int) - 1) * 2 ^ 31 + xl (bv 2147483648 (dl gb) nb * 2 ^ s0) ((na : Int) - 2) := ⟨_, rfl⟩
    rw [← hlo0] at er42
    subst er42
    have llo : lo0 < 4611686018427387904 := by rw [hlo0]; exact hb_lt _ _ _
    have hlo9 : lo0 = y * (2 ^ s0 * (2147483648 * 2147483648)) / 2147483648 ^ na := by
      have hyl : y * 2 ^ s0 < 2147483648 ^ na := by
        have : y * 2 ^ s0 ≤ x * 2 ^ s0 := Nat.mul_le_mul_right _ hyx
        rw [Nat.mul_comm x] at this
        omega
      rw [hlo0, hokb.2.2.2, hb_eq (by omega) hyl, Nat.mul_assoc]
    have hc9 : 0 < 2 ^ s0 * (2147483648 * 2147483648) := Nat.mul_pos (Nat.two_pow_pos _) (by decide)
    have hd9 : 0 < 2147483648 ^ na := Nat.pow_pos (by decide)
    refine lv_lstore (lv' := [(6, .long (iL ((lo0 : Int)))), (4, .long (iL ((hi0 : Int)))), (3, .int (iI ((s0 : Int)))), (0, .ref (ad (o))), (1, .ref (ad (a))), (2, .ref (ad (b)))]) hx hb d_D_findLeap_45 hl (by decide) rfl (fun ls hl => ?_)
    refine wz_iconst (n := 0) hx hb d_D_findLeap_47 ?_
    refine lv_istore (lv' := [(8, .int (iI (0))), (6, .long (iL ((lo0 : Int)))), (4, .long (iL ((hi0 : Int)))), (3, .int (iI ((s0 : Int)))), (0, .ref (ad (o))), (1, .ref (ad (a))), (2, .ref (ad (b)))]) hx hb d_D_findLeap_48 hl (by decide) rfl (fun ls hl => ?_)
    have K50 : ∀ (fuel : Nat) (i : Nat) (ff gg hh kk hi lo : Int) (F50 : Nat → va_E) (H : Heap) (locs : List Loc) (ls : Array Slot), 64 - i < fuel → (i ≤ 64) → (lpI x y hi0 lo0 i ff gg hh kk hi lo) → (∀ y, y ≠ o → F50 y = F y) → F50 (o) = .inr (3, [.ref (ad (o + 1)), .long (iL (ff)), .long (iL (gg)), .long (iL (hh)), .long (iL (kk))]) → pw D classes (tysL ty) ad M F50 (pA ad M s.heap.size) s H locs → lv_has ls 17 [(8, .int (iI ((i : Int)))), (4, .long (iL (hi))), (6, .long (iL (lo))), (0, .ref (ad (o)))] → W p l e ({ frames := 3, cells := 0, slots := 0, locals := 67 } : Room) s m ([.ref (ad (o)), .ref (ad (a)), .ref (ad (b))]).toArray below meth c H locs 0 0 Q (F0 m 50 ls []) := by
      intro fuel
      induction fuel with
      | zero => intro i ff gg hh kk hi lo F50 H locs ls hfuel hi64 hI hfr hO_o hw hl; exact absurd hfuel (Nat.not_lt_zero _)
      | succ fuel ih50 =>
        intro i ff gg hh kk hi lo F50 H locs ls hfuel hi64 hI hfr hO_o hw hl
        have hI2 := hI
        obtain ⟨-, -, -, bf, bh, bhi, blo, bn1, bn2, -, -⟩ := hI2
        refine lv_iload hx hb d_D_findLeap_50 (lv_at hl 0 rfl) ?_
        refine wz_bipush (n := 64) hx hb d_D_findLeap_52 (by decide) ?_
        refine wz_icmp_ge (tgt := 238) hx hb d_D_findLeap_54 (by decide) (by omega) (by omega) (by omega) (by omega) (fun c54 => ?_) (fun c54 => ?_)
        · refine lv_aload_n hx hb d_D_findLeap_238 rfl (lv_at hl 3 rfl) ?_
          refine pw_get (ci := 3) (C := R_D) (T := T_D) (N := 5) hx hb hq i_D hown hw (by omega) hO_o rfl 2 (by decide) (hq _ fl_D_36) (fun _ h9 => h9) rfl d_D_findLeap_239 ?_
          refine lv_lconst (v := iL 0) hx hb d_D_findLeap_242 (by decide) ?_
          refine wz_lcmp_eq (tgt := 251) hx hb d_D_findLeap_243 d_D_findLeap_244 (by decide) (by omega) (by omega) (by omega) (by omega) (fun c243 => ?_) (fun c243 => ?_)
          · refine wz_iconst (n := 0) hx hb d_D_findLeap_251 ?_
            have hI9 := hI
            obtain ⟨-, -, sg, bf, bh, -, -, -, -, hi0g, x', y', hE, ex, ey⟩ := hI9
            rw [← hQ]
            exact pw_zret hx hb hr (by decide) hlocks hw (⟨ff, gg, hh, kk, hO_o, hfr, Or.inl rfl⟩) d_D_findLeap_252
          · refine wz_iconst (n := 1) hx hb d_D_findLeap_247 ?_
            refine lv_goto (tgt := 252) hx hb d_D_findLeap_248 (by decide) ?_
            have hI9 := hI
            obtain ⟨-, -, sg, bf, bh, -, -, -, -, hi0g, x', y', hE, ex, ey⟩ := hI9
            rw [← hQ]
            exact pw_zret hx hb hr (by decide) hlocks hw (⟨ff, gg, hh, kk, hO_o, hfr, Or.inr ⟨rfl, by omega, by omega, by omega, by omega, by omega, by omega, i - 1, x', y', by rw [show i - 1 + 1 = i by omega]; exact hE, ex, ey⟩⟩) d_D_findLeap_252
        · refine lv_lload hx hb d_D_findLeap_57 (lv_at hl 2 rfl) ?_
          refine lv_aload_n hx hb d_D_findLeap_59 rfl (lv_at hl 3 rfl) ?_
          refine pw_get (ci := 3) (C := R_D) (T := T_D) (N := 5) hx hb hq i_D hown hw (by omega) hO_o rfl 3 (by decide) (hq _ fl_D_43) (fun _ h9 => h9) rfl d_D_findLeap_60 ?_
          refine wz_ladd hx hb d_D_findLeap_63 rfl ?_
          refine lv_lconst (v := iL 0) hx hb d_D_findLeap_64 (by decide) ?_
          refine wz_lcmp_le (tgt := 238) hx hb d_D_findLeap_65 d_D_findLeap_66 (by decide) (by omega) (by omega) (by omega) (by omega) (fun c65 => ?_) (fun c65 => ?_)
          · refine lv_aload_n hx hb d_D_findLeap_238 rfl (lv_at hl 3 rfl) ?_
            refine pw_get (ci := 3) (C := R_D) (T := T_D) (N := 5) hx hb hq i_D hown hw (by omega) hO_o rfl 2 (by decide) (hq _ fl_D_36) (fun _ h9 => h9) rfl d_D_findLeap_239 ?_
            refine lv_lconst (v := iL 0) hx hb d_D_findLeap_242 (by decide) ?_
            refine wz_lcmp_eq (tgt := 251) hx hb d_D_findLeap_243 d_D_findLeap_244 (by decide) (by omega) (by omega) (by omega) (by omega) (fun c243 => ?_) (fun c243 => ?_)
            · refine wz_iconst (n := 0) hx hb d_D_findLeap_251 ?_
              have hI9 := hI
              obtain ⟨-, -, sg, bf, bh, -, -, -, -, hi0g, x', y', hE, ex, ey⟩ := hI9
              rw [← hQ]
              exact pw_zret hx hb hr (by decide) hlocks hw (⟨ff, gg, hh, kk, hO_o, hfr, Or.inl rfl⟩) d_D_findLeap_252
            · refine wz_iconst (n := 1) hx hb d_D_findLeap_247 ?_
              refine lv_goto (tgt := 252) hx hb d_D_findLeap_248 (by decide) ?_
              have hI9 := hI
              obtain ⟨-, -, sg, bf, bh, -, -, -, -, hi0g, x', y', hE, ex, ey⟩ := hI9
              rw [← hQ]
              exact pw_zret hx hb hr (by decide) hlocks hw (⟨ff, gg, hh, kk, hO_o, hfr, Or.inr ⟨rfl, by omega, by omega, by omega, by omega, by omega, by omega, i - 1, x', y', by rw [show i - 1 + 1 = i by omega]; exact hE, ex, ey⟩⟩) d_D_findLeap_252
          · refine lv_lload hx hb d_D_findLeap_69 (lv_at hl 2 rfl) ?_
            refine lv_aload_n hx hb d_D_findLeap_71 rfl (lv_at hl 3 rfl) ?_
            refine pw_get (ci := 3) (C := R_D) (T := T_D) (N := 5) hx hb hq i_D hown hw (by omega) hO_o rfl 4 (by decide) (hq _ fl_D_46) (fun _ h9 => h9) rfl d_D_findLeap_72 ?_
            refine wz_ladd hx hb d_D_findLeap_75 rfl ?_
            refine lv_lconst (v := iL 0) hx hb d_D_findLeap_76 (by decide) ?_
            refine wz_lcmp_le (tgt := 238) hx hb d_D_findLeap_77 d_D_findLeap_78 (by decide) (by omega) (by omega) (by omega) (by omega) (fun c77 => ?_) (fun c77 => ?_)
            · refine lv_aload_n hx hb d_D_findLeap_238 rfl (lv_at hl 3 rfl) ?_
              refine pw_get (ci := 3) (C := R_D) (T := T_D) (N := 5) hx hb hq i_D hown hw (by omega) hO_o rfl 2 (by decide) (hq _ fl_D_36) (fun _ h9 => h9) rfl d_D_findLeap_239 ?_
              refine lv_lconst (v := iL 0) hx hb d_D_findLeap_242 (by decide) ?_
              refine wz_lcmp_eq (tgt := 251) hx hb d_D_findLeap_243 d_D_findLeap_244 (by decide) (by omega) (by omega) (by omega) (by omega) (fun c243 => ?_) (fun c243 => ?_)
              · refine wz_iconst (n := 0) hx hb d_D_findLeap_251 ?_
                have hI9 := hI
                obtain ⟨-, -, sg, bf, bh, -, -, -, -, hi0g, x', y', hE, ex, ey⟩ := hI9
                rw [← hQ]
                exact pw_zret hx hb hr (by decide) hlocks hw (⟨ff, gg, hh, kk, hO_o, hfr, Or.inl rfl⟩) d_D_findLeap_252
              · refine wz_iconst (n := 1) hx hb d_D_findLeap_247 ?_
                refine lv_goto (tgt := 252) hx hb d_D_findLeap_248 (by decide) ?_
                have hI9 := hI
                obtain ⟨-, -, sg, bf, bh, -, -, -, -, hi0g, x', y', hE, ex, ey⟩ := hI9
                rw [← hQ]
                exact pw_zret hx hb hr (by decide) hlocks hw (⟨ff, gg, hh, kk, hO_o, hfr, Or.inr ⟨rfl, by omega, by omega, by omega, by omega, by omega, by omega, i - 1, x', y', by rw [show i - 1 + 1 = i by omega]; exact hE, ex, ey⟩⟩) d_D_findLeap_252
            · refine lv_lload hx hb d_D_findLeap_81 (lv_at hl 1 rfl) ?_
              refine lv_aload_n hx hb d_D_findLeap_83 rfl (lv_at hl 3 rfl) ?_
              refine pw_get (ci := 3) (C := R_D) (T := T_D) (N := 5) hx hb hq i_D hown hw (by omega) hO_o rfl 1 (by decide) (hq _ fl_D_32) (fun _ h9 => h9) rfl d_D_findLeap_84 ?_
              refine wz_ladd (z := ((hi + ff).toNat : Int)) hx hb d_D_findLeap_87 (by omega) ?_
              refine lv_lload hx hb d_D_findLeap_88 (lv_at hl 2 rfl) ?_
              refine lv_aload_n hx hb d_D_findLeap_90 rfl (lv_at hl 3 rfl) ?_
              refine pw_get (ci := 3) (C := R_D) (T := T_D) (N := 5) hx hb hq i_D hown hw (by omega) hO_o rfl 3 (by decide) (hq _ fl_D_43) (fun _ h9 => h9) rfl d_D_findLeap_91 ?_
              refine wz_ladd (z := ((lo + hh).toNat : Int)) hx hb d_D_findLeap_94 (by omega) ?_
              obtain ⟨qq, hqe⟩ : ∃ z, z = (hi + ff).toNat / (lo + hh).toNat := ⟨_, rfl⟩
              have hql : qq ≤ (hi + ff).toNat := by rw [hqe]; exact Nat.div_le_self _ _
              refine wz_ldiv (a := (hi + ff).toNat) (b := (lo + hh).toNat) (z := qq) hx hb d_D_findLeap_95 (by omega) (by omega) (by omega) (hqe.symm) ?_
              refine lv_lstore (lv' := [(9, .long (iL (((qq : Nat) : Int)))), (8, .int (iI ((i : Int)))), (4, .long (iL (hi))), (6, .long (iL (lo))), (0, .ref (ad (o)))]) hx hb d_D_findLeap_96 hl (by decide) rfl (fun ls hl => ?_)
              refine lv_lload hx hb d_D_findLeap_98 (lv_at hl 0 rfl) ?_
              refine lv_ldc2 (v := iL (2147483648)) hx hb hown (hq _ cj_D_69) d_D_findLeap_100 ?_
              refine wz_lcmp_ge (tgt := 238) hx hb d_D_findLeap_103 d_D_findLeap_104 (by decide) (by omega) (by omega) (by omega) (by omega) (fun c103 => ?_) (fun c103 => ?_)
              · refine lv_aload_n hx hb d_D_findLeap_238 rfl (lv_at hl 4 rfl) ?_
                refine pw_get (ci := 3) (C := R_D) (T := T_D) (N := 5) hx hb hq i_D hown hw (by omega) hO_o rfl 2 (by decide) (hq _ fl_D_36) (fun _ h9 => h9) rfl d_D_findLeap_239 ?_
                refine lv_lconst (v := iL 0) hx hb d_D_findLeap_242 (by decide) ?_
                refine wz_lcmp_eq (tgt := 251) hx hb d_D_findLeap_243 d_D_findLeap_244 (by decide) (by omega) (by omega) (by omega) (by omega) (fun c243 => ?_) (fun c243 => ?_)
                · refine wz_iconst (n := 0) hx hb d_D_findLeap_251 ?_
                  have hI9 := hI
                  obtain ⟨-, -, sg, bf, bh, -, -, -, -, hi0g, x', y', hE, ex, ey⟩ := hI9
                  rw [← hQ]
                  exact pw_zret hx hb hr (by decide) hlocks hw (⟨ff, gg, hh, kk, hO_o, hfr, Or.inl rfl⟩) d_D_findLeap_252
                · refine wz_iconst (n := 1) hx hb d_D_findLeap_247 ?_
                  refine lv_goto (tgt := 252) hx hb d_D_findLeap_248 (by decide) ?_
                  have hI9 := hI
                  obtain ⟨-, -, sg, bf, bh, -, -, -, -, hi0g, x', y', hE, ex, ey⟩ := hI9
                  rw [← hQ]
                  exact pw_zret hx hb hr (by decide) hlocks hw (⟨ff, gg, hh, kk, hO_o, hfr, Or.inr ⟨rfl, by omega, by omega, by omega, by omega, by omega, by omega, i - 1, x', y', by rw [show i - 1 + 1 = i by omega]; exact hE, ex, ey⟩⟩) d_D_findLeap_252
              · refine lv_lload hx hb d_D_findLeap_107 (lv_at hl 0 rfl) ?_
                refine lv_lload hx hb d_D_findLeap_109 (lv_at hl 2 rfl) ?_
                refine lv_aload_n hx hb d_D_findLeap_111 rfl (lv_at hl 4 rfl) ?_
                refine pw_get (ci := 3) (C := R_D) (T := T_D) (N := 5) hx hb hq i_D hown hw (by omega) hO_o rfl 2 (by decide) (hq _ fl_D_36) (fun _ h9 => h9) rfl d_D_findLeap_112 ?_
                refine wz_ladd (z := ((hi + gg).toNat : Int)) hx hb d_D_findLeap_115 (by omega) ?_
                refine lv_lload hx hb d_D_findLeap_116 (lv_at hl 3 rfl) ?_
                refine lv_aload_n hx hb d_D_findLeap_118 rfl (lv_at hl 4 rfl) ?_
                refine pw_get (ci := 3) (C := R_D) (T := T_D) (N := 5) hx hb hq i_D hown hw (by omega) hO_o rfl 4 (by decide) (hq _ fl_D_46) (fun _ h9 => h9) rfl d_D_findLeap_119 ?_
                refine wz_ladd (z := ((lo + kk).toNat : Int)) hx hb d_D_findLeap_122 (by omega) ?_
                obtain ⟨q2, hqe2⟩ : ∃ z, z = (hi + gg).toNat / (lo + kk).toNat := ⟨_, rfl⟩
                have hql2 : q2 ≤ (hi + gg).toNat := by rw [hqe2]; exact Nat.div_le_self _ _
                refine wz_ldiv (a := (hi + gg).toNat) (b := (lo + kk).toNat) (z := q2) hx hb d_D_findLeap_123 (by omega) (by omega) (by omega) (hqe2.symm) ?_
                refine wz_lcmp_eq (tgt := 131) hx hb d_D_findLeap_124 d_D_findLeap_125 (by decide) (by omega) (by omega) (by omega) (by omega) (fun c124 => ?_) (fun c124 => ?_)
                · have hb1 := lp_b (q := qq) (a := hh) (b := ff) (by omega) (by omega) (by omega)
                  have hb2 := lp_b (q := qq) (a := kk) (b := gg) (by omega) (by omega) (by omega)
                  refine lv_aload_n hx hb d_D_findLeap_131 rfl (lv_at hl 4 rfl) ?_
                  refine pw_get (ci := 3) (C := R_D) (T := T_D) (N := 5) hx hb hq i_D hown hw (by omega) hO_o rfl 1 (by decide) (hq _ fl_D_32) (fun _ h9 => h9) rfl d_D_findLeap_132 ?_
                  refine lv_lload hx hb d_D_findLeap_135 (lv_at hl 0 rfl) ?_
                  refine lv_aload_n hx hb d_D_findLeap_137 rfl (lv_at hl 4 rfl) ?_
                  refine pw_get (ci := 3) (C := R_D) (T := T_D) (N := 5) hx hb hq i_D hown hw (by omega) hO_o rfl 3 (by decide) (hq _ fl_D_43) (fun _ h9 => h9) rfl d_D_findLeap_138 ?_
                  refine wz_lmul hx hb d_D_findLeap_141 rfl ?_
                  refine wz_lsub hx hb d_D_findLeap_142 rfl ?_
                  refine lv_lstore (lv' := [(11, .long (iL (ff - (((qq : Nat) : Int) * hh)))), (9, .long (iL (((qq : Nat) : Int)))), (8, .int (iI ((i : Int)))), (4, .long (iL (hi))), (6, .long (iL (lo))), (0, .ref (ad (o)))]) hx hb d_D_findLeap_143 hl (by decide) rfl (fun ls hl => ?_)
                  refine lv_aload_n hx hb d_D_findLeap_145 rfl (lv_at hl 5 rfl) ?_
                  refine pw_get (ci := 3) (C := R_D) (T := T_D) (N := 5) hx hb hq i_D hown hw (by omega) hO_o rfl 2 (by decide) (hq _ fl_D_36) (fun _ h9 => h9) rfl d_D_findLeap_146 ?_
                  refine lv_lload hx hb d_D_findLeap_149 (lv_at hl 1 rfl) ?_
                  refine lv_aload_n hx hb d_D_findLeap_151 rfl (lv_at hl 5 rfl) ?_
                  refine pw_get (ci := 3) (C := R_D) (T := T_D) (N := 5) hx hb hq i_D hown hw (by omega) hO_o rfl 4 (by decide) (hq _ fl_D_46) (fun _ h9 => h9) rfl d_D_findLeap_152 ?_
                  refine wz_lmul hx hb d_D_findLeap_155 rfl ?_
                  refine wz_lsub hx hb d_D_findLeap_156 rfl ?_
                  refine lv_lstore (lv' := [(13, .long (iL (gg - (((qq : Nat) : Int) * kk)))), (11, .long (iL (ff - (((qq : Nat) : Int) * hh)))), (9, .long (iL (((qq : Nat) : Int)))), (8, .int (iI ((i : Int)))), (4, .long (iL (hi))), (6, .long (iL (lo))), (0, .ref (ad (o)))]) hx hb d_D_findLeap_157 hl (by decide) rfl (fun ls hl => ?_)
                  refine lv_lload hx hb d_D_findLeap_159 (lv_at hl 1 rfl) ?_
                  refine wz_mabsl (z := ((ff - (((qq : Nat) : Int) * hh)).natAbs : Int)) hx hb (hml.trans hl.1.symm) hown (hq _ ml_D_71) (hq _ st_JM_abs) (hq _ in_JM) (hq _ m_JM_abs) (Nat.le_of_ble_eq_true rfl) (Nat.le_of_ble_eq_true rfl) (Nat.zero_le _) (Nat.zero_le _) (by omega) (by omega) (rfl) d_D_findLeap_161 ?_
                  refine lv_ldc2 (v := iL (2147483648)) hx hb hown (hq _ cj_D_69) d_D_findLeap_164 ?_
                  refine wz_lcmp_ge (tgt := 238) hx hb d_D_findLeap_167 d_D_findLeap_168 (by decide) (by omega) (by omega) (by omega) (by omega) (fun c167 => ?_) (fun c167 => ?_)
                  · refine lv_aload_n hx hb d_D_findLeap_238 rfl (lv_at hl 6 rfl) ?_
                    refine pw_get (ci := 3) (C := R_D) (T := T_D) (N := 5) hx hb hq i_D hown hw (by omega) hO_o rfl 2 (by decide) (hq _ fl_D_36) (fun _ h9 => h9) rfl d_D_findLeap_239 ?_
                    refine lv_lconst (v := iL 0) hx hb d_D_findLeap_242 (by decide) ?_
                    refine wz_lcmp_eq (tgt := 251) hx hb d_D_findLeap_243 d_D_findLeap_244 (by decide) (by omega) (by omega) (by omega) (by omega) (fun c243 => ?_) (fun c243 => ?_)
                    · refine wz_iconst (n := 0) hx hb d_D_findLeap_251 ?_
                      have hI9 := hI
                      obtain ⟨-, -, sg, bf, bh, -, -, -, -, hi0g, x', y', hE, ex, ey⟩ := hI9
                      rw [← hQ]
                      exact pw_zret hx hb hr (by decide) hlocks hw (⟨ff, gg, hh, kk, hO_o, hfr, Or.inl rfl⟩) d_D_findLeap_252
                    · refine wz_iconst (n := 1) hx hb d_D_findLeap_247 ?_
                      refine lv_goto (tgt := 252) hx hb d_D_findLeap_248 (by decide) ?_
                      have hI9 := hI
                      obtain ⟨-, -, sg, bf, bh, -, -, -, -, hi0g, x', y', hE, ex, ey⟩ := hI9
                      rw [← hQ]
                      exact pw_zret hx hb hr (by decide) hlocks hw (⟨ff, gg, hh, kk, hO_o, hfr, Or.inr ⟨rfl, by omega, by omega, by omega, by omega, by omega, by omega, i - 1, x', y', by rw [show i - 1 + 1 = i by omega]; exact hE, ex, ey⟩⟩) d_D_findLeap_252
                  · have c168 : (ff - (qq : Int) * hh).natAbs < 2147483648 := by omega
                    refine lv_lload hx hb d_D_findLeap_171 (lv_at hl 0 rfl) ?_
                    refine wz_mabsl (z := ((gg - (((qq : Nat) : Int) * kk)).natAbs : Int)) hx hb (hml.trans hl.1.symm) hown (hq _ ml_D_71) (hq _ st_JM_abs) (hq _ in_JM) (hq _ m_JM_abs) (Nat.le_of_ble_eq_true rfl) (Nat.le_of_ble_eq_true rfl) (Nat.zero_le _) (Nat.zero_le _) (by omega) (by omega) (rfl) d_D_findLeap_173 ?_
                    refine lv_ldc2 (v := iL (2147483648)) hx hb hown (hq _ cj_D_69) d_D_findLeap_176 ?_
                    refine wz_lcmp_lt (tgt := 186) hx hb d_D_findLeap_179 d_D_findLeap_180 (by decide) (by omega) (by omega) (by omega) (by omega) (fun c179 => ?_) (fun c179 => ?_)
                    · have c179 : (gg - (qq : Int) * kk).natAbs < 2147483648 := by omega
                      refine lv_aload_n hx hb d_D_findLeap_186 rfl (lv_at hl 6 rfl) ?_
                      refine lv_aload_n hx hb d_D_findLeap_187 rfl (lv_at hl 6 rfl) ?_
                      refine pw_get (ci := 3) (C := R_D) (T := T_D) (N := 5) hx hb hq i_D hown hw (by omega) hO_o rfl 3 (by decide) (hq _ fl_D_43) (fun _ h9 => h9) rfl d_D_findLeap_188 ?_
                      refine pw_put (ci := 3) (C := R_D) (T := T_D) (N := 5) (ty := .long) (fs' := [.ref (ad (o + 1)), .long (iL (hh)), .long (iL (gg)), .long (iL (hh)), .long (iL (kk))]) hx hb hq i_D ft_D ft_D_ok n_D hown hw (by omega) hO_o rfl 1 (by decide) (hq _ fl_D_32) (fun _ h9 => h9) rfl (by decide +kernel) rfl rfl (Nat.le_of_ble_eq_true rfl) rfl d_D_findLeap_191 (fun F191 H locs eF191 hw => ?_)
                      have m191_o : F191 (o) = .inr (3, [.ref (ad (o + 1)), .long (iL (hh)), .long (iL (gg)), .long (iL (hh)), .long (iL (kk))]) := by rw [eF191]; exact va_up_self ..
                      refine lv_aload_n hx hb d_D_findLeap_194 rfl (lv_at hl 6 rfl) ?_
                      refine lv_aload_n hx hb d_D_findLeap_195 rfl (lv_at hl 6 rfl) ?_
                      refine pw_get (ci := 3) (C := R_D) (T := T_D) (N := 5) hx hb hq i_D hown hw (by omega) m191_o rfl 4 (by decide) (hq _ fl_D_46) (fun _ h9 => h9) rfl d_D_findLeap_196 ?_
                      refine pw_put (ci := 3) (C := R_D) (T := T_D) (N := 5) (ty := .long) (fs' := [.ref (ad (o + 1)), .long (iL (hh)), .long (iL (kk)), .long (iL (hh)), .long (iL (kk))]) hx hb hq i_D ft_D ft_D_ok n_D hown hw (by omega) m191_o rfl 2 (by decide) (hq _ fl_D_36) (fun _ h9 => h9) rfl (by decide +kernel) rfl rfl (Nat.le_of_ble_eq_true rfl) rfl d_D_findLeap_199 (fun F199 H locs eF199 hw => ?_)
                      have m199_o : F199 (o) = .inr (3, [.ref (ad (o + 1)), .long (iL (hh)), .long (iL (kk)), .long (iL (hh)), .long (iL (kk))]) := by rw [eF199]; exact va_up_self ..
                      refine lv_aload_n hx hb d_D_findLeap_202 rfl (lv_at hl 6 rfl) ?_
                      refine lv_lload hx hb d_D_findLeap_203 (lv_at hl 1 rfl) ?_
                      refine pw_put (ci := 3) (C := R_D) (T := T_D) (N := 5) (ty := .long) (fs' := [.ref (ad (o + 1)), .long (iL (hh)), .long (iL (kk)), .long (iL (ff - (((qq : Nat) : Int) * hh))), .long (iL (kk))]) hx hb hq i_D ft_D ft_D_ok n_D hown hw (by omega) m199_o rfl 3 (by decide) (hq _ fl_D_43) (fun _ h9 => h9) rfl (by decide +kernel) rfl rfl (Nat.le_of_ble_eq_true rfl) rfl d_D_findLeap_205 (fun F205 H locs eF205 hw => ?_)
                      have m205_o : F205 (o) = .inr (3, [.ref (ad (o + 1)), .long (iL (hh)), .long (iL (kk)), .long (iL (ff - (((qq : Nat) : Int) * hh))), .long (iL (kk))]) := by rw [eF205]; exact va_up_self ..
                      refine lv_aload_n hx hb d_D_findLeap_208 rfl (lv_at hl 6 rfl) ?_
                      refine lv_lload hx hb d_D_findLeap_209 (lv_at hl 0 rfl) ?_
                      refine pw_put (ci := 3) (C := R_D) (T := T_D) (N := 5) (ty := .long) (fs' := [.ref (ad (o + 1)), .long (iL (hh)), .long (iL (kk)), .long (iL (ff - (((qq : Nat) : Int) * hh))), .long (iL (gg - (((qq : Nat) : Int) * kk)))]) hx hb hq i_D ft_D ft_D_ok n_D hown hw (by omega) m205_o rfl 4 (by decide) (hq _ fl_D_46) (fun _ h9 => h9) rfl (by decide +kernel) rfl rfl (Nat.le_of_ble_eq_true rfl) rfl d_D_findLeap_211 (fun F211 H locs eF211 hw => ?_)
                      have m211_o : F211 (o) = .inr (3, [.ref (ad (o + 1)), .long (iL (hh)), .long (iL (kk)), .long (iL (ff - (((qq : Nat) : Int) * hh))), .long (iL (gg - (((qq : Nat) : Int) * kk)))]) := by rw [eF211]; exact va_up_self ..
                      refine lv_lload hx hb d_D_findLeap_214 (lv_at hl 4 rfl) ?_
                      refine lv_lload hx hb d_D_findLeap_216 (lv_at hl 2 rfl) ?_
                      refine lv_lload hx hb d_D_findLeap_218 (lv_at hl 5 rfl) ?_
                      refine wz_lmul hx hb d_D_findLeap_220 rfl ?_
                      refine wz_lsub hx hb d_D_findLeap_221 rfl ?_
                      refine lv_lstore (lv' := [(15, .long (iL (hi - (((qq : Nat) : Int) * lo)))), (13, .long (iL (gg - (((qq : Nat) : Int) * kk)))), (11, .long (iL (ff - (((qq : Nat) : Int) * hh)))), (9, .long (iL (((qq : Nat) : Int)))), (8, .int (iI ((i : Int)))), (4, .long (iL (hi))), (6, .long (iL (lo))), (0, .ref (ad (o)))]) hx hb d_D_findLeap_222 hl (by decide) rfl (fun ls hl => ?_)
                      refine lv_lload hx hb d_D_findLeap_224 (lv_at hl 6 rfl) ?_
                      refine lv_lstore (lv' := [(4, .long (iL (lo))), (15, .long (iL (hi - (((qq : Nat) : Int) * lo)))), (13, .long (iL (gg - (((qq : Nat) : Int) * kk)))), (11, .long (iL (ff - (((qq : Nat) : Int) * hh)))), (9, .long (iL (((qq : Nat) : Int)))), (8, .int (iI ((i : Int)))), (6, .long (iL (lo))), (0, .ref (ad (o)))]) hx hb d_D_findLeap_226 hl (by decide) rfl (fun ls hl => ?_)
                      refine lv_lload hx hb d_D_findLeap_228 (lv_at hl 1 rfl) ?_
                      refine lv_lstore (lv' := [(6, .long (iL (hi - (((qq : Nat) : Int) * lo)))), (4, .long (iL (lo))), (15, .long (iL (hi - (((qq : Nat) : Int) * lo)))), (13, .long (iL (gg - (((qq : Nat) : Int) * kk)))), (11, .long (iL (ff - (((qq : Nat) : Int) * hh)))), (9, .long (iL (((qq : Nat) : Int)))), (8, .int (iI ((i : Int)))), (0, .ref (ad (o)))]) hx hb d_D_findLeap_230 hl (by decide) rfl (fun ls hl => ?_)
                      refine wz_iinc (z := ((i + 1 : Nat) : Int)) (lv' := [(8, .int (iI (((i + 1 : Nat) : Int)))), (6, .long (iL (hi - (((qq : Nat) : Int) * lo)))), (4, .long (iL (lo))), (15, .long (iL (hi - (((qq : Nat) : Int) * lo)))), (13, .long (iL (gg - (((qq : Nat) : Int) * kk)))), (11, .long (iL (ff - (((qq : Nat) : Int) * hh)))), (9, .long (iL (((qq : Nat) : Int)))), (0, .ref (ad (o)))]) hx hb d_D_findLeap_232 hl (k := 6) rfl (by omega) (by decide) rfl (fun ls hl => ?_)
                      refine lv_goto (tgt := 50) hx hb d_D_findLeap_235 (by decide) ?_
                      exact ih50 (i + 1) hh kk (ff - (qq : Int) * hh) (gg - (qq : Int) * kk) lo (hi - (qq : Int) * lo) _ _ _ ls (by omega) (by omega) (lpI_s hI hc9 hd9 hhi9 hlo9 (by omega) (by omega) hqe (by rw [← hqe2]; omega) c168 c179) (fun y h1 => by rw [eF211, va_up_ne _ _ h1, eF205, va_up_ne _ _ h1, eF199, va_up_ne _ _ h1, eF191, va_up_ne _ _ h1]; exact hfr y h1) m211_o hw (lv_sub hl [0, 2, 1, 7] rfl)
                    · refine lv_goto (tgt := 238) hx hb d_D_findLeap_183 (by decide) ?_
                      refine lv_aload_n hx hb d_D_findLeap_238 rfl (lv_at hl 6 rfl) ?_
                      refine pw_get (ci := 3) (C := R_D) (T := T_D) (N := 5) hx hb hq i_D hown hw (by omega) hO_o rfl 2 (by decide) (hq _ fl_D_36) (fun _ h9 => h9) rfl d_D_findLeap_239 ?_
                      refine lv_lconst (v := iL 0) hx hb d_D_findLeap_242 (by decide) ?_
                      refine wz_lcmp_eq (tgt := 251) hx hb d_D_findLeap_243 d_D_findLeap_244 (by decide) (by omega) (by omega) (by omega) (by omega) (fun c243 => ?_) (fun c243 => ?_)
                      · refine wz_iconst (n := 0) hx hb d_D_findLeap_251 ?_
                        have hI9 := hI
                        obtain ⟨-, -, sg, bf, bh, -, -, -, -, hi0g, x', y', hE, ex, ey⟩ := hI9
                        rw [← hQ]
                        exact pw_zret hx hb hr (by decide) hlocks hw (⟨ff, gg, hh, kk, hO_o, hfr, Or.inl rfl⟩) d_D_findLeap_252
                      · refine wz_iconst (n := 1) hx hb d_D_findLeap_247 ?_
                        refine lv_goto (tgt := 252) hx hb d_D_findLeap_248 (by decide) ?_
                        have hI9 := hI
                        obtain ⟨-, -, sg, bf, bh, -, -, -, -, hi0g, x', y', hE, ex, ey⟩ := hI9
                        rw [← hQ]
                        exact pw_zret hx hb hr (by decide) hlocks hw (⟨ff, gg, hh, kk, hO_o, hfr, Or.inr ⟨rfl, by omega, by omega, by omega, by omega, by omega, by omega, i - 1, x', y', by rw [show i - 1 + 1 = i by omega]; exact hE, ex, ey⟩⟩) d_D_findLeap_252
                · refine lv_goto (tgt := 238) hx hb d_D_findLeap_128 (by decide) ?_
                  refine lv_aload_n hx hb d_D_findLeap_238 rfl (lv_at hl 4 rfl) ?_
                  refine pw_get (ci := 3) (C := R_D) (T := T_D) (N := 5) hx hb hq i_D hown hw (by omega) hO_o rfl 2 (by decide) (hq _ fl_D_36) (fun _ h9 => h9) rfl d_D_findLeap_239 ?_
                  refine lv_lconst (v := iL 0) hx hb d_D_findLeap_242 (by decide) ?_
                  refine wz_lcmp_eq (tgt := 251) hx hb d_D_findLeap_243 d_D_findLeap_244 (by decide) (by omega) (by omega) (by omega) (by omega) (fun c243 => ?_) (fun c243 => ?_)
                  · refine wz_iconst (n := 0) hx hb d_D_findLeap_251 ?_
                    have hI9 := hI
                    obtain ⟨-, -, sg, bf, bh, -, -, -, -, hi0g, x', y', hE, ex, ey⟩ := hI9
                    rw [← hQ]
                    exact pw_zret hx hb hr (by decide) hlocks hw (⟨ff, gg, hh, kk, hO_o, hfr, Or.inl rfl⟩) d_D_findLeap_252
                  · refine wz_iconst (n := 1) hx hb d_D_findLeap_247 ?_
                    refine lv_goto (tgt := 252) hx hb d_D_findLeap_248 (by decide) ?_
                    have hI9 := hI
                    obtain ⟨-, -, sg, bf, bh, -, -, -, -, hi0g, x', y', hE, ex, ey⟩ := hI9
                    rw [← hQ]
                    exact pw_zret hx hb hr (by decide) hlocks hw (⟨ff, gg, hh, kk, hO_o, hfr, Or.inr ⟨rfl, by omega, by omega, by omega, by omega, by omega, by omega, i - 1, x', y', by rw [show i - 1 + 1 = i by omega]; exact hE, ex, ey⟩⟩) d_D_findLeap_252
    exact K50 _ 0 1 0 0 1 (hi0 : Int) (lo0 : Int) _ _ _ ls (Nat.lt_succ_self _) (by omega) (lpI_0 lhi llo) (fun y h1 => by rw [eF17, va_up_ne _ _ h1, eF12, va_up_ne _ _ h1, eF7, va_up_ne _ _ h1, eF2, va_up_ne _ _ h1]) m17_o hw (lv_sub hl [0, 2, 1, 4] rfl)
  rw [hH, hlo] at hgo
  exact hgo
