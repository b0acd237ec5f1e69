/-! the law's own methods: by program -/
set_option maxHeartbeats 4000000 in
set_option maxRecDepth 100000 in
/-- the law's set -/
theorem c_L_set (l : Launch) (D : va_G) (ty : Nat → ClassId) (ad : Nat → Nat) (M : Nat) (F : Nat → va_E) (sz : Nat) (hl0 : l.stackTraces = false) (hM : 104 < M) (g : Sg) (hDk : Dk ty ad F g) (hok : okS g) (to : Int) (hto : -2147483648 ≤ to ∧ to < 2147483648) (t0 : Int) (ht0 : -9223372036854775808 ≤ t0 ∧ t0 < 9223372036854775808) (b0 : Int) (hb0 : -9223372036854775808 ≤ b0 ∧ b0 < 9223372036854775808) :
    XI l y_L_set w_L_set ({ frames := 8, cells := 8, slots := 48, locals := 183 } : Room) [.ref (ad (0)), .int (iI (to)), .long (iL (t0)), .long (iL (b0))] D ty ad M F sz 8 48 (fun r F1 => r = iI (o_set g to t0 b0).1 ∧ Dk ty ad F1 (o_set g to t0 b0).2.2 ∧ frD F F1) (fun _ => False) := by
  refine vx_ofWH (cc := b_L_set) (maxL := 7) (ret := (some .int)) (hh := [(0, 8, 11, 13)]) (by decide) rfl ?_
  intro p e s m args below meth c s₁ B hml hv
  obtain ⟨rfl, ⟨hsz, hP, hK, hD0⟩, hxk⟩ := hv
  have hx := B.exec
  have hb := B.bytes
  have hr := B.returns
  have hts := atoms_spec (ws := w_L_set) B.pre
  have hq : ∀ w ∈ wT, w.before _ s = true := fun w h => hts w (List.mem_cons_of_mem _ h)
  have htab := vx_table (x := y_L_set) B (hts _ List.mem_cons_self)
  have hown : s.vm.findClass R_L = some m.cls := findClass_of_methodNamed B.named
  have hlocks := B.notSynchronized
  subst hsz
  have hw := pw_start hP hK hD0
  have hl := lv_entry ([.ref (ad (0)), .int (iI (to)), .long (iL (t0)), .long (iL (b0))]) (n := 7) (Nat.le_of_ble_eq_true rfl)
  rw [lg_entry_eq]
  generalize (lg_sl ([.ref (ad (0)), .int (iI (to)), .long (iL (t0)), .long (iL (b0))]) ++ List.replicate (7 - (lg_sl ([.ref (ad (0)), .int (iI (to)), .long (iL (t0)), .long (iL (b0))])).length) Slot.unset).toArray = ls at hl ⊢
  have hl : lv_has ls 7 [(0, .ref (ad (0))), (1, .int (iI (to))), (2, .long (iL (t0))), (4, .long (iL (b0)))] := hl
  change W p l e ({ frames := 8, cells := 8, slots := 48, locals := 183 } : Room) s m ([.ref (ad (0)), .int (iI (to)), .long (iL (t0)), .long (iL (b0))]).toArray below meth c s.heap [] 0 0 (vx_MQ below (va_Qi (fun r F1 => r = iI (o_set g to t0 b0).1 ∧ Dk ty ad F1 (o_set g to t0 b0).2.2 ∧ frD F F1) (pAt D classes (tysL ty) ad M (pA ad M s.heap.size)) (pA ad M s.heap.size)) (xX D ty ad M s.heap.size (fun _ => False)) ([.ref (ad (0)), .int (iI (to)), .long (iL (t0)), .long (iL (b0))]).toArray s 8 48 (pA ad M s.heap.size)) (F0 m 0 ls [])
  generalize hQ : vx_MQ below (va_Qi (fun r F1 => r = iI (o_set g to t0 b0).1 ∧ Dk ty ad F1 (o_set g to t0 b0).2.2 ∧ frD F F1) (pAt D classes (tysL ty) ad M (pA ad M s.heap.size)) (pA ad M s.heap.size)) (xX D ty ad M s.heap.size (fun _ => False)) ([.ref (ad (0)), .int (iI (to)), .long (iL (t0)), .long (iL (b0))]).toArray s 8 48 (pA ad M s.heap.size) = Q
  obtain ⟨H, hH⟩ : ∃ H, H = s.heap := ⟨_, rfl⟩
  obtain ⟨locs, hlo⟩ : ∃ z : List Loc, z = [] := ⟨_, rfl⟩
  have hw : pw D classes (tysL ty) ad M F (pA ad M s.heap.size) s H locs := by rw [hH, hlo]; exact hw
  have hgo : W p l e ({ frames := 8, cells := 8, slots := 48, locals := 183 } : Room) s m ([.ref (ad (0)), .int (iI (to)), .long (iL (t0)), .long (iL (b0))]).toArray below meth c H locs 0 0 Q (F0 m 0 ls []) := by
    refine lv_aload_n hx hb d_L_set_0 rfl (lv_at hl 0 rfl) ?_
    refine lv_iload_n hx hb d_L_set_1 rfl (lv_at hl 1 rfl) ?_
    refine lv_lload_n hx hb d_L_set_2 rfl (lv_at hl 2 rfl) ?_
    refine lv_lload hx hb d_L_set_3 (lv_at hl 3 rfl) ?_
    refine px_callv hw (vx_runV (As := [.int (iI (to)), .long (iL (t0)), .long (iL (b0))]) (rest := []) ⟨hx, hb, hml, hown, hq⟩ (c_K_set l D ty ad M F H.size hl0 (by omega) g hDk hok to hto t0 ht0 b0 hb0) (cwV 3 hq (gV ml_L_7 im_K_set se_K_set in_K m_K_set) rfl rfl rfl (by decide +kernel) ⟨Nat.le_of_ble_eq_true rfl, Nat.le_of_ble_eq_true rfl⟩) (px_preV hw hxk (by omega) hDk.1 rfl) rfl rfl hl.1 rfl (lv_room (Nat.le_of_ble_eq_true rfl)) d_L_set_5 ⟨Nat.le_of_ble_eq_true rfl, Nat.le_of_ble_eq_true rfl⟩) ?_ ?_
    · intro E9 ce9 q9 F9 H locs hp9 hw h1 h2 h3
      obtain ⟨hE, hDk9, hfr9⟩ := hp9
      rcases hE with ⟨hA9, hE⟩ | ⟨hA9, hE⟩
      · dsimp only at hE
        subst hE
        refine vx_catch (own := R_L) (name := xE) hown [] _ [] htab (fun z hz => by cases hz) rfl (by decide) (hq _ cl_L_13) (hxk.2.2.1.to _ (by decide)) h1 h2 h3 ?_
        change W p l e ({ frames := 8, cells := 8, slots := 48, locals := 183 } : Room) s m ([.ref (ad (0)), .int (iI (to)), .long (iL (t0)), .long (iL (b0))]).toArray below meth c H locs 8 48 Q (F0 m 11 ls [.ref (q9)])
        refine lv_astore (lv' := [(6, .ref (q9)), (0, .ref (ad (0))), (1, .int (iI (to))), (2, .long (iL (t0))), (4, .long (iL (b0)))]) hx hb d_L_set_11 hl (by decide) rfl (fun ls hl => ?_)
        refine wz_iconst (n := 1) hx hb d_L_set_13 ?_
        rw [← hQ]
        refine W.widen (k := 8) (n := 48) (Nat.le_of_ble_eq_true rfl) (Nat.le_of_ble_eq_true rfl) ?_
        exact vx_ret (pw_iret hx hb hr hlocks hw (⟨by rw [hA9], hDk9, hfr9⟩) d_L_set_14)
      · exact absurd hA9 (by rcases (b_set g to t0 b0).1 with h9 | h9 <;> rw [h9] <;> decide)
    intro F5 H locs q5 hw
    obtain ⟨hA0, hDk1, hfrA⟩ := q5
    refine lv_goto (tgt := 15) hx hb d_L_set_8 (by decide) ?_
    refine wz_iconst (n := 0) hx hb d_L_set_15 ?_
    rw [← hQ]
    refine W.widen (k := 8) (n := 48) (Nat.le_of_ble_eq_true rfl) (Nat.le_of_ble_eq_true rfl) ?_
    exact vx_ret (pw_iret hx hb hr hlocks hw (⟨by rw [hA0], hDk1, hfrA⟩) d_L_set_16)
  rw [hH, hlo] at hgo
  exact hgo
set_option maxHeartbeats 4000000 in
set_option maxRecDepth 100000 in
/-- the law's combine -/
theorem c_L_combine (l : Launch) (D : va_G) (ty : Nat → ClassId) (ad : Nat → Nat) (M : Nat) (F : Nat → va_E) (sz : Nat) (hl0 : l.stackTraces = false) (hM : 104 < M) (g : Sg) (hDk : Dk ty ad F g) (hok : okS g) (to : Int) (hto : -2147483648 ≤ to ∧ to < 2147483648) (kd : Int) (hkd : -2147483648 ≤ kd ∧ kd < 2147483648) (a : Int) (ha : -2147483648 ≤ a ∧ a < 2147483648) (b1 : Int) (hb1 : -2147483648 ≤ b1 ∧ b1 < 2147483648) (o0 : Nat → Int64) (h104 : F 104 = .inl (ty 3, 1, .inr (.inl (o0)))) :
    XI l y_L_combine w_L_combine ({ frames := 8, cells := 8, slots := 48, locals := 185 } : Room) [.ref (ad (0)), .int (iI (to)), .int (iI (kd)), .int (iI (a)), .int (iI (b1)), .ref (ad (104))] D ty ad M F sz 8 48 (lPost ty ad F (o_combine g to kd a b1)) (fun _ => False) := by
  refine vx_ofWH (cc := b_L_combine) (maxL := 7) (ret := (some .int)) (hh := [(0, 14, 17, 13)]) (by decide) rfl ?_
  intro p e s m args below meth c s₁ B hml hv
  obtain ⟨rfl, ⟨hsz, hP, hK, hD0⟩, hxk⟩ := hv
  have hx := B.exec
  have hb := B.bytes
  have hr := B.returns
  have hts := atoms_spec (ws := w_L_combine) B.pre
  have hq : ∀ w ∈ wT, w.before _ s = true := fun w h => hts w (List.mem_cons_of_mem _ h)
  have htab := vx_table (x := y_L_combine) B (hts _ List.mem_cons_self)
  have hown : s.vm.findClass R_L = some m.cls := findClass_of_methodNamed B.named
  have hlocks := B.notSynchronized
  subst hsz
  have hw := pw_start hP hK hD0
  have hl := lv_entry ([.ref (ad (0)), .int (iI (to)), .int (iI (kd)), .int (iI (a)), .int (iI (b1)), .ref (ad (104))]) (n := 7) (Nat.le_of_ble_eq_true rfl)
  rw [lg_entry_eq]
  generalize (lg_sl ([.ref (ad (0)), .int (iI (to)), .int (iI (kd)), .int (iI (a)), .int (iI (b1)), .ref (ad (104))]) ++ List.replicate (7 - (lg_sl ([.ref (ad (0)), .int (iI (to)), .int (iI (kd)), .int (iI (a)), .int (iI (b1)), .ref (ad (104))])).length) Slot.unset).toArray = ls at hl ⊢
  have hl : lv_has ls 7 [(0, .ref (ad (0))), (1, .int (iI (to))), (2, .int (iI (kd))), (3, .int (iI (a))), (4, .int (iI (b1))), (5, .ref (ad (104)))] := hl
  change W p l e ({ frames := 8, cells := 8, slots := 48, locals := 185 } : Room) s m ([.ref (ad (0)), .int (iI (to)), .int (iI (kd)), .int (iI (a)), .int (iI (b1)), .ref (ad (104))]).toArray below meth c s.heap [] 0 0 (vx_MQ below (va_Qi (lPost ty ad F (o_combine g to kd a b1)) (pAt D classes (tysL ty) ad M (pA ad M s.heap.size)) (pA ad M s.heap.size)) (xX D ty ad M s.heap.size (fun _ => False)) ([.ref (ad (0)), .int (iI (to)), .int (iI (kd)), .int (iI (a)), .int (iI (b1)), .ref (ad (104))]).toArray s 8 48 (pA ad M s.heap.size)) (F0 m 0 ls [])
  generalize hQ : vx_MQ below (va_Qi (lPost ty ad F (o_combine g to kd a b1)) (pAt D classes (tysL ty) ad M (pA ad M s.heap.size)) (pA ad M s.heap.size)) (xX D ty ad M s.heap.size (fun _ => False)) ([.ref (ad (0)), .int (iI (to)), .int (iI (kd)), .int (iI (a)), .int (iI (b1)), .ref (ad (104))]).toArray s 8 48 (pA ad M s.heap.size) = Q
  obtain ⟨H, hH⟩ : ∃ H, H = s.heap := ⟨_, rfl⟩
  obtain ⟨locs, hlo⟩ : ∃ z : List Loc, z = [] := ⟨_, rfl⟩
  have hw : pw D classes (tysL ty) ad M F (pA ad M s.heap.size) s H locs := by rw [hH, hlo]; exact hw
  have hgo : W p l e ({ frames := 8, cells := 8, slots := 48, locals := 185 } : Room) s m ([.ref (ad (0)), .int (iI (to)), .int (iI (kd)), .int (iI (a)), .int (iI (b1)), .ref (ad (104))]).toArray below meth c H locs 0 0 Q (F0 m 0 ls []) := by
    have hbn := ((b_combine g to kd a b1)).2
    refine lv_aload hx hb d_L_combine_0 (lv_at hl 5 rfl) ?_
    refine wz_iconst (n := 0) hx hb d_L_combine_2 ?_
    refine lv_aload_n hx hb d_L_combine_3 rfl (lv_at hl 0 rfl) ?_
    refine lv_iload_n hx hb d_L_combine_4 rfl (lv_at hl 1 rfl) ?_
    refine lv_iload_n hx hb d_L_combine_5 rfl (lv_at hl 2 rfl) ?_
    refine lv_iload_n hx hb d_L_combine_6 rfl (lv_at hl 3 rfl) ?_
    refine lv_iload hx hb d_L_combine_7 (lv_at hl 4 rfl) ?_
    refine px_calli hw (vx_runV (As := [.int (iI (to)), .int (iI (kd)), .int (iI (a)), .int (iI (b1))]) (rest := [.int (iI (0)), .ref (ad (104))]) ⟨hx, hb, hml, hown, hq⟩ (c_K_combine l D ty ad M F H.size hl0 (by omega) g hDk hok to hto kd hkd a ha b1 hb1) (cwV 4 hq (gV ml_L_15 im_K_combine se_K_combine in_K m_K_combine) rfl rfl rfl (by decide +kernel) ⟨Nat.le_of_ble_eq_true rfl, Nat.le_of_ble_eq_true rfl⟩) (px_preV hw hxk (by omega) hDk.1 rfl) rfl rfl hl.1 rfl (lv_room (Nat.le_of_ble_eq_true rfl)) d_L_combine_9 ⟨Nat.le_of_ble_eq_true rfl, Nat.le_of_ble_eq_true rfl⟩) ?_ ?_
    · intro E9 ce9 q9 F9 H locs hp9 hw h1 h2 h3
      obtain ⟨hE, hDk9, hfr9⟩ := hp9
      have h104_9 : F9 (104) = .inl (ty 3, 1, .inr (.inl (o0))) := (hfr9 104 (by omega)).trans h104
      rcases hE with ⟨hA9, hE⟩ | ⟨hA9, hE⟩
      · dsimp only at hE
        subst hE
        refine vx_catch (own := R_L) (name := xE) hown [] _ [] htab (fun z hz => by cases hz) rfl (by decide) (hq _ cl_L_13) (hxk.2.2.1.to _ (by decide)) h1 h2 h3 ?_
        change W p l e ({ frames := 8, cells := 8, slots := 48, locals := 185 } : Room) s m ([.ref (ad (0)), .int (iI (to)), .int (iI (kd)), .int (iI (a)), .int (iI (b1)), .ref (ad (104))]).toArray below meth c H locs 8 48 Q (F0 m 17 ls [.ref (q9)])
        refine lv_astore (lv' := [(6, .ref (q9)), (0, .ref (ad (0))), (1, .int (iI (to))), (2, .int (iI (kd))), (3, .int (iI (a))), (4, .int (iI (b1))), (5, .ref (ad (104)))]) hx hb d_L_combine_17 hl (by decide) rfl (fun ls hl => ?_)
        refine wz_iconst (n := 1) hx hb d_L_combine_19 ?_
        rw [← hQ]
        refine W.widen (k := 8) (n := 48) (Nat.le_of_ble_eq_true rfl) (Nat.le_of_ble_eq_true rfl) ?_
        exact vx_ret (pw_iret hx hb hr hlocks hw (⟨by rw [hA9], hDk9, ⟨_, h104_9, fun h9 => absurd (h9.symm.trans hA9) (by decide)⟩, fun y9 h1 h2 => hfr9 y9 h1⟩) d_L_combine_20)
      · exact absurd hA9 (by rcases (b_combine g to kd a b1).1 with h9 | h9 <;> rw [h9] <;> decide)
    intro r9 F9 H locs q9 hw
    obtain ⟨hA0, er9, hDk1, hfrA⟩ := q9
    subst er9
    have h104_at_9 : F9 (104) = .inl (ty 3, 1, .inr (.inl (o0))) := (hfrA (104) (by omega)).trans h104
    refine wz_i2l hx hb d_L_combine_12 (hbn.1) (hbn.2) ?_
    refine pw_last (k := 0) hx hb hw 3 (by omega) h104_at_9 rfl (iI_in (by omega) (by omega) (by omega)) ((iI_cl (by omega) (by omega)).trans (by omega)) d_L_combine_13 (fun F13 H locs eF13 hw => ?_)
    have m13_104 : F13 (104) = .inl (ty 3, 1, .inr (.inl (vp_updL o0 (0) (iL ((o_combine g to kd a b1).2.1))))) := by rw [eF13]; exact va_up_self ..
    refine lv_goto (tgt := 21) hx hb d_L_combine_14 (by decide) ?_
    refine wz_iconst (n := 0) hx hb d_L_combine_21 ?_
    rw [← hQ]
    refine W.widen (k := 8) (n := 48) (Nat.le_of_ble_eq_true rfl) (Nat.le_of_ble_eq_true rfl) ?_
    exact vx_ret (pw_iret hx hb hr hlocks hw (⟨by rw [hA0], Dk.fr hDk1 (fun y9 h1 => show F13 (y9) = F9 (y9) from by rw [eF13]; exact va_up_ne _ _ (by omega)), ⟨_, m13_104, fun _ => updL_s ..⟩, fun y9 h1 h2 => (show F13 (y9) = F9 (y9) from by rw [eF13]; exact va_up_ne _ _ (by omega)).trans (hfrA (y9) (by omega))⟩) d_L_combine_22)
  rw [hH, hlo] at hgo
  exact hgo
set_option maxHeartbeats 4000000 in
set_option maxRecDepth 100000 in
/-- the law's change -/
theorem c_L_change (l : Launch) (D : va_G) (ty : Nat → ClassId) (ad : Nat → Nat) (M : Nat) (F : Nat → va_E) (sz : Nat) (hl0 : l.stackTraces = false) (hM : 104 < M) (g : Sg) (hDk : Dk ty ad F g) (hok : okS g) (to : Int) (hto : -2147483648 ≤ to ∧ to < 2147483648) (kd : Int) (hkd : -2147483648 ≤ kd ∧ kd < 2147483648) (a : Int) (ha : -2147483648 ≤ a ∧ a < 2147483648) (o0 : Nat → Int64) (h104 : F 104 = .inl (ty 3, 1, .inr (.inl (o0)))) :
    XI l y_L_change w_L_change ({ frames := 8, cells := 8, slots := 48, locals := 176 } : Room) [.ref (ad (0)), .int (iI (to)), .int (iI (kd)), .int (iI (a)), .ref (ad (104))] D ty ad M F sz 8 48 (lPost ty ad F (o_change g to kd a)) (fun _ => False) := by
  refine vx_ofWH (cc := b_L_change) (maxL := 6) (ret := (some .int)) (hh := [(0, 12, 15, 13)]) (by decide) rfl ?_
  intro p e s m args below meth c s₁ B hml hv
  obtain ⟨rfl, ⟨hsz, hP, hK, hD0⟩, hxk⟩ := hv
  have hx := B.exec
  have hb := B.bytes
  have hr := B.returns
  have hts := atoms_spec (ws := w_L_change) B.pre
  have hq : ∀ w ∈ wT, w.before _ s = true := fun w h => hts w (List.mem_cons_of_mem _ h)
  have htab := vx_table (x := y_L_change) B (hts _ List.mem_cons_self)
  have hown : s.vm.findClass R_L = some m.cls := findClass_of_methodNamed B.named
  have hlocks := B.notSynchronized
  subst hsz
  have hw := pw_start hP hK hD0
  have hl := lv_entry ([.ref (ad (0)), .int (iI (to)), .int (iI (kd)), .int (iI (a)), .ref (ad (104))]) (n := 6) (Nat.le_of_ble_eq_true rfl)
  rw [lg_entry_eq]
  generalize (lg_sl ([.ref (ad (0)), .int (iI (to)), .int (iI (kd)), .int (iI (a)), .ref (ad (104))]) ++ List.replicate (6 - (lg_sl ([.ref (ad (0)), .int (iI (to)), .int (iI (kd)), .int (iI (a)), .ref (ad (104))])).length) Slot.unset).toArray = ls at hl ⊢
  have hl : lv_has ls 6 [(0, .ref (ad (0))), (1, .int (iI (to))), (2, .int (iI (kd))), (3, .int (iI (a))), (4, .ref (ad (104)))] := hl
  change W p l e ({ frames := 8, cells := 8, slots := 48, locals := 176 } : Room) s m ([.ref (ad (0)), .int (iI (to)), .int (iI (kd)), .int (iI (a)), .ref (ad (104))]).toArray below meth c s.heap [] 0 0 (vx_MQ below (va_Qi (lPost ty ad F (o_change g to kd a)) (pAt D classes (tysL ty) ad M (pA ad M s.heap.size)) (pA ad M s.heap.size)) (xX D ty ad M s.heap.size (fun _ => False)) ([.ref (ad (0)), .int (iI (to)), .int (iI (kd)), .int (iI (a)), .ref (ad (104))]).toArray s 8 48 (pA ad M s.heap.size)) (F0 m 0 ls [])
  generalize hQ : vx_MQ below (va_Qi (lPost ty ad F (o_change g to kd a)) (pAt D classes (tysL ty) ad M (pA ad M s.heap.size)) (pA ad M s.heap.size)) (xX D ty ad M s.heap.size (fun _ => False)) ([.ref (ad (0)), .int (iI (to)), .int (iI (kd)), .int (iI (a)), .ref (ad (104))]).toArray s 8 48 (pA ad M s.heap.size) = Q
  obtain ⟨H, hH⟩ : ∃ H, H = s.heap := ⟨_, rfl⟩
  obtain ⟨locs, hlo⟩ : ∃ z : List Loc, z = [] := ⟨_, rfl⟩
  have hw : pw D classes (tysL ty) ad M F (pA ad M s.heap.size) s H locs := by rw [hH, hlo]; exact hw
  have hgo : W p l e ({ frames := 8, cells := 8, slots := 48, locals := 176 } : Room) s m ([.ref (ad (0)), .int (iI (to)), .int (iI (kd)), .int (iI (a)), .ref (ad (104))]).toArray below meth c H locs 0 0 Q (F0 m 0 ls []) := by
    have hbn := ((b_change g to kd a)).2
    refine lv_aload hx hb d_L_change_0 (lv_at hl 4 rfl) ?_
    refine wz_iconst (n := 0) hx hb d_L_change_2 ?_
    refine lv_aload_n hx hb d_L_change_3 rfl (lv_at hl 0 rfl) ?_
    refine lv_iload_n hx hb d_L_change_4 rfl (lv_at hl 1 rfl) ?_
    refine lv_iload_n hx hb d_L_change_5 rfl (lv_at hl 2 rfl) ?_
    refine lv_iload_n hx hb d_L_change_6 rfl (lv_at hl 3 rfl) ?_
    refine px_calli hw (vx_runV (As := [.int (iI (to)), .int (iI (kd)), .int (iI (a))]) (rest := [.int (iI (0)), .ref (ad (104))]) ⟨hx, hb, hml, hown, hq⟩ (c_K_change l D ty ad M F H.size hl0 (by omega) g hDk hok to hto kd hkd a ha) (cwV 3 hq (gV ml_L_19 im_K_change se_K_change in_K m_K_change) rfl rfl rfl (by decide +kernel) ⟨Nat.le_of_ble_eq_true rfl, Nat.le_of_ble_eq_true rfl⟩) (px_preV hw hxk (by omega) hDk.1 rfl) rfl rfl hl.1 rfl (lv_room (Nat.le_of_ble_eq_true rfl)) d_L_change_7 ⟨Nat.le_of_ble_eq_true rfl, Nat.le_of_ble_eq_true rfl⟩) ?_ ?_
    · intro E9 ce9 q9 F9 H locs hp9 hw h1 h2 h3
      obtain ⟨hE, hDk9, hfr9⟩ := hp9
      have h104_9 : F9 (104) = .inl (ty 3, 1, .inr (.inl (o0))) := (hfr9 104 (by omega)).trans h104
      rcases hE with ⟨hA9, hE⟩ | ⟨hA9, hE⟩
      · dsimp only at hE
        subst hE
        refine vx_catch (own := R_L) (name := xE) hown [] _ [] htab (fun z hz => by cases hz) rfl (by decide) (hq _ cl_L_13) (hxk.2.2.1.to _ (by decide)) h1 h2 h3 ?_
        change W p l e ({ frames := 8, cells := 8, slots := 48, locals := 176 } : Room) s m ([.ref (ad (0)), .int (iI (to)), .int (iI (kd)), .int (iI (a)), .ref (ad (104))]).toArray below meth c H locs 8 48 Q (F0 m 15 ls [.ref (q9)])
        refine lv_astore (lv' := [(5, .ref (q9)), (0, .ref (ad (0))), (1, .int (iI (to))), (2, .int (iI (kd))), (3, .int (iI (a))), (4, .ref (ad (104)))]) hx hb d_L_change_15 hl (by decide) rfl (fun ls hl => ?_)
        refine wz_iconst (n := 1) hx hb d_L_change_17 ?_
        rw [← hQ]
        refine W.widen (k := 8) (n := 48) (Nat.le_of_ble_eq_true rfl) (Nat.le_of_ble_eq_true rfl) ?_
        exact vx_ret (pw_iret hx hb hr hlocks hw (⟨by rw [hA9], hDk9, ⟨_, h104_9, fun h9 => absurd (h9.symm.trans hA9) (by decide)⟩, fun y9 h1 h2 => hfr9 y9 h1⟩) d_L_change_18)
      · exact absurd hA9 (by rcases (b_change g to kd a).1 with h9 | h9 <;> rw [h9] <;> decide)
    intro r7 F7 H locs q7 hw
    obtain ⟨hA0, er7, hDk1, hfrA⟩ := q7
    subst er7
    have h104_at_7 : F7 (104) = .inl (ty 3, 1, .inr (.inl (o0))) := (hfrA (104) (by omega)).trans h104
    refine wz_i2l hx hb d_L_change_10 (hbn.1) (hbn.2) ?_
    refine pw_last (k := 0) hx hb hw 3 (by omega) h104_at_7 rfl (iI_in (by omega) (by omega) (by omega)) ((iI_cl (by omega) (by omega)).trans (by omega)) d_L_change_11 (fun F11 H locs eF11 hw => ?_)
    have m11_104 : F11 (104) = .inl (ty 3, 1, .inr (.inl (vp_updL o0 (0) (iL ((o_change g to kd a).2.1))))) := by rw [eF11]; exact va_up_self ..
    refine lv_goto (tgt := 19) hx hb d_L_change_12 (by decide) ?_
    refine wz_iconst (n := 0) hx hb d_L_change_19 ?_
    rw [← hQ]
    refine W.widen (k := 8) (n := 48) (Nat.le_of_ble_eq_true rfl) (Nat.le_of_ble_eq_true rfl) ?_
    exact vx_ret (pw_iret hx hb hr hlocks hw (⟨by rw [hA0], Dk.fr hDk1 (fun y9 h1 => show F11 (y9) = F7 (y9) from by rw [eF11]; exact va_up_ne _ _ (by omega)), ⟨_, m11_104, fun _ => updL_s ..⟩, fun y9 h1 h2 => (show F11 (y9) = F7 (y9) from by rw [eF11]; exact va_up_ne _ _ (by omega)).trans (hfrA (y9) (by omega))⟩) d_L_change_20)
  rw [hH, hlo] at hgo
  exact hgo
set_option maxHeartbeats 4000000 in
set_option maxRecDepth 100000 in
/-- the law's power -/
theorem c_L_power (l : Launch) (D : va_G) (ty : Nat → ClassId) (ad : Nat → Nat) (M : Nat) (F : Nat → va_E) (sz : Nat) (hl0 : l.stackTraces = false) (hM : 104 < M) (g : Sg) (hDk : Dk ty ad F g) (hok : okS g) (to : Int) (hto : -2147483648 ≤ to ∧ to < 2147483648) (a : Int) (ha : -2147483648 ≤ a ∧ a < 2147483648) (n : Int) (hn : -2147483648 ≤ n ∧ n < 2147483648) (o0 : Nat → Int64) (h104 : F 104 = .inl (ty 3, 1, .inr (.inl (o0)))) :
    XI l y_L_power w_L_power ({ frames := 8, cells := 8, slots := 48, locals := 176 } : Room) [.ref (ad (0)), .int (iI (to)), .int (iI (a)), .int (iI (n)), .ref (ad (104))] D ty ad M F sz 8 48 (lPost ty ad F (o_power g to a n)) (fun _ => False) := by
  refine vx_ofWH (cc := b_L_power) (maxL := 6) (ret := (some .int)) (hh := [(0, 12, 15, 13)]) (by decide) rfl ?_
  intro p e s m args below meth c s₁ B hml hv
  obtain ⟨rfl, ⟨hsz, hP, hK, hD0⟩, hxk⟩ := hv
  have hx := B.exec
  have hb := B.bytes
  have hr := B.returns
  have hts := atoms_spec (ws := w_L_power) B.pre
  have hq : ∀ w ∈ wT, w.before _ s = true := fun w h => hts w (List.mem_cons_of_mem _ h)
  have htab := vx_table (x := y_L_power) B (hts _ List.mem_cons_self)
  have hown : s.vm.findClass R_L = some m.cls := findClass_of_methodNamed B.named
  have hlocks := B.notSynchronized
  subst hsz
  have hw := pw_start hP hK hD0
  have hl := lv_entry ([.ref (ad (0)), .int (iI (to)), .int (iI (a)), .int (iI (n)), .ref (ad (104))]) (n := 6) (Nat.le_of_ble_eq_true rfl)
  rw [lg_entry_eq]
  generalize (lg_sl ([.ref (ad (0)), .int (iI (to)), .int (iI (a)), .int (iI (n)), .ref (ad (104))]) ++ List.replicate (6 - (lg_sl ([.ref (ad (0)), .int (iI (to)), .int (iI (a)), .int (iI (n)), .ref (ad (104))])).length) Slot.unset).toArray = ls at hl ⊢
  have hl : lv_has ls 6 [(0, .ref (ad (0))), (1, .int (iI (to))), (2, .int (iI (a))), (3, .int (iI (n))), (4, .ref (ad (104)))] := hl
  change W p l e ({ frames := 8, cells := 8, slots := 48, locals := 176 } : Room) s m ([.ref (ad (0)), .int (iI (to)), .int (iI (a)), .int (iI (n)), .ref (ad (104))]).toArray below meth c s.heap [] 0 0 (vx_MQ below (va_Qi (lPost ty ad F (o_power g to a n)) (pAt D classes (tysL ty) ad M (pA ad M s.heap.size)) (pA ad M s.heap.size)) (xX D ty ad M s.heap.size (fun _ => False)) ([.ref (ad (0)), .int (iI (to)), .int (iI (a)), .int (iI (n)), .ref (ad (104))]).toArray s 8 48 (pA ad M s.heap.size)) (F0 m 0 ls [])
  generalize hQ : vx_MQ below (va_Qi (lPost ty ad F (o_power g to a n)) (pAt D classes (tysL ty) ad M (pA ad M s.heap.size)) (pA ad M s.heap.size)) (xX D ty ad M s.heap.size (fun _ => False)) ([.ref (ad (0)), .int (iI (to)), .int (iI (a)), .int (iI (n)), .ref (ad (104))]).toArray s 8 48 (pA ad M s.heap.size) = Q
  obtain ⟨H, hH⟩ : ∃ H, H = s.heap := ⟨_, rfl⟩
  obtain ⟨locs, hlo⟩ : ∃ z : List Loc, z = [] := ⟨_, rfl⟩
  have hw : pw D classes (tysL ty) ad M F (pA ad M s.heap.size) s H locs := by rw [hH, hlo]; exact hw
  have hgo : W p l e ({ frames := 8, cells := 8, slots := 48, locals := 176 } : Room) s m ([.ref (ad (0)), .int (iI (to)), .int (iI (a)), .int (iI (n)), .ref (ad (104))]).toArray below meth c H locs 0 0 Q (F0 m 0 ls []) := by
    have hbn := ((b_power g to a n)).2
    refine lv_aload hx hb d_L_power_0 (lv_at hl 4 rfl) ?_
    refine wz_iconst (n := 0) hx hb d_L_power_2 ?_
    refine lv_aload_n hx hb d_L_power_3 rfl (lv_at hl 0 rfl) ?_
    refine lv_iload_n hx hb d_L_power_4 rfl (lv_at hl 1 rfl) ?_
    refine lv_iload_n hx hb d_L_power_5 rfl (lv_at hl 2 rfl) ?_
    refine lv_iload_n hx hb d_L_power_6 rfl (lv_at hl 3 rfl) ?_
    refine px_calli hw (vx_runV (As := [.int (iI (to)), .int (iI (a)), .int (iI (n))]) (rest := [.int (iI (0)), .ref (ad (104))]) ⟨hx, hb, hml, hown, hq⟩ (c_K_power l D ty ad M F H.size hl0 (by omega) g hDk hok to hto a ha n hn) (cwV 3 hq (gV ml_L_23 im_K_power se_K_power in_K m_K_power) rfl rfl rfl (by decide +kernel) ⟨Nat.le_of_ble_eq_true rfl, Nat.le_of_ble_eq_true rfl⟩) (px_preV hw hxk (by omega) hDk.1 rfl) rfl rfl hl.1 rfl (lv_room (Nat.le_of_ble_eq_true rfl)) d_L_power_7 ⟨Nat.le_of_ble_eq_true rfl, Nat.le_of_ble_eq_true rfl⟩) ?_ ?_
    · intro E9 ce9 q9 F9 H locs hp9 hw h1 h2 h3
      obtain ⟨hE, hDk9, hfr9⟩ := hp9
      have h104_9 : F9 (104) = .inl (ty 3, 1, .inr (.inl (o0))) := (hfr9 104 (by omega)).trans h104
      rcases hE with ⟨hA9, hE⟩ | ⟨hA9, hE⟩
      · dsimp only at hE
        subst hE
        refine vx_catch (own := R_L) (name := xE) hown [] _ [] htab (fun z hz => by cases hz) rfl (by decide) (hq _ cl_L_13) (hxk.2.2.1.to _ (by decide)) h1 h2 h3 ?_
        change W p l e ({ frames := 8, cells := 8, slots := 48, locals := 176 } : Room) s m ([.ref (ad (0)), .int (iI (to)), .int (iI (a)), .int (iI (n)), .ref (ad (104))]).toArray below meth c H locs 8 48 Q (F0 m 15 ls [.ref (q9)])
        refine lv_astore (lv' := [(5, .ref (q9)), (0, .ref (ad (0))), (1, .int (iI (to))), (2, .int (iI (a))), (3, .int (iI (n))), (4, .ref (ad (104)))]) hx hb d_L_power_15 hl (by decide) rfl (fun ls hl => ?_)
        refine wz_iconst (n := 1) hx hb d_L_power_17 ?_
        rw [← hQ]
        refine W.widen (k := 8) (n := 48) (Nat.le_of_ble_eq_true rfl) (Nat.le_of_ble_eq_true rfl) ?_
        exact vx_ret (pw_iret hx hb hr hlocks hw (⟨by rw [hA9], hDk9, ⟨_, h104_9, fun h9 => absurd (h9.symm.trans hA9) (by decide)⟩, fun y9 h1 h2 => hfr9 y9 h1⟩) d_L_power_18)
      · exact absurd hA9 (by rcases (b_power g to a n).1 with h9 | h9 <;> rw [h9] <;> decide)
    intro r7 F7 H locs q7 hw
    obtain ⟨hA0, er7, hDk1, hfrA⟩ := q7
    subst er7
    have h104_at_7 : F7 (104) = .inl (ty 3, 1, .inr (.inl (o0))) := (hfrA (104) (by omega)).trans h104
    refine wz_i2l hx hb d_L_power_10 (hbn.1) (hbn.2) ?_
    refine pw_last (k := 0) hx hb hw 3 (by omega) h104_at_7 rfl (iI_in (by omega) (by omega) (by omega)) ((iI_cl (by omega) (by omega)).trans (by omega)) d_L_power_11 (fun F11 H locs eF11 hw => ?_)
    have m11_104 : F11 (104) = .inl (ty 3, 1, .inr (.inl (vp_updL o0 (0) (iL ((o_power g to a n).2.1))))) := by rw [eF11]; exact va_up_self ..
    refine lv_goto (tgt := 19) hx hb d_L_power_12 (by decide) ?_
    refine wz_iconst (n := 0) hx hb d_L_power_19 ?_
    rw [← hQ]
    refine W.widen (k := 8) (n := 48) (Nat.le_of_ble_eq_true rfl) (Nat.le_of_ble_eq_true rfl) ?_
    exact vx_ret (pw_iret hx hb hr hlocks hw (⟨by rw [hA0], Dk.fr hDk1 (fun y9 h1 => show F11 (y9) = F7 (y9) from by rw [eF11]; exact va_up_ne _ _ (by omega)), ⟨_, m11_104, fun _ => updL_s ..⟩, fun y9 h1 h2 => (show F11 (y9) = F7 (y9) from by rw [eF11]; exact va_up_ne _ _ (by omega)).trans (hfrA (y9) (by omega))⟩) d_L_power_20)
  rw [hH, hlo] at hgo
  exact hgo
set_option maxHeartbeats 4000000 in
set_option maxRecDepth 100000 in
/-- the law's order -/
theorem c_L_order (l : Launch) (D : va_G) (ty : Nat → ClassId) (ad : Nat → Nat) (M : Nat) (F : Nat → va_E) (sz : Nat) (hl0 : l.stackTraces = false) (hM : 104 < M) (g : Sg) (hDk : Dk ty ad F g) (hok : okS g) (a : Int) (ha : -2147483648 ≤ a ∧ a < 2147483648) (b1 : Int) (hb1 : -2147483648 ≤ b1 ∧ b1 < 2147483648) (o0 : Nat → Int64) (h104 : F 104 = .inl (ty 3, 1, .inr (.inl (o0)))) :
    XI l y_L_order w_L_order ({ frames := 8, cells := 8, slots := 48, locals := 148 } : Room) [.ref (ad (0)), .int (iI (a)), .int (iI (b1)), .ref (ad (104))] D ty ad M F sz 8 48 (lPost ty ad F (o_order g a b1)) (fun _ => False) := by
  refine vx_ofWH (cc := b_L_order) (maxL := 5) (ret := (some .int)) (hh := [(0, 10, 13, 13)]) (by decide) rfl ?_
  intro p e s m args below meth c s₁ B hml hv
  obtain ⟨rfl, ⟨hsz, hP, hK, hD0⟩, hxk⟩ := hv
  have hx := B.exec
  have hb := B.bytes
  have hr := B.returns
  have hts := atoms_spec (ws := w_L_order) B.pre
  have hq : ∀ w ∈ wT, w.before _ s = true := fun w h => hts w (List.mem_cons_of_mem _ h)
  have htab := vx_table (x := y_L_order) B (hts _ List.mem_cons_self)
  have hown : s.vm.findClass R_L = some m.cls := findClass_of_methodNamed B.named
  have hlocks := B.notSynchronized
  subst hsz
  have hw := pw_start hP hK hD0
  have hl := lv_entry ([.ref (ad (0)), .int (iI (a)), .int (iI (b1)), .ref (ad (104))]) (n := 5) (Nat.le_of_ble_eq_true rfl)
  rw [lg_entry_eq]
  generalize (lg_sl ([.ref (ad (0)), .int (iI (a)), .int (iI (b1)), .ref (ad (104))]) ++ List.replicate (5 - (lg_sl ([.ref (ad (0)), .int (iI (a)), .int (iI (b1)), .ref (ad (104))])).length) Slot.unset).toArray = ls at hl ⊢
  have hl : lv_has ls 5 [(0, .ref (ad (0))), (1, .int (iI (a))), (2, .int (iI (b1))), (3, .ref (ad (104)))] := hl
  change W p l e ({ frames := 8, cells := 8, slots := 48, locals := 148 } : Room) s m ([.ref (ad (0)), .int (iI (a)), .int (iI (b1)), .ref (ad (104))]).toArray below meth c s.heap [] 0 0 (vx_MQ below (va_Qi (lPost ty ad F (o_order g a b1)) (pAt D classes (tysL ty) ad M (pA ad M s.heap.size)) (pA ad M s.heap.size)) (xX D ty ad M s.heap.size (fun _ => False)) ([.ref (ad (0)), .int (iI (a)), .int (iI (b1)), .ref (ad (104))]).toArray s 8 48 (pA ad M s.heap.size)) (F0 m 0 ls [])
  generalize hQ : vx_MQ below (va_Qi (lPost ty ad F (o_order g a b1)) (pAt D classes (tysL ty) ad M (pA ad M s.heap.size)) (pA ad M s.heap.size)) (xX D ty ad M s.heap.size (fun _ => False)) ([.ref (ad (0)), .int (iI (a)), .int (iI (b1)), .ref (ad (104))]).toArray s 8 48 (pA ad M s.heap.size) = Q
  obtain ⟨H, hH⟩ : ∃ H, H = s.heap := ⟨_, rfl⟩
  obtain ⟨locs, hlo⟩ : ∃ z : List Loc, z = [] := ⟨_, rfl⟩
  have hw : pw D classes (tysL ty) ad M F (pA ad M s.heap.size) s H locs := by rw [hH, hlo]; exact hw
  have hgo : W p l e ({ frames := 8, cells := 8, slots := 48, locals := 148 } : Room) s m ([.ref (ad (0)), .int (iI (a)), .int (iI (b1)), .ref (ad (104))]).toArray below meth c H locs 0 0 Q (F0 m 0 ls []) := by
    have hbn := ((b_order g a b1)).2
    refine lv_aload_n hx hb d_L_order_0 rfl (lv_at hl 3 rfl) ?_
    refine wz_iconst (n := 0) hx hb d_L_order_1 ?_
    refine lv_aload_n hx hb d_L_order_2 rfl (lv_at hl 0 rfl) ?_
    refine lv_iload_n hx hb d_L_order_3 rfl (lv_at hl 1 rfl) ?_
    refine lv_iload_n hx hb d_L_order_4 rfl (lv_at hl 2 rfl) ?_
    refine px_calli hw (vx_runV (As := [.int (iI (a)), .int (iI (b1))]) (rest := [.int (iI (0)), .ref (ad (104))]) ⟨hx, hb, hml, hown, hq⟩ (c_K_order l D ty ad M F H.size hl0 (by omega) g hDk hok a ha b1 hb1) (cwV 2 hq (gV ml_L_26 im_K_order se_K_order in_K m_K_order) rfl rfl rfl (by decide +kernel) ⟨Nat.le_of_ble_eq_true rfl, Nat.le_of_ble_eq_true rfl⟩) (px_preV hw hxk (by omega) hDk.1 rfl) rfl rfl hl.1 rfl (lv_room (Nat.le_of_ble_eq_true rfl)) d_L_order_5 ⟨Nat.le_of_ble_eq_true rfl, Nat.le_of_ble_eq_true rfl⟩) ?_ ?_
    · intro E9 ce9 q9 F9 H locs hp9 hw h1 h2 h3
      obtain ⟨hE, hDk9, hfr9⟩ := hp9
      have h104_9 : F9 (104) = .inl (ty 3, 1, .inr (.inl (o0))) := (hfr9 104 (by omega)).trans h104
      rcases hE with ⟨hA9, hE⟩ | ⟨hA9, hE⟩
      · dsimp only at hE
        subst hE
        refine vx_catch (own := R_L) (name := xE) hown [] _ [] htab (fun z hz => by cases hz) rfl (by decide) (hq _ cl_L_13) (hxk.2.2.1.to _ (by decide)) h1 h2 h3 ?_
        change W p l e ({ frames := 8, cells := 8, slots := 48, locals := 148 } : Room) s m ([.ref (ad (0)), .int (iI (a)), .int (iI (b1)), .ref (ad (104))]).toArray below meth c H locs 8 48 Q (F0 m 13 ls [.ref (q9)])
        refine lv_astore (lv' := [(4, .ref (q9)), (0, .ref (ad (0))), (1, .int (iI (a))), (2, .int (iI (b1))), (3, .ref (ad (104)))]) hx hb d_L_order_13 hl (by decide) rfl (fun ls hl => ?_)
        refine wz_iconst (n := 1) hx hb d_L_order_15 ?_
        rw [← hQ]
        refine W.widen (k := 8) (n := 48) (Nat.le_of_ble_eq_true rfl) (Nat.le_of_ble_eq_true rfl) ?_
        exact vx_ret (pw_iret hx hb hr hlocks hw (⟨by rw [hA9], hDk9, ⟨_, h104_9, fun h9 => absurd (h9.symm.trans hA9) (by decide)⟩, fun y9 h1 h2 => hfr9 y9 h1⟩) d_L_order_16)
      · exact absurd hA9 (by rcases (b_order g a b1).1 with h9 | h9 <;> rw [h9] <;> decide)
    intro r5 F5 H locs q5 hw
    obtain ⟨hA0, er5, hDk1, hfrA⟩ := q5
    subst er5
    have h104_at_5 : F5 (104) = .inl (ty 3, 1, .inr (.inl (o0))) := (hfrA (104) (by omega)).trans h104
    refine wz_i2l hx hb d_L_order_8 (hbn.1) (hbn.2) ?_
    refine pw_last (k := 0) hx hb hw 3 (by omega) h104_at_5 rfl (iI_in (by omega) (by omega) (by omega)) ((iI_cl (by omega) (by omega)).trans (by omega)) d_L_order_9 (fun F9 H locs eF9 hw => ?_)
    have m9_104 : F9 (104) = .inl (ty 3, 1, .inr (.inl (vp_updL o0 (0) (iL ((o_order g a b1).2.1))))) := by rw [eF9]; exact va_up_self ..
    refine lv_goto (tgt := 17) hx hb d_L_order_10 (by decide) ?_
    refine wz_iconst (n := 0) hx hb d_L_order_17 ?_
    rw [← hQ]
    refine W.widen (k := 8) (n := 48) (Nat.le_of_ble_eq_true rfl) (Nat.le_of_ble_eq_true rfl) ?_
    exact vx_ret (pw_iret hx hb hr hlocks hw (⟨by rw [hA0], Dk.fr hDk1 (fun y9 h1 => show F9 (y9) = F5 (y9) from by rw [eF9]; exact va_up_ne _ _ (by omega)), ⟨_, m9_104, fun _ => updL_s ..⟩, fun y9 h1 h2 => (show F9 (y9) = F5 (y9) from by rw [eF9]; exact va_up_ne _ _ (by omega)).trans (hfrA (y9) (by omega))⟩) d_L_order_18)
  rw [hH, hlo] at hgo
  exact hgo
set_option maxHeartbeats 4000000 in
set_option maxRecDepth 100000 in
/-- the law's sign -/
theorem c_L_sign (l : Launch) (D : va_G) (ty : Nat → ClassId) (ad : Nat → Nat) (M : Nat) (F : Nat → va_E) (sz : Nat) (hl0 : l.stackTraces = false) (hM : 104 < M) (g : Sg) (hDk : Dk ty ad F g) (hok : okS g) (a : Int) (ha : -2147483648 ≤ a ∧ a < 2147483648) (o0 : Nat → Int64) (h104 : F 104 = .inl (ty 3, 1, .inr (.inl (o0)))) :
    XI l y_L_sign w_L_sign ({ frames := 8, cells := 8, slots := 48, locals := 142 } : Room) [.ref (ad (0)), .int (iI (a)), .ref (ad (104))] D ty ad M F sz 8 48 (lPost ty ad F (o_sign g a)) (fun _ => False) := by
  refine vx_ofWH (cc := b_L_sign) (maxL := 4) (ret := (some .int)) (hh := [(0, 9, 12, 13)]) (by decide) rfl ?_
  intro p e s m args below meth c s₁ B hml hv
  obtain ⟨rfl, ⟨hsz, hP, hK, hD0⟩, hxk⟩ := hv
  have hx := B.exec
  have hb := B.bytes
  have hr := B.returns
  have hts := atoms_spec (ws := w_L_sign) B.pre
  have hq : ∀ w ∈ wT, w.before _ s = true := fun w h => hts w (List.mem_cons_of_mem _ h)
  have htab := vx_table (x := y_L_sign) B (hts _ List.mem_cons_self)
  have hown : s.vm.findClass R_L = some m.cls := findClass_of_methodNamed B.named
  have hlocks := B.notSynchronized
  subst hsz
  have hw := pw_start hP hK hD0
  have hl := lv_entry ([.ref (ad (0)), .int (iI (a)), .ref (ad (104))]) (n := 4) (Nat.le_of_ble_eq_true rfl)
  rw [lg_entry_eq]
  generalize (lg_sl ([.ref (ad (0)), .int (iI (a)), .ref (ad (104))]) ++ List.replicate (4 - (lg_sl ([.ref (ad (0)), .int (iI (a)), .ref (ad (104))])).length) Slot.unset).toArray = ls at hl ⊢
  have hl : lv_has ls 4 [(0, .ref (ad (0))), (1, .int (iI (a))), (2, .ref (ad (104)))] := hl
  change W p l e ({ frames := 8, cells := 8, slots := 48, locals := 142 } : Room) s m ([.ref (ad (0)), .int (iI (a)), .ref (ad (104))]).toArray below meth c s.heap [] 0 0 (vx_MQ below (va_Qi (lPost ty ad F (o_sign g a)) (pAt D classes (tysL ty) ad M (pA ad M s.heap.size)) (pA ad M s.heap.size)) (xX D ty ad M s.heap.size (fun _ => False)) ([.ref (ad (0)), .int (iI (a)), .ref (ad (104))]).toArray s 8 48 (pA ad M s.heap.size)) (F0 m 0 ls [])
  generalize hQ : vx_MQ below (va_Qi (lPost ty ad F (o_sign g a)) (pAt D classes (tysL ty) ad M (pA ad M s.heap.size)) (pA ad M s.heap.size)) (xX D ty ad M s.heap.size (fun _ => False)) ([.ref (ad (0)), .int (iI (a)), .ref (ad (104))]).toArray s 8 48 (pA ad M s.heap.size) = Q
  obtain ⟨H, hH⟩ : ∃ H, H = s.heap := ⟨_, rfl⟩
  obtain ⟨locs, hlo⟩ : ∃ z : List Loc, z = [] := ⟨_, rfl⟩
  have hw : pw D classes (tysL ty) ad M F (pA ad M s.heap.size) s H locs := by rw [hH, hlo]; exact hw
  have hgo : W p l e ({ frames := 8, cells := 8, slots := 48, locals := 142 } : Room) s m ([.ref (ad (0)), .int (iI (a)), .ref (ad (104))]).toArray below meth c H locs 0 0 Q (F0 m 0 ls []) := by
    have hbn := ((b_sign g a)).2
    refine lv_aload_n hx hb d_L_sign_0 rfl (lv_at hl 2 rfl) ?_
    refine wz_iconst (n := 0) hx hb d_L_sign_1 ?_
    refine lv_aload_n hx hb d_L_sign_2 rfl (lv_at hl 0 rfl) ?_
    refine lv_iload_n hx hb d_L_sign_3 rfl (lv_at hl 1 rfl) ?_
    refine px_calli hw (vx_runV (As := [.int (iI (a))]) (rest := [.int (iI (0)), .ref (ad (104))]) ⟨hx, hb, hml, hown, hq⟩ (c_K_sign l D ty ad M F H.size hl0 (by omega) g hDk hok a ha) (cwV 1 hq (gV ml_L_30 im_K_sign se_K_sign in_K m_K_sign) rfl rfl rfl (by decide +kernel) ⟨Nat.le_of_ble_eq_true rfl, Nat.le_of_ble_eq_true rfl⟩) (px_preV hw hxk (by omega) hDk.1 rfl) rfl rfl hl.1 rfl (lv_room (Nat.le_of_ble_eq_true rfl)) d_L_sign_4 ⟨Nat.le_of_ble_eq_true rfl, Nat.le_of_ble_eq_true rfl⟩) ?_ ?_
    · intro E9 ce9 q9 F9 H locs hp9 hw h1 h2 h3
      obtain ⟨hE, hDk9, hfr9⟩ := hp9
      have h104_9 : F9 (104) = .inl (ty 3, 1, .inr (.inl (o0))) := (hfr9 104 (by omega)).trans h104
      rcases hE with ⟨hA9, hE⟩ | ⟨hA9, hE⟩
      · dsimp only at hE
        subst hE
        refine vx_catch (own := R_L) (name := xE) hown [] _ [] htab (fun z hz => by cases hz) rfl (by decide) (hq _ cl_L_13) (hxk.2.2.1.to _ (by decide)) h1 h2 h3 ?_
        change W p l e ({ frames := 8, cells := 8, slots := 48, locals := 142 } : Room) s m ([.ref (ad (0)), .int (iI (a)), .ref (ad (104))]).toArray below meth c H locs 8 48 Q (F0 m 12 ls [.ref (q9)])
        refine lv_astore_n (lv' := [(3, .ref (q9)), (0, .ref (ad (0))), (1, .int (iI (a))), (2, .ref (ad (104)))]) hx hb d_L_sign_12 rfl hl (by decide) rfl (fun ls hl => ?_)
        refine wz_iconst (n := 1) hx hb d_L_sign_13 ?_
        rw [← hQ]
        refine W.widen (k := 8) (n := 48) (Nat.le_of_ble_eq_true rfl) (Nat.le_of_ble_eq_true rfl) ?_
        exact vx_ret (pw_iret hx hb hr hlocks hw (⟨by rw [hA9], hDk9, ⟨_, h104_9, fun h9 => absurd (h9.symm.trans hA9) (by decide)⟩, fun y9 h1 h2 => hfr9 y9 h1⟩) d_L_sign_14)
      · exact absurd hA9 (by rcases (b_sign g a).1 with h9 | h9 <;> rw [h9] <;> decide)
    intro r4 F4 H locs q4 hw
    obtain ⟨hA0, er4, hDk1, hfrA⟩ := q4
    subst er4
    have h104_at_4 : F4 (104) = .inl (ty 3, 1, .inr (.inl (o0))) := (hfrA (104) (by omega)).trans h104
    refine wz_i2l hx hb d_L_sign_7 (hbn.1) (hbn.2) ?_
    refine pw_last (k := 0) hx hb hw 3 (by omega) h104_at_4 rfl (iI_in (by omega) (by omega) (by omega)) ((iI_cl (by omega) (by omega)).trans (by omega)) d_L_sign_8 (fun F8 H locs eF8 hw => ?_)
    have m8_104 : F8 (104) = .inl (ty 3, 1, .inr (.inl (vp_updL o0 (0) (iL ((o_sign g a).2.1))))) := by rw [eF8]; exact va_up_self ..
    refine lv_goto (tgt := 15) hx hb d_L_sign_9 (by decide) ?_
    refine wz_iconst (n := 0) hx hb d_L_sign_15 ?_
    rw [← hQ]
    refine W.widen (k := 8) (n := 48) (Nat.le_of_ble_eq_true rfl) (Nat.le_of_ble_eq_true rfl) ?_
    exact vx_ret (pw_iret hx hb hr hlocks hw (⟨by rw [hA0], Dk.fr hDk1 (fun y9 h1 => show F8 (y9) = F4 (y9) from by rw [eF8]; exact va_up_ne _ _ (by omega)), ⟨_, m8_104, fun _ => updL_s ..⟩, fun y9 h1 h2 => (show F8 (y9) = F4 (y9) from by rw [eF8]; exact va_up_ne _ _ (by omega)).trans (hfrA (y9) (by omega))⟩) d_L_sign_16)
  rw [hH, hlo] at hgo
  exact hgo
set_option maxHeartbeats 4000000 in
set_option maxRecDepth 100000 in
/-- the law's places -/
theorem c_L_places (l : Launch) (D : va_G) (ty : Nat → ClassId) (ad : Nat → Nat) (M : Nat) (F : Nat → va_E) (sz : Nat) (hl0 : l.stackTraces = false) (hM : 104 < M) (g : Sg) (hDk : Dk ty ad F g) (hok : okS g) (a : Int) (ha : -2147483648 ≤ a ∧ a < 2147483648) (v : Int) (hv : -2147483648 ≤ v ∧ v < 2147483648) (o0 : Nat → Int64) (h104 : F 104 = .inl (ty 3, 1, .inr (.inl (o0)))) :
    XI l y_L_places w_L_places ({ frames := 9, cells := 8, slots := 48, locals := 166 } : Room) [.ref (ad (0)), .int (iI (a)), .int (iI (v)), .ref (ad (104))] D ty ad M F sz 8 48 (lPost ty ad F (o_places g a v)) (fun _ => False) := by
  refine vx_ofWH (cc := b_L_places) (maxL := 5) (ret := (some .int)) (hh := [(0, 10, 13, 13)]) (by decide) rfl ?_
  intro p e s m args below meth c s₁ B hml hv
  obtain ⟨rfl, ⟨hsz, hP, hK, hD0⟩, hxk⟩ := hv
  have hx := B.exec
  have hb := B.bytes
  have hr := B.returns
  have hts := atoms_spec (ws := w_L_places) B.pre
  have hq : ∀ w ∈ wT, w.before _ s = true := fun w h => hts w (List.mem_cons_of_mem _ h)
  have htab := vx_table (x := y_L_places) B (hts _ List.mem_cons_self)
  have hown : s.vm.findClass R_L = some m.cls := findClass_of_methodNamed B.named
  have hlocks := B.notSynchronized
  subst hsz
  have hw := pw_start hP hK hD0
  have hl := lv_entry ([.ref (ad (0)), .int (iI (a)), .int (iI (v)), .ref (ad (104))]) (n := 5) (Nat.le_of_ble_eq_true rfl)
  rw [lg_entry_eq]
  generalize (lg_sl ([.ref (ad (0)), .int (iI (a)), .int (iI (v)), .ref (ad (104))]) ++ List.replicate (5 - (lg_sl ([.ref (ad (0)), .int (iI (a)), .int (iI (v)), .ref (ad (104))])).length) Slot.unset).toArray = ls at hl ⊢
  have hl : lv_has ls 5 [(0, .ref (ad (0))), (1, .int (iI (a))), (2, .int (iI (v))), (3, .ref (ad (104)))] := hl
  change W p l e ({ frames := 9, cells := 8, slots := 48, locals := 166 } : Room) s m ([.ref (ad (0)), .int (iI (a)), .int (iI (v)), .ref (ad (104))]).toArray below meth c s.heap [] 0 0 (vx_MQ below (va_Qi (lPost ty ad F (o_places g a v)) (pAt D classes (tysL ty) ad M (pA ad M s.heap.size)) (pA ad M s.heap.size)) (xX D ty ad M s.heap.size (fun _ => False)) ([.ref (ad (0)), .int (iI (a)), .int (iI (v)), .ref (ad (104))]).toArray s 8 48 (pA ad M s.heap.size)) (F0 m 0 ls [])
  generalize hQ : vx_MQ below (va_Qi (lPost ty ad F (o_places g a v)) (pAt D classes (tysL ty) ad M (pA ad M s.heap.size)) (pA ad M s.heap.size)) (xX D ty ad M s.heap.size (fun _ => False)) ([.ref (ad (0)), .int (iI (a)), .int (iI (v)), .ref (ad (104))]).toArray s 8 48 (pA ad M s.heap.size) = Q
  obtain ⟨H, hH⟩ : ∃ H, H = s.heap := ⟨_, rfl⟩
  obtain ⟨locs, hlo⟩ : ∃ z : List Loc, z = [] := ⟨_, rfl⟩
  have hw : pw D classes (tysL ty) ad M F (pA ad M s.heap.size) s H locs := by rw [hH, hlo]; exact hw
  have hgo : W p l e ({ frames := 9, cells := 8, slots := 48, locals := 166 } : Room) s m ([.ref (ad (0)), .int (iI (a)), .int (iI (v)), .ref (ad (104))]).toArray below meth c H locs 0 0 Q (F0 m 0 ls []) := by
    have hbn := ((b_places hok a v)).2
    refine lv_aload_n hx hb d_L_places_0 rfl (lv_at hl 3 rfl) ?_
    refine wz_iconst (n := 0) hx hb d_L_places_1 ?_
    refine lv_aload_n hx hb d_L_places_2 rfl (lv_at hl 0 rfl) ?_
    refine lv_iload_n hx hb d_L_places_3 rfl (lv_at hl 1 rfl) ?_
    refine lv_iload_n hx hb d_L_places_4 rfl (lv_at hl 2 rfl) ?_
    refine px_calli hw (vx_runV (As := [.int (iI (a)), .int (iI (v))]) (rest := [.int (iI (0)), .ref (ad (104))]) ⟨hx, hb, hml, hown, hq⟩ (c_K_places l D ty ad M F H.size hl0 (by omega) g hDk hok a ha v hv) (cwV 2 hq (gV ml_L_34 im_K_places se_K_places in_K m_K_places) rfl rfl rfl (by decide +kernel) ⟨Nat.le_of_ble_eq_true rfl, Nat.le_of_ble_eq_true rfl⟩) (px_preV hw hxk (by omega) hDk.1 rfl) rfl rfl hl.1 rfl (lv_room (Nat.le_of_ble_eq_true rfl)) d_L_places_5 ⟨Nat.le_of_ble_eq_true rfl, Nat.le_of_ble_eq_true rfl⟩) ?_ ?_
    · intro E9 ce9 q9 F9 H locs hp9 hw h1 h2 h3
      obtain ⟨hE, hDk9, hfr9⟩ := hp9
      have h104_9 : F9 (104) = .inl (ty 3, 1, .inr (.inl (o0))) := (hfr9 104 (by omega)).trans h104
      rcases hE with ⟨hA9, hE⟩ | ⟨hA9, hE⟩
      · dsimp only at hE
        subst hE
        refine vx_catch (own := R_L) (name := xE) hown [] _ [] htab (fun z hz => by cases hz) rfl (by decide) (hq _ cl_L_13) (hxk.2.2.1.to _ (by decide)) h1 h2 h3 ?_
        change W p l e ({ frames := 9, cells := 8, slots := 48, locals := 166 } : Room) s m ([.ref (ad (0)), .int (iI (a)), .int (iI (v)), .ref (ad (104))]).toArray below meth c H locs 8 48 Q (F0 m 13 ls [.ref (q9)])
        refine lv_astore (lv' := [(4, .ref (q9)), (0, .ref (ad (0))), (1, .int (iI (a))), (2, .int (iI (v))), (3, .ref (ad (104)))]) hx hb d_L_places_13 hl (by decide) rfl (fun ls hl => ?_)
        refine wz_iconst (n := 1) hx hb d_L_places_15 ?_
        rw [← hQ]
        refine W.widen (k := 8) (n := 48) (Nat.le_of_ble_eq_true rfl) (Nat.le_of_ble_eq_true rfl) ?_
        exact vx_ret (pw_iret hx hb hr hlocks hw (⟨by rw [hA9], hDk9, ⟨_, h104_9, fun h9 => absurd (h9.symm.trans hA9) (by decide)⟩, fun y9 h1 h2 => hfr9 y9 h1⟩) d_L_places_16)
      · exact absurd hA9 (by rcases (b_places hok a v).1 with h9 | h9 <;> rw [h9] <;> decide)
    intro r5 F5 H locs q5 hw
    obtain ⟨hA0, er5, hDk1, hfrA⟩ := q5
    subst er5
    have h104_at_5 : F5 (104) = .inl (ty 3, 1, .inr (.inl (o0))) := (hfrA (104) (by omega)).trans h104
    refine wz_i2l hx hb d_L_places_8 (hbn.1) (hbn.2) ?_
    refine pw_last (k := 0) hx hb hw 3 (by omega) h104_at_5 rfl (iI_in (by omega) (by omega) (by omega)) ((iI_cl (by omega) (by omega)).trans (by omega)) d_L_places_9 (fun F9 H locs eF9 hw => ?_)
    have m9_104 : F9 (104) = .inl (ty 3, 1, .inr (.inl (vp_updL o0 (0) (iL ((o_places g a v).2.1))))) := by rw [eF9]; exact va_up_self ..
    refine lv_goto (tgt := 17) hx hb d_L_places_10 (by decide) ?_
    refine wz_iconst (n := 0) hx hb d_L_places_17 ?_
    rw [← hQ]
    refine W.widen (k := 8) (n := 48) (Nat.le_of_ble_eq_true rfl) (Nat.le_of_ble_eq_true rfl) ?_
    exact vx_ret (pw_iret hx hb hr hlocks hw (⟨by rw [hA0], Dk.fr hDk1 (fun y9 h1 => show F9 (y9) = F5 (y9) from by rw [eF9]; exact va_up_ne _ _ (by omega)), ⟨_, m9_104, fun _ => updL_s ..⟩, fun y9 h1 h2 => (show F9 (y9) = F5 (y9) from by rw [eF9]; exact va_up_ne _ _ (by omega)).trans (hfrA (y9) (by omega))⟩) d_L_places_18)
  rw [hH, hlo] at hgo
  exact hgo
set_option maxHeartbeats 4000000 in
set_option maxRecDepth 100000 in
/-- the law's part -/
theorem c_L_part (l : Launch) (D : va_G) (ty : Nat → ClassId) (ad : Nat → Nat) (M : Nat) (F : Nat → va_E) (sz : Nat) (hl0 : l.stackTraces = false) (hM : 104 < M) (g : Sg) (hDk : Dk ty ad F g) (hok : okS g) (a : Int) (ha : -2147483648 ≤ a ∧ a < 2147483648) (v : Int) (hv : -2147483648 ≤ v ∧ v < 2147483648) (k : Int) (hk : -2147483648 ≤ k ∧ k < 2147483648) (o0 : Nat → Int64) (h104 : F 104 = .inl (ty 3, 1, .inr (.inl (o0)))) :
    XI l y_L_part w_L_part ({ frames := 9, cells := 8, slots := 48, locals := 167 } : Room) [.ref (ad (0)), .int (iI (a)), .int (iI (v)), .int (iI (k)), .ref (ad (104))] D ty ad M F sz 8 48 (lPost ty ad F (o_part g a v k)) (fun _ => False) := by
  refine vx_ofWH (cc := b_L_part) (maxL := 6) (ret := (some .int)) (hh := [(0, 11, 14, 13)]) (by decide) rfl ?_
  intro p e s m args below meth c s₁ B hml hv
  obtain ⟨rfl, ⟨hsz, hP, hK, hD0⟩, hxk⟩ := hv
  have hx := B.exec
  have hb := B.bytes
  have hr := B.returns
  have hts := atoms_spec (ws := w_L_part) B.pre
  have hq : ∀ w ∈ wT, w.before _ s = true := fun w h => hts w (List.mem_cons_of_mem _ h)
  have htab := vx_table (x := y_L_part) B (hts _ List.mem_cons_self)
  have hown : s.vm.findClass R_L = some m.cls := findClass_of_methodNamed B.named
  have hlocks := B.notSynchronized
  subst hsz
  have hw := pw_start hP hK hD0
  have hl := lv_entry ([.ref (ad (0)), .int (iI (a)), .int (iI (v)), .int (iI (k)), .ref (ad (104))]) (n := 6) (Nat.le_of_ble_eq_true rfl)
  rw [lg_entry_eq]
  generalize (lg_sl ([.ref (ad (0)), .int (iI (a)), .int (iI (v)), .int (iI (k)), .ref (ad (104))]) ++ List.replicate (6 - (lg_sl ([.ref (ad (0)), .int (iI (a)), .int (iI (v)), .int (iI (k)), .ref (ad (104))])).length) Slot.unset).toArray = ls at hl ⊢
  have hl : lv_has ls 6 [(0, .ref (ad (0))), (1, .int (iI (a))), (2, .int (iI (v))), (3, .int (iI (k))), (4, .ref (ad (104)))] := hl
  change W p l e ({ frames := 9, cells := 8, slots := 48, locals := 167 } : Room) s m ([.ref (ad (0)), .int (iI (a)), .int (iI (v)), .int (iI (k)), .ref (ad (104))]).toArray below meth c s.heap [] 0 0 (vx_MQ below (va_Qi (lPost ty ad F (o_part g a v k)) (pAt D classes (tysL ty) ad M (pA ad M s.heap.size)) (pA ad M s.heap.size)) (xX D ty ad M s.heap.size (fun _ => False)) ([.ref (ad (0)), .int (iI (a)), .int (iI (v)), .int (iI (k)), .ref (ad (104))]).toArray s 8 48 (pA ad M s.heap.size)) (F0 m 0 ls [])
  generalize hQ : vx_MQ below (va_Qi (lPost ty ad F (o_part g a v k)) (pAt D classes (tysL ty) ad M (pA ad M s.heap.size)) (pA ad M s.heap.size)) (xX D ty ad M s.heap.size (fun _ => False)) ([.ref (ad (0)), .int (iI (a)), .int (iI (v)), .int (iI (k)), .ref (ad (104))]).toArray s 8 48 (pA ad M s.heap.size) = Q
  obtain ⟨H, hH⟩ : ∃ H, H = s.heap := ⟨_, rfl⟩
  obtain ⟨locs, hlo⟩ : ∃ z : List Loc, z = [] := ⟨_, rfl⟩
  have hw : pw D classes (tysL ty) ad M F (pA ad M s.heap.size) s H locs := by rw [hH, hlo]; exact hw
  have hgo : W p l e ({ frames := 9, cells := 8, slots := 48, locals := 167 } : Room) s m ([.ref (ad (0)), .int (iI (a)), .int (iI (v)), .int (iI (k)), .ref (ad (104))]).toArray below meth c H locs 0 0 Q (F0 m 0 ls []) := by
    refine lv_aload hx hb d_L_part_0 (lv_at hl 4 rfl) ?_
    refine wz_iconst (n := 0) hx hb d_L_part_2 ?_
    refine lv_aload_n hx hb d_L_part_3 rfl (lv_at hl 0 rfl) ?_
    refine lv_iload_n hx hb d_L_part_4 rfl (lv_at hl 1 rfl) ?_
    refine lv_iload_n hx hb d_L_part_5 rfl (lv_at hl 2 rfl) ?_
    refine lv_iload_n hx hb d_L_part_6 rfl (lv_at hl 3 rfl) ?_
    refine px_calll hw (vx_runV (As := [.int (iI (a)), .int (iI (v)), .int (iI (k))]) (rest := [.int (iI (0)), .ref (ad (104))]) ⟨hx, hb, hml, hown, hq⟩ (c_K_part l D ty ad M F H.size hl0 (by omega) g hDk hok a ha v hv k hk) (cwV 3 hq (gV ml_L_37 im_K_part se_K_part in_K m_K_part) rfl rfl rfl (by decide +kernel) ⟨Nat.le_of_ble_eq_true rfl, Nat.le_of_ble_eq_true rfl⟩) (px_preV hw hxk (by omega) hDk.1 rfl) rfl rfl hl.1 rfl (lv_room (Nat.le_of_ble_eq_true rfl)) d_L_part_7 ⟨Nat.le_of_ble_eq_true rfl, Nat.le_of_ble_eq_true rfl⟩) ?_ ?_
    · intro E9 ce9 q9 F9 H locs hp9 hw h1 h2 h3
      obtain ⟨hE, hDk9, hfr9⟩ := hp9
      have h104_9 : F9 (104) = .inl (ty 3, 1, .inr (.inl (o0))) := (hfr9 104 (by omega)).trans h104
      rcases hE with ⟨hA9, hE⟩ | ⟨hA9, hE⟩
      · dsimp only at hE
        subst hE
        refine vx_catch (own := R_L) (name := xE) hown [] _ [] htab (fun z hz => by cases hz) rfl (by decide) (hq _ cl_L_13) (hxk.2.2.1.to _ (by decide)) h1 h2 h3 ?_
        change W p l e ({ frames := 9, cells := 8, slots := 48, locals := 167 } : Room) s m ([.ref (ad (0)), .int (iI (a)), .int (iI (v)), .int (iI (k)), .ref (ad (104))]).toArray below meth c H locs 8 48 Q (F0 m 14 ls [.ref (q9)])
        refine lv_astore (lv' := [(5, .ref (q9)), (0, .ref (ad (0))), (1, .int (iI (a))), (2, .int (iI (v))), (3, .int (iI (k))), (4, .ref (ad (104)))]) hx hb d_L_part_14 hl (by decide) rfl (fun ls hl => ?_)
        refine wz_iconst (n := 1) hx hb d_L_part_16 ?_
        rw [← hQ]
        refine W.widen (k := 8) (n := 48) (Nat.le_of_ble_eq_true rfl) (Nat.le_of_ble_eq_true rfl) ?_
        exact vx_ret (pw_iret hx hb hr hlocks hw (⟨by rw [hA9], hDk9, ⟨_, h104_9, fun h9 => absurd (h9.symm.trans hA9) (by decide)⟩, fun y9 h1 h2 => hfr9 y9 h1⟩) d_L_part_17)
      · exact absurd hA9 (by rcases (c_part9 g a v k) with h9 | h9 <;> rw [h9] <;> decide)
    intro r7 F7 H locs q7 hw
    obtain ⟨hA0, er7, hDk1, hfrA⟩ := q7
    subst er7
    have h104_at_7 : F7 (104) = .inl (ty 3, 1, .inr (.inl (o0))) := (hfrA (104) (by omega)).trans h104
    refine pw_last (k := 0) hx hb hw 3 (by omega) h104_at_7 rfl (iI_in (by omega) (by omega) (by omega)) ((iI_cl (by omega) (by omega)).trans (by omega)) d_L_part_10 (fun F10 H locs eF10 hw => ?_)
    have m10_104 : F10 (104) = .inl (ty 3, 1, .inr (.inl (vp_updL o0 (0) (iL ((o_part g a v k).2.1))))) := by rw [eF10]; exact va_up_self ..
    refine lv_goto (tgt := 18) hx hb d_L_part_11 (by decide) ?_
    refine wz_iconst (n := 0) hx hb d_L_part_18 ?_
    rw [← hQ]
    refine W.widen (k := 8) (n := 48) (Nat.le_of_ble_eq_true rfl) (Nat.le_of_ble_eq_true rfl) ?_
    exact vx_ret (pw_iret hx hb hr hlocks hw (⟨by rw [hA0], Dk.fr hDk1 (fun y9 h1 => show F10 (y9) = F7 (y9) from by rw [eF10]; exact va_up_ne _ _ (by omega)), ⟨_, m10_104, fun _ => updL_s ..⟩, fun y9 h1 h2 => (show F10 (y9) = F7 (y9) from by rw [eF10]; exact va_up_ne _ _ (by omega)).trans (hfrA (y9) (by omega))⟩) d_L_part_19)
  rw [hH, hlo] at hgo
  exact hgo
set_option maxHeartbeats 4000000 in
set_option maxRecDepth 100000 in
/-- the law's write -/
theorem c_L_write (l : Launch) (D : va_G) (ty : Nat → ClassId) (ad : Nat → Nat) (M : Nat) (F : Nat → va_E) (sz : Nat) (hl0 : l.stackTraces = false) (hM : 104 < M) (g : Sg) (hDk : Dk ty ad F g) (hok : okS g) (a : Int) (ha : -2147483648 ≤ a ∧ a < 2147483648) (o0 : Nat → Int64) (h104 : F 104 = .inl (ty 3, 1, .inr (.inl (o0)))) :
    XI l y_L_write w_L_write ({ frames := 8, cells := 8, slots := 48, locals := 143 } : Room) [.ref (ad (0)), .int (iI (a)), .ref (ad (104))] D ty ad M F sz 8 48 (lPost ty ad F (o_write g a)) (fun _ => False) := by
  refine vx_ofWH (cc := b_L_write) (maxL := 4) (ret := (some .int)) (hh := [(0, 9, 12, 13)]) (by decide) rfl ?_
  intro p e s m args below meth c s₁ B hml hv
  obtain ⟨rfl, ⟨hsz, hP, hK, hD0⟩, hxk⟩ := hv
  have hx := B.exec
  have hb := B.bytes
  have hr := B.returns
  have hts := atoms_spec (ws := w_L_write) B.pre
  have hq : ∀ w ∈ wT, w.before _ s = true := fun w h => hts w (List.mem_cons_of_mem _ h)
  have htab := vx_table (x := y_L_write) B (hts _ List.mem_cons_self)
  have hown : s.vm.findClass R_L = some m.cls := findClass_of_methodNamed B.named
  have hlocks := B.notSynchronized
  subst hsz
  have hw := pw_start hP hK hD0
  have hl := lv_entry ([.ref (ad (0)), .int (iI (a)), .ref (ad (104))]) (n := 4) (Nat.le_of_ble_eq_true rfl)
  rw [lg_entry_eq]
  generalize (lg_sl ([.ref (ad (0)), .int (iI (a)), .ref (ad (104))]) ++ List.replicate (4 - (lg_sl ([.ref (ad (0)), .int (iI (a)), .ref (ad (104))])).length) Slot.unset).toArray = ls at hl ⊢
  have hl : lv_has ls 4 [(0, .ref (ad (0))), (1, .int (iI (a))), (2, .ref (ad (104)))] := hl
  change W p l e ({ frames := 8, cells := 8, slots := 48, locals := 143 } : Room) s m ([.ref (ad (0)), .int (iI (a)), .ref (ad (104))]).toArray below meth c s.heap [] 0 0 (vx_MQ below (va_Qi (lPost ty ad F (o_write g a)) (pAt D classes (tysL ty) ad M (pA ad M s.heap.size)) (pA ad M s.heap.size)) (xX D ty ad M s.heap.size (fun _ => False)) ([.ref (ad (0)), .int (iI (a)), .ref (ad (104))]).toArray s 8 48 (pA ad M s.heap.size)) (F0 m 0 ls [])
  generalize hQ : vx_MQ below (va_Qi (lPost ty ad F (o_write g a)) (pAt D classes (tysL ty) ad M (pA ad M s.heap.size)) (pA ad M s.heap.size)) (xX D ty ad M s.heap.size (fun _ => False)) ([.ref (ad (0)), .int (iI (a)), .ref (ad (104))]).toArray s 8 48 (pA ad M s.heap.size) = Q
  obtain ⟨H, hH⟩ : ∃ H, H = s.heap := ⟨_, rfl⟩
  obtain ⟨locs, hlo⟩ : ∃ z : List Loc, z = [] := ⟨_, rfl⟩
  have hw : pw D classes (tysL ty) ad M F (pA ad M s.heap.size) s H locs := by rw [hH, hlo]; exact hw
  have hgo : W p l e ({ frames := 8, cells := 8, slots := 48, locals := 143 } : Room) s m ([.ref (ad (0)), .int (iI (a)), .ref (ad (104))]).toArray below meth c H locs 0 0 Q (F0 m 0 ls []) := by
    have hbn := ((b_write hok a)).2
    refine lv_aload_n hx hb d_L_write_0 rfl (lv_at hl 2 rfl) ?_
    refine wz_iconst (n := 0) hx hb d_L_write_1 ?_
    refine lv_aload_n hx hb d_L_write_2 rfl (lv_at hl 0 rfl) ?_
    refine lv_iload_n hx hb d_L_write_3 rfl (lv_at hl 1 rfl) ?_
    refine px_calli hw (vx_runV (As := [.int (iI (a))]) (rest := [.int (iI (0)), .ref (ad (104))]) ⟨hx, hb, hml, hown, hq⟩ (c_K_write l D ty ad M F H.size hl0 (by omega) g hDk hok a ha) (cwV 1 hq (gV ml_L_41 im_K_write se_K_write in_K m_K_write) rfl rfl rfl (by decide +kernel) ⟨Nat.le_of_ble_eq_true rfl, Nat.le_of_ble_eq_true rfl⟩) (px_preV hw hxk (by omega) hDk.1 rfl) rfl rfl hl.1 rfl (lv_room (Nat.le_of_ble_eq_true rfl)) d_L_write_4 ⟨Nat.le_of_ble_eq_true rfl, Nat.le_of_ble_eq_true rfl⟩) ?_ ?_
    · intro E9 ce9 q9 F9 H locs hp9 hw h1 h2 h3
      obtain ⟨hE, hDk9, hfr9⟩ := hp9
      have h104_9 : F9 (104) = .inl (ty 3, 1, .inr (.inl (o0))) := (hfr9 104 (by omega)).trans h104
      rcases hE with ⟨hA9, hE⟩ | ⟨hA9, hE⟩
      · dsimp only at hE
        subst hE
        refine vx_catch (own := R_L) (name := xE) hown [] _ [] htab (fun z hz => by cases hz) rfl (by decide) (hq _ cl_L_13) (hxk.2.2.1.to _ (by decide)) h1 h2 h3 ?_
        change W p l e ({ frames := 8, cells := 8, slots := 48, locals := 143 } : Room) s m ([.ref (ad (0)), .int (iI (a)), .ref (ad (104))]).toArray below meth c H locs 8 48 Q (F0 m 12 ls [.ref (q9)])
        refine lv_astore_n (lv' := [(3, .ref (q9)), (0, .ref (ad (0))), (1, .int (iI (a))), (2, .ref (ad (104)))]) hx hb d_L_write_12 rfl hl (by decide) rfl (fun ls hl => ?_)
        refine wz_iconst (n := 1) hx hb d_L_write_13 ?_
        rw [← hQ]
        refine W.widen (k := 8) (n := 48) (Nat.le_of_ble_eq_true rfl) (Nat.le_of_ble_eq_true rfl) ?_
        exact vx_ret (pw_iret hx hb hr hlocks hw (⟨by rw [hA9], hDk9, ⟨_, h104_9, fun h9 => absurd (h9.symm.trans hA9) (by decide)⟩, fun y9 h1 h2 => hfr9 y9 h1⟩) d_L_write_14)
      · exact absurd hA9 (by rcases (b_write hok a).1 with h9 | h9 <;> rw [h9] <;> decide)
    intro r4 F4 H locs q4 hw
    obtain ⟨hA0, er4, hDk1, hfrA⟩ := q4
    subst er4
    have h104_at_4 : F4 (104) = .inl (ty 3, 1, .inr (.inl (o0))) := (hfrA (104) (by omega)).trans h104
    refine wz_i2l hx hb d_L_write_7 (hbn.1) (hbn.2) ?_
    refine pw_last (k := 0) hx hb hw 3 (by omega) h104_at_4 rfl (iI_in (by omega) (by omega) (by omega)) ((iI_cl (by omega) (by omega)).trans (by omega)) d_L_write_8 (fun F8 H locs eF8 hw => ?_)
    have m8_104 : F8 (104) = .inl (ty 3, 1, .inr (.inl (vp_updL o0 (0) (iL ((o_write g a).2.1))))) := by rw [eF8]; exact va_up_self ..
    refine lv_goto (tgt := 15) hx hb d_L_write_9 (by decide) ?_
    refine wz_iconst (n := 0) hx hb d_L_write_15 ?_
    rw [← hQ]
    refine W.widen (k := 8) (n := 48) (Nat.le_of_ble_eq_true rfl) (Nat.le_of_ble_eq_true rfl) ?_
    exact vx_ret (pw_iret hx hb hr hlocks hw (⟨by rw [hA0], Dk.fr hDk1 (fun y9 h1 => show F8 (y9) = F4 (y9) from by rw [eF8]; exact va_up_ne _ _ (by omega)), ⟨_, m8_104, fun _ => updL_s ..⟩, fun y9 h1 h2 => (show F8 (y9) = F4 (y9) from by rw [eF8]; exact va_up_ne _ _ (by omega)).trans (hfrA (y9) (by omega))⟩) d_L_write_16)
  rw [hH, hlo] at hgo
  exact hgo
set_option maxHeartbeats 4000000 in
set_option maxRecDepth 100000 in
/-- the law's read -/
theorem c_L_read (l : Launch) (D : va_G) (ty : Nat → ClassId) (ad : Nat → Nat) (M : Nat) (F : Nat → va_E) (sz : Nat) (hl0 : l.stackTraces = false) (hM : 104 < M) (g : Sg) (hDk : Dk ty ad F g) (hok : okS g) (to : Int) (hto : -2147483648 ≤ to ∧ to < 2147483648) (o0 : Nat → Int64) (h104 : F 104 = .inl (ty 3, 1, .inr (.inl (o0)))) :
    XIq l y_L_read w_L_read ({ frames := 8, cells := 8, slots := 48, locals := 180 } : Room) [.ref (ad (0)), .int (iI (to)), .ref (ad (104))] D ty ad M F sz 8 48 (lPost ty ad F (o_read g to)) (fun _ => False) := by
  refine vx_ofWH (cc := b_L_read) (maxL := 4) (ret := (some .int)) (hh := [(0, 9, 12, 13), (0, 9, 15, 47)]) (by decide) rfl ?_
  intro p e s m args below meth c s₁ B hml hv
  obtain ⟨rfl, ⟨⟨hsz, hP, hK, hD0⟩, hxk⟩, hNc⟩ := hv
  have hx := B.exec
  have hb := B.bytes
  have hr := B.returns
  have hts := atoms_spec (ws := w_L_read) B.pre
  have hq : ∀ w ∈ wT, w.before _ s = true := fun w h => hts w (List.mem_cons_of_mem _ h)
  have htab := vx_table (x := y_L_read) B (hts _ List.mem_cons_self)
  have hown : s.vm.findClass R_L = some m.cls := findClass_of_methodNamed B.named
  have hlocks := B.notSynchronized
  subst hsz
  have hw := pw_start hP hK hD0
  have hl := lv_entry ([.ref (ad (0)), .int (iI (to)), .ref (ad (104))]) (n := 4) (Nat.le_of_ble_eq_true rfl)
  rw [lg_entry_eq]
  generalize (lg_sl ([.ref (ad (0)), .int (iI (to)), .ref (ad (104))]) ++ List.replicate (4 - (lg_sl ([.ref (ad (0)), .int (iI (to)), .ref (ad (104))])).length) Slot.unset).toArray = ls at hl ⊢
  have hl : lv_has ls 4 [(0, .ref (ad (0))), (1, .int (iI (to))), (2, .ref (ad (104)))] := hl
  change W p l e ({ frames := 8, cells := 8, slots := 48, locals := 180 } : Room) s m ([.ref (ad (0)), .int (iI (to)), .ref (ad (104))]).toArray below meth c s.heap [] 0 0 (vx_MQ below (va_Qi (lPost ty ad F (o_read g to)) (pAt D classes (tysL ty) ad M (pA ad M s.heap.size)) (pA ad M s.heap.size)) (xX D ty ad M s.heap.size (fun _ => False)) ([.ref (ad (0)), .int (iI (to)), .ref (ad (104))]).toArray s 8 48 (pA ad M s.heap.size)) (F0 m 0 ls [])
  generalize hQ : vx_MQ below (va_Qi (lPost ty ad F (o_read g to)) (pAt D classes (tysL ty) ad M (pA ad M s.heap.size)) (pA ad M s.heap.size)) (xX D ty ad M s.heap.size (fun _ => False)) ([.ref (ad (0)), .int (iI (to)), .ref (ad (104))]).toArray s 8 48 (pA ad M s.heap.size) = Q
  obtain ⟨H, hH⟩ : ∃ H, H = s.heap := ⟨_, rfl⟩
  obtain ⟨locs, hlo⟩ : ∃ z : List Loc, z = [] := ⟨_, rfl⟩
  have hw : pw D classes (tysL ty) ad M F (pA ad M s.heap.size) s H locs := by rw [hH, hlo]; exact hw
  have hgo : W p l e ({ frames := 8, cells := 8, slots := 48, locals := 180 } : Room) s m ([.ref (ad (0)), .int (iI (to)), .ref (ad (104))]).toArray below meth c H locs 0 0 Q (F0 m 0 ls []) := by
    have hbn := (b_read g to).2
    refine lv_aload_n hx hb d_L_read_0 rfl (lv_at hl 2 rfl) ?_
    refine wz_iconst (n := 0) hx hb d_L_read_1 ?_
    refine lv_aload_n hx hb d_L_read_2 rfl (lv_at hl 0 rfl) ?_
    refine lv_iload_n hx hb d_L_read_3 rfl (lv_at hl 1 rfl) ?_
    refine px_calli hw (vx_runV (As := [.int (iI (to))]) (rest := [.int (iI (0)), .ref (ad (104))]) ⟨hx, hb, hml, hown, hq⟩ (c_K_read l D ty ad M F H.size hl0 (by omega) g hDk hok to hto) (cwV 1 hq (gV ml_L_44 im_K_read se_K_read in_K m_K_read) rfl rfl rfl (by decide +kernel) ⟨Nat.le_of_ble_eq_true rfl, Nat.le_of_ble_eq_true rfl⟩) (px_preV hw hxk (by omega) hDk.1 rfl) rfl rfl hl.1 rfl (lv_room (Nat.le_of_ble_eq_true rfl)) d_L_read_4 ⟨Nat.le_of_ble_eq_true rfl, Nat.le_of_ble_eq_true rfl⟩) ?_ ?_
    · intro E9 ce9 q9 F9 H locs hp9 hw h1 h2 h3
      obtain ⟨hE, hDk9, hfr9⟩ := hp9
      have h104_9 : F9 (104) = .inl (ty 3, 1, .inr (.inl (o0))) := (hfr9 104 (by omega)).trans h104
      rcases hE with ⟨hA9, hE⟩ | ⟨hA9, hE⟩
      · dsimp only at hE
        subst hE
        refine vx_catch (own := R_L) (name := xE) hown [] _ _ htab (fun z hz => by cases hz) rfl (by decide) (hq _ cl_L_13) (hxk.2.2.1.to _ (by decide)) h1 h2 h3 ?_
        change W p l e ({ frames := 8, cells := 8, slots := 48, locals := 180 } : Room) s m ([.ref (ad (0)), .int (iI (to)), .ref (ad (104))]).toArray below meth c H locs 8 48 Q (F0 m 12 ls [.ref (q9)])
        refine lv_astore_n (lv' := [(3, .ref (q9)), (0, .ref (ad (0))), (1, .int (iI (to))), (2, .ref (ad (104)))]) hx hb d_L_read_12 rfl hl (by decide) rfl (fun ls hl => ?_)
        refine wz_iconst (n := 1) hx hb d_L_read_13 ?_
        rw [← hQ]
        refine W.widen (k := 8) (n := 48) (Nat.le_of_ble_eq_true rfl) (Nat.le_of_ble_eq_true rfl) ?_
        exact vx_ret (pw_iret hx hb hr hlocks hw (⟨by rw [hA9], hDk9, ⟨_, h104_9, fun h9 => absurd (h9.symm.trans hA9) (by decide)⟩, fun y9 h1 h2 => hfr9 y9 h1⟩) d_L_read_14)
      · dsimp only at hE
        subst hE
        refine vx_catch (own := R_L) (name := xS) hown [_] _ [] htab (fun z hz => by
          cases hz with
          | head => exact Or.inr ⟨by decide, xE, hq _ cl_L_13, hNc⟩
          | tail _ h => cases h) rfl (by decide) (hq _ cl_L_47) (hxk.2.2.1.to _ (by decide)) h1 h2 h3 ?_
        change W p l e ({ frames := 8, cells := 8, slots := 48, locals := 180 } : Room) s m ([.ref (ad (0)), .int (iI (to)), .ref (ad (104))]).toArray below meth c H locs 8 48 Q (F0 m 15 ls [.ref (q9)])
        refine lv_astore_n (lv' := [(3, .ref (q9)), (0, .ref (ad (0))), (1, .int (iI (to))), (2, .ref (ad (104)))]) hx hb d_L_read_15 rfl hl (by decide) rfl (fun ls hl => ?_)
        refine wz_iconst (n := 2) hx hb d_L_read_16 ?_
        rw [← hQ]
        refine W.widen (k := 8) (n := 48) (Nat.le_of_ble_eq_true rfl) (Nat.le_of_ble_eq_true rfl) ?_
        exact vx_ret (pw_iret hx hb hr hlocks hw (⟨by rw [hA9], hDk9, ⟨_, h104_9, fun h9 => absurd (h9.symm.trans hA9) (by decide)⟩, fun y9 h1 h2 => hfr9 y9 h1⟩) d_L_read_17)
    intro r4 F4 H locs q4 hw
    obtain ⟨hA0, er4, hDk1, hfrA⟩ := q4
    subst er4
    have h104_at_4 : F4 (104) = .inl (ty 3, 1, .inr (.inl (o0))) := (hfrA (104) (by omega)).trans h104
    refine wz_i2l hx hb d_L_read_7 (hbn.1) (hbn.2) ?_
    refine pw_last (k := 0) hx hb hw 3 (by omega) h104_at_4 rfl (iI_in (by omega) (by omega) (by omega)) ((iI_cl (by omega) (by omega)).trans (by omega)) d_L_read_8 (fun F8 H locs eF8 hw => ?_)
    have m8_104 : F8 (104) = .inl (ty 3, 1, .inr (.inl (vp_updL o0 (0) (iL ((o_read g to).2.1))))) := by rw [eF8]; exact va_up_self ..
    refine lv_goto (tgt := 18) hx hb d_L_read_9 (by decide) ?_
    refine wz_iconst (n := 0) hx hb d_L_read_18 ?_
    rw [← hQ]
    refine W.widen (k := 8) (n := 48) (Nat.le_of_ble_eq_true rfl) (Nat.le_of_ble_eq_true rfl) ?_
    exact vx_ret (pw_iret hx hb hr hlocks hw (⟨by rw [hA0], Dk.fr hDk1 (fun y9 h1 => show F8 (y9) = F4 (y9) from by rw [eF8]; exact va_up_ne _ _ (by omega)), ⟨_, m8_104, fun _ => updL_s ..⟩, fun y9 h1 h2 => (show F8 (y9) = F4 (y9) from by rw [eF8]; exact va_up_ne _ _ (by omega)).trans (hfrA (y9) (by omega))⟩) d_L_read_19)
  rw [hH, hlo] at hgo
  exact hgo
