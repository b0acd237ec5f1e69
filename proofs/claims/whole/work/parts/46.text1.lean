/-! Text: readings: by program -/
set_option maxHeartbeats 4000000 in
set_option maxRecDepth 100000 in
/-- Text.at(i) -/
theorem c_T_at (l : Launch) (D : va_G) (ty : Nat → ClassId) (ad : Nat → Nat) (M : Nat) (F : Nat → va_E) (sz : Nat) (hM : 97 < M) (n : Nat) (tx : Nat → Nat) (hTx : Tx ty ad F n tx) (i : Int) (hi : -2147483648 ≤ i ∧ i < 2147483648) :
    CI l y_T_at w_T_at ({ frames := 0, cells := 0, slots := 0, locals := 0 } : Room) [.ref (ad (96)), .int (iI (i))] D ty ad M F sz (fun r F1 => r = iI (tat tx n i) ∧ F1 = F) := by
  refine Met.ofW (cc := b_T_at) (maxL := 2) (ret := (some .int)) (by decide) rfl ?_
  intro p e s m args below meth c s₁ B hml hv
  obtain ⟨rfl, hsz, hP, hK, hD0⟩ := hv
  have hx := B.exec
  have hb := B.bytes
  have hr := B.returns
  have hts := atoms_spec (ws := w_T_at) B.pre
  have hq : ∀ w ∈ wT, w.before _ s = true := fun w h => hts w (List.mem_cons_of_mem _ h)
  have hown : s.vm.findClass R_T = some m.cls := findClass_of_methodNamed B.named
  have hlocks := B.notSynchronized
  subst hsz
  have hw := pw_start hP hK hD0
  have hl := lv_entry ([.ref (ad (96)), .int (iI (i))]) (n := 2) (Nat.le_of_ble_eq_true rfl)
  rw [lg_entry_eq]
  generalize (lg_sl ([.ref (ad (96)), .int (iI (i))]) ++ List.replicate (2 - (lg_sl ([.ref (ad (96)), .int (iI (i))])).length) Slot.unset).toArray = ls at hl ⊢
  have hl : lv_has ls 2 [(0, .ref (ad (96))), (1, .int (iI (i)))] := hl
  change W p l e ({ frames := 0, cells := 0, slots := 0, locals := 0 } : Room) s m ([.ref (ad (96)), .int (iI (i))]).toArray below meth c s.heap [] 0 0 (MQ below (va_Qi (fun r F1 => r = iI (tat tx n i) ∧ F1 = F) (pAt D classes (tysL ty) ad M (pA ad M s.heap.size)) (pA ad M s.heap.size)) ([.ref (ad (96)), .int (iI (i))]).toArray s 0 0 (pA ad M s.heap.size)) (F0 m 0 ls [])
  generalize hQ : MQ below (va_Qi (fun r F1 => r = iI (tat tx n i) ∧ F1 = F) (pAt D classes (tysL ty) ad M (pA ad M s.heap.size)) (pA ad M s.heap.size)) ([.ref (ad (96)), .int (iI (i))]).toArray s 0 0 (pA ad M s.heap.size) = Q
  obtain ⟨H, hH⟩ : ∃ H, H = s.heap := ⟨_, rfl⟩
  obtain ⟨locs, hlo⟩ : ∃ z : List Loc, z = [] := ⟨_, rfl⟩
  have hw : pw D classes (tysL ty) ad M F (pA ad M s.heap.size) s H locs := by rw [hH, hlo]; exact hw
  have hgo : W p l e ({ frames := 0, cells := 0, slots := 0, locals := 0 } : Room) s m ([.ref (ad (96)), .int (iI (i))]).toArray below meth c H locs 0 0 Q (F0 m 0 ls []) := by
    obtain ⟨hT, g, hC, hn, hg, hlt⟩ := hTx
    refine lv_iload_n hx hb d_T_at_0 rfl (lv_at hl 1 rfl) ?_
    refine wz_if_lt (tgt := 21) hx hb d_T_at_1 (by decide) (by omega) (by omega) (fun c1 => ?_) (fun c1 => ?_)
    · refine wz_iconst (n := -1) hx hb d_T_at_21 ?_
      rw [← hQ]
      exact pw_iret hx hb hr hlocks hw (⟨by rw [tat, if_neg (by omega)], rfl⟩) d_T_at_22
    · refine lv_iload_n hx hb d_T_at_4 rfl (lv_at hl 1 rfl) ?_
      refine lv_aload_n hx hb d_T_at_5 rfl (lv_at hl 0 rfl) ?_
      refine pw_get (ci := 2) (C := R_T) (T := T_T) (N := 2) hx hb hq i_T hown hw (by omega) hT rfl 1 (by decide) (hq _ fl_T_15) (fun _ h9 => h9) rfl d_T_at_6 ?_
      refine wz_icmp_ge (tgt := 21) hx hb d_T_at_9 (by decide) (by omega) (by omega) (by omega) (by omega) (fun c9 => ?_) (fun c9 => ?_)
      · refine wz_iconst (n := -1) hx hb d_T_at_21 ?_
        rw [← hQ]
        exact pw_iret hx hb hr hlocks hw (⟨by rw [tat, if_neg (by omega)], rfl⟩) d_T_at_22
      · refine lv_aload_n hx hb d_T_at_12 rfl (lv_at hl 0 rfl) ?_
        refine pw_get (ci := 2) (C := R_T) (T := T_T) (N := 2) hx hb hq i_T hown hw (by omega) hT rfl 0 (by decide) (hq _ fl_T_9) (fun _ h9 => h9) rfl d_T_at_13 ?_
        refine lv_iload_n hx hb d_T_at_16 rfl (lv_at hl 1 rfl) ?_
        refine pw_cald (k := i.toNat) hx hb hw 1 (by omega) hC rfl (iI_in (by omega) (by omega) (by omega)) ((iI_cl (by omega) (by omega)).trans (by omega)) d_T_at_17 ?_
        refine lv_topi (fun x17 ex17 => ?_)
        obtain rfl : x17 = iI ((tx i.toNat : Int)) := ex17.trans (hg _ (by omega))
        refine lv_goto (tgt := 22) hx hb d_T_at_18 (by decide) ?_
        rw [← hQ]
        exact pw_iret hx hb hr hlocks hw (⟨by rw [tat, if_pos (by omega)], rfl⟩) d_T_at_22
  rw [hH, hlo] at hgo
  exact hgo
set_option maxHeartbeats 4000000 in
set_option maxRecDepth 100000 in
/-- Text.isDigit(c) -/
theorem c_T_isDigit (l : Launch) (D : va_G) (ty : Nat → ClassId) (ad : Nat → Nat) (M : Nat) (F : Nat → va_E) (sz : Nat) (c0 : Int) (hc0 : -2147483648 ≤ c0 ∧ c0 < 2147483648) :
    CI l y_T_isDigit w_T_isDigit ({ frames := 0, cells := 0, slots := 0, locals := 0 } : Room) [.int (iI (c0))] D ty ad M F sz (fun r F1 => r = iI (if 48 ≤ c0 ∧ c0 ≤ 57 then 1 else 0) ∧ F1 = F) := by
  refine Met.ofW (cc := b_T_isDigit) (maxL := 1) (ret := (some .boolean)) (by decide) rfl ?_
  intro p e s m args below meth c s₁ B hml hv
  obtain ⟨rfl, hsz, hP, hK, hD0⟩ := hv
  have hx := B.exec
  have hb := B.bytes
  have hr := B.returns
  have hts := atoms_spec (ws := w_T_isDigit) B.pre
  have hq : ∀ w ∈ wT, w.before _ s = true := fun w h => hts w (List.mem_cons_of_mem _ h)
  have hown : s.vm.findClass R_T = some m.cls := findClass_of_methodNamed B.named
  have hlocks := B.notSynchronized
  subst hsz
  have hw := pw_start hP hK hD0
  have hl := lv_entry ([.int (iI (c0))]) (n := 1) (Nat.le_of_ble_eq_true rfl)
  rw [lg_entry_eq]
  generalize (lg_sl ([.int (iI (c0))]) ++ List.replicate (1 - (lg_sl ([.int (iI (c0))])).length) Slot.unset).toArray = ls at hl ⊢
  have hl : lv_has ls 1 [(0, .int (iI (c0)))] := hl
  change W p l e ({ frames := 0, cells := 0, slots := 0, locals := 0 } : Room) s m ([.int (iI (c0))]).toArray below meth c s.heap [] 0 0 (MQ below (va_Qi (fun r F1 => r = iI (if 48 ≤ c0 ∧ c0 ≤ 57 then 1 else 0) ∧ F1 = F) (pAt D classes (tysL ty) ad M (pA ad M s.heap.size)) (pA ad M s.heap.size)) ([.int (iI (c0))]).toArray s 0 0 (pA ad M s.heap.size)) (F0 m 0 ls [])
  generalize hQ : MQ below (va_Qi (fun r F1 => r = iI (if 48 ≤ c0 ∧ c0 ≤ 57 then 1 else 0) ∧ F1 = F) (pAt D classes (tysL ty) ad M (pA ad M s.heap.size)) (pA ad M s.heap.size)) ([.int (iI (c0))]).toArray s 0 0 (pA ad M s.heap.size) = Q
  obtain ⟨H, hH⟩ : ∃ H, H = s.heap := ⟨_, rfl⟩
  obtain ⟨locs, hlo⟩ : ∃ z : List Loc, z = [] := ⟨_, rfl⟩
  have hw : pw D classes (tysL ty) ad M F (pA ad M s.heap.size) s H locs := by rw [hH, hlo]; exact hw
  have hgo : W p l e ({ frames := 0, cells := 0, slots := 0, locals := 0 } : Room) s m ([.int (iI (c0))]).toArray below meth c H locs 0 0 Q (F0 m 0 ls []) := by
    refine lv_iload_n hx hb d_T_isDigit_0 rfl (lv_at hl 0 rfl) ?_
    refine wz_bipush (n := 48) hx hb d_T_isDigit_1 (by decide) ?_
    refine wz_icmp_lt (tgt := 16) hx hb d_T_isDigit_3 (by decide) (by omega) (by omega) (by omega) (by omega) (fun c3 => ?_) (fun c3 => ?_)
    · refine wz_iconst (n := 0) hx hb d_T_isDigit_16 ?_
      rw [← hQ]
      exact pw_zret hx hb hr (by decide) hlocks hw (⟨by rw [if_neg (by omega)], rfl⟩) d_T_isDigit_17
    · refine lv_iload_n hx hb d_T_isDigit_6 rfl (lv_at hl 0 rfl) ?_
      refine wz_bipush (n := 57) hx hb d_T_isDigit_7 (by decide) ?_
      refine wz_icmp_gt (tgt := 16) hx hb d_T_isDigit_9 (by decide) (by omega) (by omega) (by omega) (by omega) (fun c9 => ?_) (fun c9 => ?_)
      · refine wz_iconst (n := 0) hx hb d_T_isDigit_16 ?_
        rw [← hQ]
        exact pw_zret hx hb hr (by decide) hlocks hw (⟨by rw [if_neg (by omega)], rfl⟩) d_T_isDigit_17
      · refine wz_iconst (n := 1) hx hb d_T_isDigit_12 ?_
        refine lv_goto (tgt := 17) hx hb d_T_isDigit_13 (by decide) ?_
        rw [← hQ]
        exact pw_zret hx hb hr (by decide) hlocks hw (⟨by rw [if_pos (by omega)], rfl⟩) d_T_isDigit_17
  rw [hH, hlo] at hgo
  exact hgo
set_option maxHeartbeats 4000000 in
set_option maxRecDepth 100000 in
/-- Text.firstDigit() -/
theorem c_T_firstDigit (l : Launch) (D : va_G) (ty : Nat → ClassId) (ad : Nat → Nat) (M : Nat) (F : Nat → va_E) (sz : Nat) (hM : 97 < M) (n : Nat) (tx : Nat → Nat) (hTx : Tx ty ad F n tx) :
    CI l y_T_firstDigit w_T_firstDigit ({ frames := 1, cells := 0, slots := 0, locals := 21 } : Room) [.ref (ad (96))] D ty ad M F sz (fun r F1 => r = iI (fdig tx n) ∧ F1 = F) := by
  refine Met.ofW (cc := b_T_firstDigit) (maxL := 1) (ret := (some .int)) (by decide) rfl ?_
  intro p e s m args below meth c s₁ B hml hv
  obtain ⟨rfl, hsz, hP, hK, hD0⟩ := hv
  have hx := B.exec
  have hb := B.bytes
  have hr := B.returns
  have hts := atoms_spec (ws := w_T_firstDigit) B.pre
  have hq : ∀ w ∈ wT, w.before _ s = true := fun w h => hts w (List.mem_cons_of_mem _ h)
  have hown : s.vm.findClass R_T = some m.cls := findClass_of_methodNamed B.named
  have hlocks := B.notSynchronized
  subst hsz
  have hw := pw_start hP hK hD0
  have hl := lv_entry ([.ref (ad (96))]) (n := 1) (Nat.le_of_ble_eq_true rfl)
  rw [lg_entry_eq]
  generalize (lg_sl ([.ref (ad (96))]) ++ List.replicate (1 - (lg_sl ([.ref (ad (96))])).length) Slot.unset).toArray = ls at hl ⊢
  have hl : lv_has ls 1 [(0, .ref (ad (96)))] := hl
  change W p l e ({ frames := 1, cells := 0, slots := 0, locals := 21 } : Room) s m ([.ref (ad (96))]).toArray below meth c s.heap [] 0 0 (MQ below (va_Qi (fun r F1 => r = iI (fdig tx n) ∧ F1 = F) (pAt D classes (tysL ty) ad M (pA ad M s.heap.size)) (pA ad M s.heap.size)) ([.ref (ad (96))]).toArray s 0 0 (pA ad M s.heap.size)) (F0 m 0 ls [])
  generalize hQ : MQ below (va_Qi (fun r F1 => r = iI (fdig tx n) ∧ F1 = F) (pAt D classes (tysL ty) ad M (pA ad M s.heap.size)) (pA ad M s.heap.size)) ([.ref (ad (96))]).toArray s 0 0 (pA ad M s.heap.size) = Q
  obtain ⟨H, hH⟩ : ∃ H, H = s.heap := ⟨_, rfl⟩
  obtain ⟨locs, hlo⟩ : ∃ z : List Loc, z = [] := ⟨_, rfl⟩
  have hw : pw D classes (tysL ty) ad M F (pA ad M s.heap.size) s H locs := by rw [hH, hlo]; exact hw
  have hgo : W p l e ({ frames := 1, cells := 0, slots := 0, locals := 21 } : Room) s m ([.ref (ad (96))]).toArray below meth c H locs 0 0 Q (F0 m 0 ls []) := by
    obtain ⟨hT, g, hC, hn, hg, hlt⟩ := hTx
    have htb := tat_b hlt 0
    have hfd := @fdig_eq tx n
    refine lv_aload_n hx hb d_T_firstDigit_0 rfl (lv_at hl 0 rfl) ?_
    refine wz_iconst (n := 0) hx hb d_T_firstDigit_1 ?_
    refine pw_calli hw (va_runV (As := [.int (iI (0))]) (rest := []) ⟨hx, hb, hml, hown, hq⟩ (c_T_at l D ty ad M F H.size hM n tx ⟨hT, g, hC, hn, hg, hlt⟩ 0 (by omega)) (cwV 1 hq (gV ml_T_42 im_T_at se_T_at in_T m_T_at) rfl rfl rfl (by decide +kernel) ⟨Nat.le_of_ble_eq_true rfl, Nat.le_of_ble_eq_true rfl⟩) (pw_preV hw (by omega) hT rfl) rfl rfl hl.1 rfl (lv_room (Nat.le_of_ble_eq_true rfl)) d_T_firstDigit_2 ⟨Nat.le_of_ble_eq_true rfl, Nat.le_of_ble_eq_true rfl⟩) (fun r2 F2 H locs q2 hw => ?_)
    obtain ⟨er2, eF2⟩ := q2
    rw [eF2] at hw
    clear eF2
    subst er2
    refine wz_bipush (n := 45) hx hb d_T_firstDigit_5 (by decide) ?_
    refine wz_icmp_ne (tgt := 14) hx hb d_T_firstDigit_7 (by decide) (by omega) (by omega) (by omega) (by omega) (fun c7 => ?_) (fun c7 => ?_)
    · refine wz_iconst (n := 0) hx hb d_T_firstDigit_14 ?_
      rw [← hQ]
      exact pw_iret hx hb hr hlocks hw (⟨by rw [fdig, if_neg (fun h9 => by omega)]; rfl, rfl⟩) d_T_firstDigit_15
    · refine wz_iconst (n := 1) hx hb d_T_firstDigit_10 ?_
      refine lv_goto (tgt := 15) hx hb d_T_firstDigit_11 (by decide) ?_
      rw [← hQ]
      exact pw_iret hx hb hr hlocks hw (⟨by rw [fdig, if_pos (hfd.mp c7)]; rfl, rfl⟩) d_T_firstDigit_15
  rw [hH, hlo] at hgo
  exact hgo
set_option maxHeartbeats 4000000 in
set_option maxRecDepth 100000 in
/-- Text.digitsEnd(from) -/
theorem c_T_digitsEnd (l : Launch) (D : va_G) (ty : Nat → ClassId) (ad : Nat → Nat) (M : Nat) (F : Nat → va_E) (sz : Nat) (hM : 97 < M) (n : Nat) (tx : Nat → Nat) (hTx : Tx ty ad F n tx) (i0 : Nat) (hi0 : i0 ≤ n) :
    CI l y_T_digitsEnd w_T_digitsEnd ({ frames := 1, cells := 0, slots := 0, locals := 21 } : Room) [.ref (ad (96)), .int (iI ((i0 : Int)))] D ty ad M F sz (fun r F1 => r = iI (dend tx (n - i0) i0) ∧ F1 = F) := by
  refine Met.ofW (cc := b_T_digitsEnd) (maxL := 3) (ret := (some .int)) (by decide) rfl ?_
  intro p e s m args below meth c s₁ B hml hv
  obtain ⟨rfl, hsz, hP, hK, hD0⟩ := hv
  have hx := B.exec
  have hb := B.bytes
  have hr := B.returns
  have hts := atoms_spec (ws := w_T_digitsEnd) B.pre
  have hq : ∀ w ∈ wT, w.before _ s = true := fun w h => hts w (List.mem_cons_of_mem _ h)
  have hown : s.vm.findClass R_T = some m.cls := findClass_of_methodNamed B.named
  have hlocks := B.notSynchronized
  subst hsz
  have hw := pw_start hP hK hD0
  have hl := lv_entry ([.ref (ad (96)), .int (iI ((i0 : Int)))]) (n := 3) (Nat.le_of_ble_eq_true rfl)
  rw [lg_entry_eq]
  generalize (lg_sl ([.ref (ad (96)), .int (iI ((i0 : Int)))]) ++ List.replicate (3 - (lg_sl ([.ref (ad (96)), .int (iI ((i0 : Int)))])).length) Slot.unset).toArray = ls at hl ⊢
  have hl : lv_has ls 3 [(0, .ref (ad (96))), (1, .int (iI ((i0 : Int))))] := hl
  change W p l e ({ frames := 1, cells := 0, slots := 0, locals := 21 } : Room) s m ([.ref (ad (96)), .int (iI ((i0 : Int)))]).toArray below meth c s.heap [] 0 0 (MQ below (va_Qi (fun r F1 => r = iI (dend tx (n - i0) i0) ∧ F1 = F) (pAt D classes (tysL ty) ad M (pA ad M s.heap.size)) (pA ad M s.heap.size)) ([.ref (ad (96)), .int (iI ((i0 : Int)))]).toArray s 0 0 (pA ad M s.heap.size)) (F0 m 0 ls [])
  generalize hQ : MQ below (va_Qi (fun r F1 => r = iI (dend tx (n - i0) i0) ∧ F1 = F) (pAt D classes (tysL ty) ad M (pA ad M s.heap.size)) (pA ad M s.heap.size)) ([.ref (ad (96)), .int (iI ((i0 : Int)))]).toArray s 0 0 (pA ad M s.heap.size) = Q
  obtain ⟨H, hH⟩ : ∃ H, H = s.heap := ⟨_, rfl⟩
  obtain ⟨locs, hlo⟩ : ∃ z : List Loc, z = [] := ⟨_, rfl⟩
  have hw : pw D classes (tysL ty) ad M F (pA ad M s.heap.size) s H locs := by rw [hH, hlo]; exact hw
  have hgo : W p l e ({ frames := 1, cells := 0, slots := 0, locals := 21 } : Room) s m ([.ref (ad (96)), .int (iI ((i0 : Int)))]).toArray below meth c H locs 0 0 Q (F0 m 0 ls []) := by
    obtain ⟨hT, g, hC, hn, hg, hlt⟩ := hTx
    refine lv_iload_n hx hb d_T_digitsEnd_0 rfl (lv_at hl 1 rfl) ?_
    refine lv_istore_n (lv' := [(2, .int (iI ((i0 : Int)))), (0, .ref (ad (96))), (1, .int (iI ((i0 : Int))))]) hx hb d_T_digitsEnd_1 rfl hl (by decide) rfl (fun ls hl => ?_)
    have K2 : ∀ (fuel : Nat) (i : Nat) (F2 : Nat → va_E) (H : Heap) (locs : List Loc) (ls : Array Slot), n - i < fuel → (i ≤ n) → (dend tx (n - i) i = dend tx (n - i0) i0) → (F2 = F) → F2 (96) = .inr (2, [.ref (ad (97)), .int (iI ((n : Int)))]) → F2 (97) = .inl (ty 1, 1400, .inl (g)) → pw D classes (tysL ty) ad M F2 (pA ad M s.heap.size) s H locs → lv_has ls 3 [(2, .int (iI ((i : Int)))), (0, .ref (ad (96))), (1, .int (iI ((i0 : Int))))] → W p l e ({ frames := 1, cells := 0, slots := 0, locals := 21 } : Room) s m ([.ref (ad (96)), .int (iI ((i0 : Int)))]).toArray below meth c H locs 0 0 Q (F0 m 2 ls []) := by
      intro fuel
      induction fuel with
      | zero => intro i F2 H locs ls hfuel hi hde hFe hT hC hw hl; exact absurd hfuel (Nat.not_lt_zero _)
      | succ fuel ih2 =>
        intro i F2 H locs ls hfuel hi hde hFe hT hC hw hl
        refine lv_iload_n hx hb d_T_digitsEnd_2 rfl (lv_at hl 0 rfl) ?_
        refine lv_aload_n hx hb d_T_digitsEnd_3 rfl (lv_at hl 1 rfl) ?_
        refine pw_get (ci := 2) (C := R_T) (T := T_T) (N := 2) hx hb hq i_T hown hw (by omega) hT rfl 1 (by decide) (hq _ fl_T_15) (fun _ h9 => h9) rfl d_T_digitsEnd_4 ?_
        refine wz_icmp_ge (tgt := 27) hx hb d_T_digitsEnd_7 (by decide) (by omega) (by omega) (by omega) (by omega) (fun c7 => ?_) (fun c7 => ?_)
        · refine lv_iload_n hx hb d_T_digitsEnd_27 rfl (lv_at hl 0 rfl) ?_
          rw [← hQ]
          exact pw_iret hx hb hr hlocks hw (⟨by rw [← hde, show n - i = 0 by omega, dend], hFe⟩) d_T_digitsEnd_28
        · have hti : tat tx n (i : Int) = tx i := tat_n (by omega)
          have htl := hlt i (by omega)
          refine lv_aload_n hx hb d_T_digitsEnd_10 rfl (lv_at hl 1 rfl) ?_
          refine lv_iload_n hx hb d_T_digitsEnd_11 rfl (lv_at hl 0 rfl) ?_
          refine pw_calli hw (va_runV (As := [.int (iI ((i : Int)))]) (rest := []) ⟨hx, hb, hml, hown, hq⟩ (c_T_at l D ty ad M F2 H.size hM n tx ⟨hT, g, hC, hn, hg, hlt⟩ (i : Int) (by omega)) (cwV 1 hq (gV ml_T_42 im_T_at se_T_at in_T m_T_at) rfl rfl rfl (by decide +kernel) ⟨Nat.le_of_ble_eq_true rfl, Nat.le_of_ble_eq_true rfl⟩) (pw_preV hw (by omega) hT rfl) rfl rfl hl.1 rfl (lv_room (Nat.le_of_ble_eq_true rfl)) d_T_digitsEnd_12 ⟨Nat.le_of_ble_eq_true rfl, Nat.le_of_ble_eq_true rfl⟩) (fun r12 F12 H locs q12 hw => ?_)
          obtain ⟨er12, eF12⟩ := q12
          rw [eF12] at hw
          clear eF12
          subst er12
          refine pw_calli hw (va_runS (As := [.int (iI (tat tx n (i : Int)))]) (rest := []) ⟨hx, hb, hml, hown, hq⟩ (c_T_isDigit l D ty ad M F2 H.size (tat tx n (i : Int)) (by omega)) (va_cwS 1 hq (gS ml_T_45 st_T_isDigit in_T m_T_isDigit) rfl rfl rfl (by decide +kernel) ⟨Nat.le_of_ble_eq_true rfl, Nat.le_of_ble_eq_true rfl⟩) (pw_preS hw) rfl rfl hl.1 rfl (lv_room (Nat.le_of_ble_eq_true rfl)) d_T_digitsEnd_15 ⟨Nat.le_of_ble_eq_true rfl, Nat.le_of_ble_eq_true rfl⟩) (fun r15 F15 H locs q15 hw => ?_)
          obtain ⟨er15, eF15⟩ := q15
          rw [eF15] at hw
          clear eF15
          subst er15
          refine wz_if_eq (tgt := 27) hx hb d_T_digitsEnd_18 (by decide) (by split <;> omega) (by split <;> omega) (fun c18 => ?_) (fun c18 => ?_)
          · have hdg := ite_z.mp c18
            refine lv_iload_n hx hb d_T_digitsEnd_27 rfl (lv_at hl 0 rfl) ?_
            rw [← hQ]
            exact pw_iret hx hb hr hlocks hw (⟨by rw [← hde, show n - i = (n - i - 1) + 1 by omega, dend, if_neg (by omega)], hFe⟩) d_T_digitsEnd_28
          · have hdg := ite_nz.mp c18
            refine wz_iinc (z := ((i + 1 : Nat) : Int)) (lv' := [(2, .int (iI (((i + 1 : Nat) : Int)))), (0, .ref (ad (96))), (1, .int (iI ((i0 : Int))))]) hx hb d_T_digitsEnd_21 hl (k := 0) rfl (by omega) (by decide) rfl (fun ls hl => ?_)
            refine lv_goto (tgt := 2) hx hb d_T_digitsEnd_24 (by decide) ?_
            exact ih2 (i + 1) _ _ _ ls (by omega) (by omega) (by rw [← hde, show n - i = (n - (i + 1)) + 1 by omega, dend, if_pos (by omega)]) (hFe) hT hC hw hl
    exact K2 _ i0 _ _ _ ls (Nat.lt_succ_self _) (by omega) (rfl) (rfl) hT hC hw hl
  rw [hH, hlo] at hgo
  exact hgo
set_option maxHeartbeats 4000000 in
set_option maxRecDepth 100000 in
/-- Text.isAllZeros(from, to) -/
theorem c_T_isAllZeros (l : Launch) (D : va_G) (ty : Nat → ClassId) (ad : Nat → Nat) (M : Nat) (F : Nat → va_E) (sz : Nat) (hM : 97 < M) (n : Nat) (tx : Nat → Nat) (hTx : Tx ty ad F n tx) (i0 i1 : Nat) (hi0 : i0 ≤ i1) (hi1 : i1 ≤ n) :
    CI l y_T_isAllZeros w_T_isAllZeros ({ frames := 1, cells := 0, slots := 0, locals := 21 } : Room) [.ref (ad (96)), .int (iI ((i0 : Int))), .int (iI ((i1 : Int)))] D ty ad M F sz (fun r F1 => r = iI (if az tx (i1 - i0) i0 = true then 1 else 0) ∧ F1 = F) := by
  refine Met.ofW (cc := b_T_isAllZeros) (maxL := 4) (ret := (some .boolean)) (by decide) rfl ?_
  intro p e s m args below meth c s₁ B hml hv
  obtain ⟨rfl, hsz, hP, hK, hD0⟩ := hv
  have hx := B.exec
  have hb := B.bytes
  have hr := B.returns
  have hts := atoms_spec (ws := w_T_isAllZeros) B.pre
  have hq : ∀ w ∈ wT, w.before _ s = true := fun w h => hts w (List.mem_cons_of_mem _ h)
  have hown : s.vm.findClass R_T = some m.cls := findClass_of_methodNamed B.named
  have hlocks := B.notSynchronized
  subst hsz
  have hw := pw_start hP hK hD0
  have hl := lv_entry ([.ref (ad (96)), .int (iI ((i0 : Int))), .int (iI ((i1 : Int)))]) (n := 4) (Nat.le_of_ble_eq_true rfl)
  rw [lg_entry_eq]
  generalize (lg_sl ([.ref (ad (96)), .int (iI ((i0 : Int))), .int (iI ((i1 : Int)))]) ++ List.replicate (4 - (lg_sl ([.ref (ad (96)), .int (iI ((i0 : Int))), .int (iI ((i1 : Int)))])).length) Slot.unset).toArray = ls at hl ⊢
  have hl : lv_has ls 4 [(0, .ref (ad (96))), (1, .int (iI ((i0 : Int)))), (2, .int (iI ((i1 : Int))))] := hl
  change W p l e ({ frames := 1, cells := 0, slots := 0, locals := 21 } : Room) s m ([.ref (ad (96)), .int (iI ((i0 : Int))), .int (iI ((i1 : Int)))]).toArray below meth c s.heap [] 0 0 (MQ below (va_Qi (fun r F1 => r = iI (if az tx (i1 - i0) i0 = true then 1 else 0) ∧ F1 = F) (pAt D classes (tysL ty) ad M (pA ad M s.heap.size)) (pA ad M s.heap.size)) ([.ref (ad (96)), .int (iI ((i0 : Int))), .int (iI ((i1 : Int)))]).toArray s 0 0 (pA ad M s.heap.size)) (F0 m 0 ls [])
  generalize hQ : MQ below (va_Qi (fun r F1 => r = iI (if az tx (i1 - i0) i0 = true then 1 else 0) ∧ F1 = F) (pAt D classes (tysL ty) ad M (pA ad M s.heap.size)) (pA ad M s.heap.size)) ([.ref (ad (96)), .int (iI ((i0 : Int))), .int (iI ((i1 : Int)))]).toArray s 0 0 (pA ad M s.heap.size) = Q
  obtain ⟨H, hH⟩ : ∃ H, H = s.heap := ⟨_, rfl⟩
  obtain ⟨locs, hlo⟩ : ∃ z : List Loc, z = [] := ⟨_, rfl⟩
  have hw : pw D classes (tysL ty) ad M F (pA ad M s.heap.size) s H locs := by rw [hH, hlo]; exact hw
  have hgo : W p l e ({ frames := 1, cells := 0, slots := 0, locals := 21 } : Room) s m ([.ref (ad (96)), .int (iI ((i0 : Int))), .int (iI ((i1 : Int)))]).toArray below meth c H locs 0 0 Q (F0 m 0 ls []) := by
    obtain ⟨hT, g, hC, hn, hg, hlt⟩ := hTx
    refine lv_iload_n hx hb d_T_isAllZeros_0 rfl (lv_at hl 1 rfl) ?_
    refine lv_istore_n (lv' := [(3, .int (iI ((i0 : Int)))), (0, .ref (ad (96))), (1, .int (iI ((i0 : Int)))), (2, .int (iI ((i1 : Int))))]) hx hb d_T_isAllZeros_1 rfl hl (by decide) rfl (fun ls hl => ?_)
    have K2 : ∀ (fuel : Nat) (i : Nat) (F2 : Nat → va_E) (H : Heap) (locs : List Loc) (ls : Array Slot), i1 - i < fuel → (i ≤ i1) → (az tx (i1 - i) i = az tx (i1 - i0) i0) → (F2 = F) → F2 (96) = .inr (2, [.ref (ad (97)), .int (iI ((n : Int)))]) → F2 (97) = .inl (ty 1, 1400, .inl (g)) → pw D classes (tysL ty) ad M F2 (pA ad M s.heap.size) s H locs → lv_has ls 4 [(3, .int (iI ((i : Int)))), (0, .ref (ad (96))), (1, .int (iI ((i0 : Int)))), (2, .int (iI ((i1 : Int))))] → W p l e ({ frames := 1, cells := 0, slots := 0, locals := 21 } : Room) s m ([.ref (ad (96)), .int (iI ((i0 : Int))), .int (iI ((i1 : Int)))]).toArray below meth c H locs 0 0 Q (F0 m 2 ls []) := by
      intro fuel
      induction fuel with
      | zero => intro i F2 H locs ls hfuel hi haz hFe hT hC hw hl; exact absurd hfuel (Nat.not_lt_zero _)
      | succ fuel ih2 =>
        intro i F2 H locs ls hfuel hi haz hFe hT hC hw hl
        refine lv_iload_n hx hb d_T_isAllZeros_2 rfl (lv_at hl 0 rfl) ?_
        refine lv_iload_n hx hb d_T_isAllZeros_3 rfl (lv_at hl 3 rfl) ?_
        refine wz_icmp_ge (tgt := 25) hx hb d_T_isAllZeros_4 (by decide) (by omega) (by omega) (by omega) (by omega) (fun c4 => ?_) (fun c4 => ?_)
        · refine wz_iconst (n := 1) hx hb d_T_isAllZeros_25 ?_
          rw [← hQ]
          exact pw_zret hx hb hr (by decide) hlocks hw (⟨by rw [← haz, show i1 - i = 0 by omega, az, if_pos rfl], hFe⟩) d_T_isAllZeros_26
        · have hti : tat tx n (i : Int) = tx i := tat_n (by omega)
          have htl := hlt i (by omega)
          refine lv_aload_n hx hb d_T_isAllZeros_7 rfl (lv_at hl 1 rfl) ?_
          refine lv_iload_n hx hb d_T_isAllZeros_8 rfl (lv_at hl 0 rfl) ?_
          refine pw_calli hw (va_runV (As := [.int (iI ((i : Int)))]) (rest := []) ⟨hx, hb, hml, hown, hq⟩ (c_T_at l D ty ad M F2 H.size hM n tx ⟨hT, g, hC, hn, hg, hlt⟩ (i : Int) (by omega)) (cwV 1 hq (gV ml_T_42 im_T_at se_T_at in_T m_T_at) rfl rfl rfl (by decide +kernel) ⟨Nat.le_of_ble_eq_true rfl, Nat.le_of_ble_eq_true rfl⟩) (pw_preV hw (by omega) hT rfl) rfl rfl hl.1 rfl (lv_room (Nat.le_of_ble_eq_true rfl)) d_T_isAllZeros_9 ⟨Nat.le_of_ble_eq_true rfl, Nat.le_of_ble_eq_true rfl⟩) (fun r9 F9 H locs q9 hw => ?_)
          obtain ⟨er9, eF9⟩ := q9
          rw [eF9] at hw
          clear eF9
          subst er9
          refine wz_bipush (n := 48) hx hb d_T_isAllZeros_12 (by decide) ?_
          refine wz_icmp_eq (tgt := 19) hx hb d_T_isAllZeros_14 (by decide) (by omega) (by omega) (by omega) (by omega) (fun c14 => ?_) (fun c14 => ?_)
          · refine wz_iinc (z := ((i + 1 : Nat) : Int)) (lv' := [(3, .int (iI (((i + 1 : Nat) : Int)))), (0, .ref (ad (96))), (1, .int (iI ((i0 : Int)))), (2, .int (iI ((i1 : Int))))]) hx hb d_T_isAllZeros_19 hl (k := 0) rfl (by omega) (by decide) rfl (fun ls hl => ?_)
            refine lv_goto (tgt := 2) hx hb d_T_isAllZeros_22 (by decide) ?_
            exact ih2 (i + 1) _ _ _ ls (by omega) (by omega) (by rw [← haz, show i1 - i = (i1 - (i + 1)) + 1 by omega, az, show tx i = 48 by omega]; simp) (hFe) hT hC hw hl
          · refine wz_iconst (n := 0) hx hb d_T_isAllZeros_17 ?_
            rw [← hQ]
            exact pw_zret hx hb hr (by decide) hlocks hw (⟨by rw [← haz, show i1 - i = (i1 - i - 1) + 1 by omega, az, if_neg (by simp; omega)], hFe⟩) d_T_isAllZeros_18
    exact K2 _ i0 _ _ _ ls (Nat.lt_succ_self _) (by omega) (rfl) (rfl) hT hC hw hl
  rw [hH, hlo] at hgo
  exact hgo
set_option maxHeartbeats 4000000 in
set_option maxRecDepth 100000 in
/-- Text.wrongAt() -/
theorem c_T_wrongAt (l : Launch) (D : va_G) (ty : Nat → ClassId) (ad : Nat → Nat) (M : Nat) (F : Nat → va_E) (sz : Nat) (hM : 97 < M) (n : Nat) (tx : Nat → Nat) (hTx : Tx ty ad F n tx) :
    CI l y_T_wrongAt w_T_wrongAt ({ frames := 2, cells := 0, slots := 0, locals := 44 } : Room) [.ref (ad (96))] D ty ad M F sz (fun r F1 => r = iI (wrongT tx n) ∧ F1 = F) := by
  refine Met.ofW (cc := b_T_wrongAt) (maxL := 5) (ret := (some .int)) (by decide) rfl ?_
  intro p e s m args below meth c s₁ B hml hv
  obtain ⟨rfl, hsz, hP, hK, hD0⟩ := hv
  have hx := B.exec
  have hb := B.bytes
  have hr := B.returns
  have hts := atoms_spec (ws := w_T_wrongAt) B.pre
  have hq : ∀ w ∈ wT, w.before _ s = true := fun w h => hts w (List.mem_cons_of_mem _ h)
  have hown : s.vm.findClass R_T = some m.cls := findClass_of_methodNamed B.named
  have hlocks := B.notSynchronized
  subst hsz
  have hw := pw_start hP hK hD0
  have hl := lv_entry ([.ref (ad (96))]) (n := 5) (Nat.le_of_ble_eq_true rfl)
  rw [lg_entry_eq]
  generalize (lg_sl ([.ref (ad (96))]) ++ List.replicate (5 - (lg_sl ([.ref (ad (96))])).length) Slot.unset).toArray = ls at hl ⊢
  have hl : lv_has ls 5 [(0, .ref (ad (96)))] := hl
  change W p l e ({ frames := 2, cells := 0, slots := 0, locals := 44 } : Room) s m ([.ref (ad (96))]).toArray below meth c s.heap [] 0 0 (MQ below (va_Qi (fun r F1 => r = iI (wrongT tx n) ∧ F1 = F) (pAt D classes (tysL ty) ad M (pA ad M s.heap.size)) (pA ad M s.heap.size)) ([.ref (ad (96))]).toArray s 0 0 (pA ad M s.heap.size)) (F0 m 0 ls [])
  generalize hQ : MQ below (va_Qi (fun r F1 => r = iI (wrongT tx n) ∧ F1 = F) (pAt D classes (tysL ty) ad M (pA ad M s.heap.size)) (pA ad M s.heap.size)) ([.ref (ad (96))]).toArray s 0 0 (pA ad M s.heap.size) = Q
  obtain ⟨H, hH⟩ : ∃ H, H = s.heap := ⟨_, rfl⟩
  obtain ⟨locs, hlo⟩ : ∃ z : List Loc, z = [] := ⟨_, rfl⟩
  have hw : pw D classes (tysL ty) ad M F (pA ad M s.heap.size) s H locs := by rw [hH, hlo]; exact hw
  have hgo : W p l e ({ frames := 2, cells := 0, slots := 0, locals := 44 } : Room) s m ([.ref (ad (96))]).toArray below meth c H locs 0 0 Q (F0 m 0 ls []) := by
    obtain ⟨hT, g, hC, hn, hg, hlt⟩ := hTx
    obtain ⟨a0, ha0⟩ : ∃ z, z = fdig tx n := ⟨_, rfl⟩
    have ha1 := @fdig_le tx n
    rw [← ha0] at ha1
    obtain ⟨b0, hb9⟩ : ∃ z, z = dend tx (n - a0) a0 := ⟨_, rfl⟩
    have hb1 := dend_b tx (n - a0) a0
    rw [← hb9] at hb1
    obtain ⟨e0, he9⟩ : ∃ z, z = dend tx (n - (b0 + 1)) (b0 + 1) := ⟨_, rfl⟩
    have he1 := dend_b tx (n - (b0 + 1)) (b0 + 1)
    rw [← he9] at he1
    have hwt : wrongT tx n = if a0 < b0 ∧ b0 = n then -1 else if b0 = a0 ∨ ¬ (b0 < n ∧ tx b0 = 47) then (b0 : Int) else if e0 = n ∧ az tx (e0 - (b0 + 1)) (b0 + 1) = false then -1 else (e0 : Int) := by
      rw [wrongT, ← ha0, ← hb9, ← he9]
    have htb := tat_b hlt (b0 : Int)
    refine lv_aload_n hx hb d_T_wrongAt_0 rfl (lv_at hl 0 rfl) ?_
    refine pw_calli hw (va_runV (As := []) (rest := []) ⟨hx, hb, hml, hown, hq⟩ (c_T_firstDigit l D ty ad M F H.size hM n tx ⟨hT, g, hC, hn, hg, hlt⟩) (cwV 0 hq (gV ml_T_49 im_T_firstDigit se_T_firstDigit in_T m_T_firstDigit) rfl rfl rfl (by decide +kernel) ⟨Nat.le_of_ble_eq_true rfl, Nat.le_of_ble_eq_true rfl⟩) (pw_preV hw (by omega) hT rfl) rfl rfl hl.1 rfl (lv_room (Nat.le_of_ble_eq_true rfl)) d_T_wrongAt_1 ⟨Nat.le_of_ble_eq_true rfl, Nat.le_of_ble_eq_true rfl⟩) (fun r1 F1 H locs q1 hw => ?_)
    obtain ⟨er1, eF1⟩ := q1
    rw [eF1] at hw
    clear eF1
    rw [← ha0] at er1
    subst er1
    refine lv_istore_n (lv' := [(1, .int (iI ((a0 : Int)))), (0, .ref (ad (96)))]) hx hb d_T_wrongAt_4 rfl hl (by decide) rfl (fun ls hl => ?_)
    refine lv_aload_n hx hb d_T_wrongAt_5 rfl (lv_at hl 1 rfl) ?_
    refine lv_iload_n hx hb d_T_wrongAt_6 rfl (lv_at hl 0 rfl) ?_
    refine pw_calli hw (va_runV (As := [.int (iI ((a0 : Int)))]) (rest := []) ⟨hx, hb, hml, hown, hq⟩ (c_T_digitsEnd l D ty ad M F H.size hM n tx ⟨hT, g, hC, hn, hg, hlt⟩ a0 (by omega)) (cwV 1 hq (gV ml_T_53 im_T_digitsEnd se_T_digitsEnd in_T m_T_digitsEnd) rfl rfl rfl (by decide +kernel) ⟨Nat.le_of_ble_eq_true rfl, Nat.le_of_ble_eq_true rfl⟩) (pw_preV hw (by omega) hT rfl) rfl rfl hl.1 rfl (lv_room (Nat.le_of_ble_eq_true rfl)) d_T_wrongAt_7 ⟨Nat.le_of_ble_eq_true rfl, Nat.le_of_ble_eq_true rfl⟩) (fun r7 F7 H locs q7 hw => ?_)
    obtain ⟨er7, eF7⟩ := q7
    rw [eF7] at hw
    clear eF7
    rw [← hb9] at er7
    subst er7
    refine lv_istore_n (lv' := [(2, .int (iI ((b0 : Int)))), (1, .int (iI ((a0 : Int)))), (0, .ref (ad (96)))]) hx hb d_T_wrongAt_10 rfl hl (by decide) rfl (fun ls hl => ?_)
    refine lv_iload_n hx hb d_T_wrongAt_11 rfl (lv_at hl 0 rfl) ?_
    refine lv_iload_n hx hb d_T_wrongAt_12 rfl (lv_at hl 1 rfl) ?_
    refine wz_icmp_le (tgt := 26) hx hb d_T_wrongAt_13 (by decide) (by omega) (by omega) (by omega) (by omega) (fun c13 => ?_) (fun c13 => ?_)
    · refine lv_iload_n hx hb d_T_wrongAt_26 rfl (lv_at hl 0 rfl) ?_
      refine lv_iload_n hx hb d_T_wrongAt_27 rfl (lv_at hl 1 rfl) ?_
      refine wz_icmp_eq (tgt := 41) hx hb d_T_wrongAt_28 (by decide) (by omega) (by omega) (by omega) (by omega) (fun c28 => ?_) (fun c28 => ?_)
      · refine lv_iload_n hx hb d_T_wrongAt_41 rfl (lv_at hl 0 rfl) ?_
        rw [← hQ]
        exact pw_iret hx hb hr hlocks hw (⟨by rw [hwt, if_neg (by omega), if_pos (Or.inl (by omega))], rfl⟩) d_T_wrongAt_42
      · refine lv_aload_n hx hb d_T_wrongAt_31 rfl (lv_at hl 2 rfl) ?_
        refine lv_iload_n hx hb d_T_wrongAt_32 rfl (lv_at hl 0 rfl) ?_
        refine pw_calli hw (va_runV (As := [.int (iI ((b0 : Int)))]) (rest := []) ⟨hx, hb, hml, hown, hq⟩ (c_T_at l D ty ad M F H.size hM n tx ⟨hT, g, hC, hn, hg, hlt⟩ (b0 : Int) (by omega)) (cwV 1 hq (gV ml_T_42 im_T_at se_T_at in_T m_T_at) rfl rfl rfl (by decide +kernel) ⟨Nat.le_of_ble_eq_true rfl, Nat.le_of_ble_eq_true rfl⟩) (pw_preV hw (by omega) hT rfl) rfl rfl hl.1 rfl (lv_room (Nat.le_of_ble_eq_true rfl)) d_T_wrongAt_33 ⟨Nat.le_of_ble_eq_true rfl, Nat.le_of_ble_eq_true rfl⟩) (fun r33 F33 H locs q33 hw => ?_)
        obtain ⟨er33, eF33⟩ := q33
        rw [eF33] at hw
        clear eF33
        subst er33
        refine wz_bipush (n := 47) hx hb d_T_wrongAt_36 (by decide) ?_
        refine wz_icmp_eq (tgt := 43) hx hb d_T_wrongAt_38 (by decide) (by omega) (by omega) (by omega) (by omega) (fun c38 => ?_) (fun c38 => ?_)
        · have hb47 : b0 < n ∧ tx b0 = 47 := by
            by_cases h9 : b0 < n
            · rw [tat_n h9] at c38; omega
            · rw [tat, if_neg (by omega)] at c38; omega
          refine lv_aload_n hx hb d_T_wrongAt_43 rfl (lv_at hl 2 rfl) ?_
          refine lv_iload_n hx hb d_T_wrongAt_44 rfl (lv_at hl 0 rfl) ?_
          refine wz_iconst (n := 1) hx hb d_T_wrongAt_45 ?_
          refine wz_iadd (z := ((b0 + 1 : Nat) : Int)) hx hb d_T_wrongAt_46 (by omega) ?_
          refine pw_calli hw (va_runV (As := [.int (iI (((b0 + 1 : Nat) : Int)))]) (rest := []) ⟨hx, hb, hml, hown, hq⟩ (c_T_digitsEnd l D ty ad M F H.size hM n tx ⟨hT, g, hC, hn, hg, hlt⟩ (b0 + 1) (by omega)) (cwV 1 hq (gV ml_T_53 im_T_digitsEnd se_T_digitsEnd in_T m_T_digitsEnd) rfl rfl rfl (by decide +kernel) ⟨Nat.le_of_ble_eq_true rfl, Nat.le_of_ble_eq_true rfl⟩) (pw_preV hw (by omega) hT rfl) rfl rfl hl.1 rfl (lv_room (Nat.le_of_ble_eq_true rfl)) d_T_wrongAt_47 ⟨Nat.le_of_ble_eq_true rfl, Nat.le_of_ble_eq_true rfl⟩) (fun r47 F47 H locs q47 hw => ?_)
          obtain ⟨er47, eF47⟩ := q47
          rw [eF47] at hw
          clear eF47
          rw [← he9] at er47
          subst er47
          refine lv_istore_n (lv' := [(3, .int (iI ((e0 : Int)))), (2, .int (iI ((b0 : Int)))), (1, .int (iI ((a0 : Int)))), (0, .ref (ad (96)))]) hx hb d_T_wrongAt_50 rfl hl (by decide) rfl (fun ls hl => ?_)
          refine lv_iload_n hx hb d_T_wrongAt_51 rfl (lv_at hl 0 rfl) ?_
          refine lv_aload_n hx hb d_T_wrongAt_52 rfl (lv_at hl 3 rfl) ?_
          refine pw_get (ci := 2) (C := R_T) (T := T_T) (N := 2) hx hb hq i_T hown hw (by omega) hT rfl 1 (by decide) (hq _ fl_T_15) (fun _ h9 => h9) rfl d_T_wrongAt_53 ?_
          refine wz_icmp_ne (tgt := 74) hx hb d_T_wrongAt_56 (by decide) (by omega) (by omega) (by omega) (by omega) (fun c56 => ?_) (fun c56 => ?_)
          · refine wz_iconst (n := 0) hx hb d_T_wrongAt_74 ?_
            refine lv_istore (lv' := [(4, .int (iI (0))), (3, .int (iI ((e0 : Int)))), (2, .int (iI ((b0 : Int)))), (1, .int (iI ((a0 : Int)))), (0, .ref (ad (96)))]) hx hb d_T_wrongAt_75 hl (by decide) rfl (fun ls hl => ?_)
            refine lv_iload hx hb d_T_wrongAt_77 (lv_at hl 0 rfl) ?_
            refine wz_if_eq (tgt := 86) hx hb d_T_wrongAt_79 (by decide) (by omega) (by omega) (fun c79 => ?_) (fun c79 => ?_)
            · refine lv_iload_n hx hb d_T_wrongAt_86 rfl (lv_at hl 1 rfl) ?_
              rw [← hQ]
              exact pw_iret hx hb hr hlocks hw (⟨by rw [hwt, if_neg (by omega), if_neg (by omega), if_neg (fun h9 => absurd h9.1 (by omega))], rfl⟩) d_T_wrongAt_87
            · exact absurd c79 (by omega)
          · refine lv_aload_n hx hb d_T_wrongAt_59 rfl (lv_at hl 3 rfl) ?_
            refine lv_iload_n hx hb d_T_wrongAt_60 rfl (lv_at hl 1 rfl) ?_
            refine wz_iconst (n := 1) hx hb d_T_wrongAt_61 ?_
            refine wz_iadd (z := ((b0 + 1 : Nat) : Int)) hx hb d_T_wrongAt_62 (by omega) ?_
            refine lv_iload_n hx hb d_T_wrongAt_63 rfl (lv_at hl 0 rfl) ?_
            refine pw_calli hw (va_runV (As := [.int (iI (((b0 + 1 : Nat) : Int))), .int (iI ((e0 : Int)))]) (rest := []) ⟨hx, hb, hml, hown, hq⟩ (c_T_isAllZeros l D ty ad M F H.size hM n tx ⟨hT, g, hC, hn, hg, hlt⟩ (b0 + 1) e0 (by omega) (by omega)) (cwV 2 hq (gV ml_T_56 im_T_isAllZeros se_T_isAllZeros in_T m_T_isAllZeros) rfl rfl rfl (by decide +kernel) ⟨Nat.le_of_ble_eq_true rfl, Nat.le_of_ble_eq_true rfl⟩) (pw_preV hw (by omega) hT rfl) rfl rfl hl.1 rfl (lv_room (Nat.le_of_ble_eq_true rfl)) d_T_wrongAt_64 ⟨Nat.le_of_ble_eq_true rfl, Nat.le_of_ble_eq_true rfl⟩) (fun r64 F64 H locs q64 hw => ?_)
            obtain ⟨er64, eF64⟩ := q64
            rw [eF64] at hw
            clear eF64
            subst er64
            refine wz_if_ne (tgt := 74) hx hb d_T_wrongAt_67 (by decide) (by split <;> omega) (by split <;> omega) (fun c67 => ?_) (fun c67 => ?_)
            · have hazf := ite_nz.mp c67
              refine wz_iconst (n := 0) hx hb d_T_wrongAt_74 ?_
              refine lv_istore (lv' := [(4, .int (iI (0))), (3, .int (iI ((e0 : Int)))), (2, .int (iI ((b0 : Int)))), (1, .int (iI ((a0 : Int)))), (0, .ref (ad (96)))]) hx hb d_T_wrongAt_75 hl (by decide) rfl (fun ls hl => ?_)
              refine lv_iload hx hb d_T_wrongAt_77 (lv_at hl 0 rfl) ?_
              refine wz_if_eq (tgt := 86) hx hb d_T_wrongAt_79 (by decide) (by omega) (by omega) (fun c79 => ?_) (fun c79 => ?_)
              · refine lv_iload_n hx hb d_T_wrongAt_86 rfl (lv_at hl 1 rfl) ?_
                rw [← hQ]
                exact pw_iret hx hb hr hlocks hw (⟨by rw [hwt, if_neg (by omega), if_neg (by omega), if_neg (fun h9 => by rw [h9.2] at hazf; exact absurd hazf (by decide))], rfl⟩) d_T_wrongAt_87
              · exact absurd c79 (by omega)
            · have hazf := ite_z.mp c67
              refine wz_iconst (n := 1) hx hb d_T_wrongAt_70 ?_
              refine lv_goto (tgt := 75) hx hb d_T_wrongAt_71 (by decide) ?_
              refine lv_istore (lv' := [(4, .int (iI (1))), (3, .int (iI ((e0 : Int)))), (2, .int (iI ((b0 : Int)))), (1, .int (iI ((a0 : Int)))), (0, .ref (ad (96)))]) hx hb d_T_wrongAt_75 hl (by decide) rfl (fun ls hl => ?_)
              refine lv_iload hx hb d_T_wrongAt_77 (lv_at hl 0 rfl) ?_
              refine wz_if_eq (tgt := 86) hx hb d_T_wrongAt_79 (by decide) (by omega) (by omega) (fun c79 => ?_) (fun c79 => ?_)
              · exact absurd c79 (by omega)
              · refine wz_iconst (n := -1) hx hb d_T_wrongAt_82 ?_
                refine lv_goto (tgt := 87) hx hb d_T_wrongAt_83 (by decide) ?_
                rw [← hQ]
                exact pw_iret hx hb hr hlocks hw (⟨by rw [hwt, if_neg (by omega), if_neg (by omega), if_pos ⟨by omega, by simpa using hazf⟩], rfl⟩) d_T_wrongAt_87
        · have hb47 : ¬ (b0 < n ∧ tx b0 = 47) := fun h9 => by
            rw [tat_n h9.1] at c38
            omega
          refine lv_iload_n hx hb d_T_wrongAt_41 rfl (lv_at hl 0 rfl) ?_
          rw [← hQ]
          exact pw_iret hx hb hr hlocks hw (⟨by rw [hwt, if_neg (by omega), if_pos (Or.inr hb47)], rfl⟩) d_T_wrongAt_42
    · refine lv_iload_n hx hb d_T_wrongAt_16 rfl (lv_at hl 0 rfl) ?_
      refine lv_aload_n hx hb d_T_wrongAt_17 rfl (lv_at hl 2 rfl) ?_
      refine pw_get (ci := 2) (C := R_T) (T := T_T) (N := 2) hx hb hq i_T hown hw (by omega) hT rfl 1 (by decide) (hq _ fl_T_15) (fun _ h9 => h9) rfl d_T_wrongAt_18 ?_
      refine wz_icmp_ne (tgt := 26) hx hb d_T_wrongAt_21 (by decide) (by omega) (by omega) (by omega) (by omega) (fun c21 => ?_) (fun c21 => ?_)
      · refine lv_iload_n hx hb d_T_wrongAt_26 rfl (lv_at hl 0 rfl) ?_
        refine lv_iload_n hx hb d_T_wrongAt_27 rfl (lv_at hl 1 rfl) ?_
        refine wz_icmp_eq (tgt := 41) hx hb d_T_wrongAt_28 (by decide) (by omega) (by omega) (by omega) (by omega) (fun c28 => ?_) (fun c28 => ?_)
        · refine lv_iload_n hx hb d_T_wrongAt_41 rfl (lv_at hl 0 rfl) ?_
          rw [← hQ]
          exact pw_iret hx hb hr hlocks hw (⟨by rw [hwt, if_neg (by omega), if_pos (Or.inl (by omega))], rfl⟩) d_T_wrongAt_42
        · refine lv_aload_n hx hb d_T_wrongAt_31 rfl (lv_at hl 2 rfl) ?_
          refine lv_iload_n hx hb d_T_wrongAt_32 rfl (lv_at hl 0 rfl) ?_
          refine pw_calli hw (va_runV (As := [.int (iI ((b0 : Int)))]) (rest := []) ⟨hx, hb, hml, hown, hq⟩ (c_T_at l D ty ad M F H.size hM n tx ⟨hT, g, hC, hn, hg, hlt⟩ (b0 : Int) (by omega)) (cwV 1 hq (gV ml_T_42 im_T_at se_T_at in_T m_T_at) rfl rfl rfl (by decide +kernel) ⟨Nat.le_of_ble_eq_true rfl, Nat.le_of_ble_eq_true rfl⟩) (pw_preV hw (by omega) hT rfl) rfl rfl hl.1 rfl (lv_room (Nat.le_of_ble_eq_true rfl)) d_T_wrongAt_33 ⟨Nat.le_of_ble_eq_true rfl, Nat.le_of_ble_eq_true rfl⟩) (fun r33 F33 H locs q33 hw => ?_)
          obtain ⟨er33, eF33⟩ := q33
          rw [eF33] at hw
          clear eF33
          subst er33
          refine wz_bipush (n := 47) hx hb d_T_wrongAt_36 (by decide) ?_
          refine wz_icmp_eq (tgt := 43) hx hb d_T_wrongAt_38 (by decide) (by omega) (by omega) (by omega) (by omega) (fun c38 => ?_) (fun c38 => ?_)
          · have hb47 : b0 < n ∧ tx b0 = 47 := by
              by_cases h9 : b0 < n
              · rw [tat_n h9] at c38; omega
              · rw [tat, if_neg (by omega)] at c38; omega
            refine lv_aload_n hx hb d_T_wrongAt_43 rfl (lv_at hl 2 rfl) ?_
            refine lv_iload_n hx hb d_T_wrongAt_44 rfl (lv_at hl 0 rfl) ?_
            refine wz_iconst (n := 1) hx hb d_T_wrongAt_45 ?_
            refine wz_iadd (z := ((b0 + 1 : Nat) : Int)) hx hb d_T_wrongAt_46 (by omega) ?_
            refine pw_calli hw (va_runV (As := [.int (iI (((b0 + 1 : Nat) : Int)))]) (rest := []) ⟨hx, hb, hml, hown, hq⟩ (c_T_digitsEnd l D ty ad M F H.size hM n tx ⟨hT, g, hC, hn, hg, hlt⟩ (b0 + 1) (by omega)) (cwV 1 hq (gV ml_T_53 im_T_digitsEnd se_T_digitsEnd in_T m_T_digitsEnd) rfl rfl rfl (by decide +kernel) ⟨Nat.le_of_ble_eq_true rfl, Nat.le_of_ble_eq_true rfl⟩) (pw_preV hw (by omega) hT rfl) rfl rfl hl.1 rfl (lv_room (Nat.le_of_ble_eq_true rfl)) d_T_wrongAt_47 ⟨Nat.le_of_ble_eq_true rfl, Nat.le_of_ble_eq_true rfl⟩) (fun r47 F47 H locs q47 hw => ?_)
            obtain ⟨er47, eF47⟩ := q47
            rw [eF47] at hw
            clear eF47
            rw [← he9] at er47
            subst er47
            refine lv_istore_n (lv' := [(3, .int (iI ((e0 : Int)))), (2, .int (iI ((b0 : Int)))), (1, .int (iI ((a0 : Int)))), (0, .ref (ad (96)))]) hx hb d_T_wrongAt_50 rfl hl (by decide) rfl (fun ls hl => ?_)
            refine lv_iload_n hx hb d_T_wrongAt_51 rfl (lv_at hl 0 rfl) ?_
            refine lv_aload_n hx hb d_T_wrongAt_52 rfl (lv_at hl 3 rfl) ?_
            refine pw_get (ci := 2) (C := R_T) (T := T_T) (N := 2) hx hb hq i_T hown hw (by omega) hT rfl 1 (by decide) (hq _ fl_T_15) (fun _ h9 => h9) rfl d_T_wrongAt_53 ?_
            refine wz_icmp_ne (tgt := 74) hx hb d_T_wrongAt_56 (by decide) (by omega) (by omega) (by omega) (by omega) (fun c56 => ?_) (fun c56 => ?_)
            · refine wz_iconst (n := 0) hx hb d_T_wrongAt_74 ?_
              refine lv_istore (lv' := [(4, .int (iI (0))), (3, .int (iI ((e0 : Int)))), (2, .int (iI ((b0 : Int)))), (1, .int (iI ((a0 : Int)))), (0, .ref (ad (96)))]) hx hb d_T_wrongAt_75 hl (by decide) rfl (fun ls hl => ?_)
              refine lv_iload hx hb d_T_wrongAt_77 (lv_at hl 0 rfl) ?_
              refine wz_if_eq (tgt := 86) hx hb d_T_wrongAt_79 (by decide) (by omega) (by omega) (fun c79 => ?_) (fun c79 => ?_)
              · refine lv_iload_n hx hb d_T_wrongAt_86 rfl (lv_at hl 1 rfl) ?_
                rw [← hQ]
                exact pw_iret hx hb hr hlocks hw (⟨by rw [hwt, if_neg (by omega), if_neg (by omega), if_neg (fun h9 => absurd h9.1 (by omega))], rfl⟩) d_T_wrongAt_87
              · exact absurd c79 (by omega)
            · refine lv_aload_n hx hb d_T_wrongAt_59 rfl (lv_at hl 3 rfl) ?_
              refine lv_iload_n hx hb d_T_wrongAt_60 rfl (lv_at hl 1 rfl) ?_
              refine wz_iconst (n := 1) hx hb d_T_wrongAt_61 ?_
              refine wz_iadd (z := ((b0 + 1 : Nat) : Int)) hx hb d_T_wrongAt_62 (by omega) ?_
              refine lv_iload_n hx hb d_T_wrongAt_63 rfl (lv_at hl 0 rfl) ?_
              refine pw_calli hw (va_runV (As := [.int (iI (((b0 + 1 : Nat) : Int))), .int (iI ((e0 : Int)))]) (rest := []) ⟨hx, hb, hml, hown, hq⟩ (c_T_isAllZeros l D ty ad M F H.size hM n tx ⟨hT, g, hC, hn, hg, hlt⟩ (b0 + 1) e0 (by omega) (by omega)) (cwV 2 hq (gV ml_T_56 im_T_isAllZeros se_T_isAllZeros in_T m_T_isAllZeros) rfl rfl rfl (by decide +kernel) ⟨Nat.le_of_ble_eq_true rfl, Nat.le_of_ble_eq_true rfl⟩) (pw_preV hw (by omega) hT rfl) rfl rfl hl.1 rfl (lv_room (Nat.le_of_ble_eq_true rfl)) d_T_wrongAt_64 ⟨Nat.le_of_ble_eq_true rfl, Nat.le_of_ble_eq_true rfl⟩) (fun r64 F64 H locs q64 hw => ?_)
              obtain ⟨er64, eF64⟩ := q64
              rw [eF64] at hw
              clear eF64
              subst er64
              refine wz_if_ne (tgt := 74) hx hb d_T_wrongAt_67 (by decide) (by split <;> omega) (by split <;> omega) (fun c67 => ?_) (fun c67 => ?_)
              · have hazf := ite_nz.mp c67
                refine wz_iconst (n := 0) hx hb d_T_wrongAt_74 ?_
                refine lv_istore (lv' := [(4, .int (iI (0))), (3, .int (iI ((e0 : Int)))), (2, .int (iI ((b0 : Int)))), (1, .int (iI ((a0 : Int)))), (0, .ref (ad (96)))]) hx hb d_T_wrongAt_75 hl (by decide) rfl (fun ls hl => ?_)
                refine lv_iload hx hb d_T_wrongAt_77 (lv_at hl 0 rfl) ?_
                refine wz_if_eq (tgt := 86) hx hb d_T_wrongAt_79 (by decide) (by omega) (by omega) (fun c79 => ?_) (fun c79 => ?_)
                · refine lv_iload_n hx hb d_T_wrongAt_86 rfl (lv_at hl 1 rfl) ?_
                  rw [← hQ]
                  exact pw_iret hx hb hr hlocks hw (⟨by rw [hwt, if_neg (by omega), if_neg (by omega), if_neg (fun h9 => by rw [h9.2] at hazf; exact absurd hazf (by decide))], rfl⟩) d_T_wrongAt_87
                · exact absurd c79 (by omega)
              · have hazf := ite_z.mp c67
                refine wz_iconst (n := 1) hx hb d_T_wrongAt_70 ?_
                refine lv_goto (tgt := 75) hx hb d_T_wrongAt_71 (by decide) ?_
                refine lv_istore (lv' := [(4, .int (iI (1))), (3, .int (iI ((e0 : Int)))), (2, .int (iI ((b0 : Int)))), (1, .int (iI ((a0 : Int)))), (0, .ref (ad (96)))]) hx hb d_T_wrongAt_75 hl (by decide) rfl (fun ls hl => ?_)
                refine lv_iload hx hb d_T_wrongAt_77 (lv_at hl 0 rfl) ?_
                refine wz_if_eq (tgt := 86) hx hb d_T_wrongAt_79 (by decide) (by omega) (by omega) (fun c79 => ?_) (fun c79 => ?_)
                · exact absurd c79 (by omega)
                · refine wz_iconst (n := -1) hx hb d_T_wrongAt_82 ?_
                  refine lv_goto (tgt := 87) hx hb d_T_wrongAt_83 (by decide) ?_
                  rw [← hQ]
                  exact pw_iret hx hb hr hlocks hw (⟨by rw [hwt, if_neg (by omega), if_neg (by omega), if_pos ⟨by omega, by simpa using hazf⟩], rfl⟩) d_T_wrongAt_87
          · have hb47 : ¬ (b0 < n ∧ tx b0 = 47) := fun h9 => by
              rw [tat_n h9.1] at c38
              omega
            refine lv_iload_n hx hb d_T_wrongAt_41 rfl (lv_at hl 0 rfl) ?_
            rw [← hQ]
            exact pw_iret hx hb hr hlocks hw (⟨by rw [hwt, if_neg (by omega), if_pos (Or.inr hb47)], rfl⟩) d_T_wrongAt_42
      · refine wz_iconst (n := -1) hx hb d_T_wrongAt_24 ?_
        rw [← hQ]
        exact pw_iret hx hb hr hlocks hw (⟨by rw [hwt, if_pos (by omega)], rfl⟩) d_T_wrongAt_25
  rw [hH, hlo] at hgo
  exact hgo
