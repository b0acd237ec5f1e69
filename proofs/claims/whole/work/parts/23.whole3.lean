/-! Whole: shiftedLimb, word, becomeLong, become: by program -/
set_option maxHeartbeats 4000000 in
set_option maxRecDepth 100000 in
/-- Whole.shiftedLimb(i, shift) -/
theorem c_W_shiftedLimb (l : Launch) (D : va_G) (ty : Nat → ClassId) (ad : Nat → Nat) (M : Nat) (F : Nat → va_E) (sz : Nat) (w N n : Nat) (g : Nat → Int32) (i : Int) (s0 : Nat) (hM : w + 1 < M) (hN : N < 1000) (hn : n ≤ N) (hd : ∀ i, i < n → dl g i < 2147483648) (hi : -5 < i ∧ i < 5000) (hs : s0 ≤ 30) (hO_w : F (w) = .inr (0, [.ref (ad (w + 1)), .int (iI ((n : Int)))])) (hA_w : F (w + 1) = .inl (ty 0, N, .inl (g))) :
    CJ l y_W_shiftedLimb w_W_shiftedLimb ({ frames := 1, cells := 0, slots := 0, locals := 21 } : Room) [.ref (ad (w)), .int (iI (i)), .int (iI ((s0 : Int)))] D ty ad M F sz (fun r F1 => r = iL (((lmz g n i * 2 ^ s0 + lmz g n (i - 1) / 2 ^ (31 - s0)) % 2147483648 : Nat) : Int) ∧ F1 = F) := by
  refine Met.ofW (cc := b_W_shiftedLimb) (maxL := 5) (ret := (some .long)) (by decide) rfl ?_
  intro p e s m args below meth c s₁ B hml hv
  obtain ⟨rfl, hsz, hP, hK, hD0⟩ := hv
  have hx := B.exec
  have hb := B.bytes
  have hr := B.returns
  have hts := atoms_spec (ws := w_W_shiftedLimb) B.pre
  have hq : ∀ w ∈ wT, w.before _ s = true := fun w h => hts w (List.mem_cons_of_mem _ h)
  have hown : s.vm.findClass R_W = some m.cls := findClass_of_methodNamed B.named
  have hlocks := B.notSynchronized
  subst hsz
  have hw := pw_start hP hK hD0
  have hl := lv_entry ([.ref (ad (w)), .int (iI (i)), .int (iI ((s0 : Int)))]) (n := 5) (Nat.le_of_ble_eq_true rfl)
  rw [lg_entry_eq]
  generalize (lg_sl ([.ref (ad (w)), .int (iI (i)), .int (iI ((s0 : Int)))]) ++ List.replicate (5 - (lg_sl ([.ref (ad (w)), .int (iI (i)), .int (iI ((s0 : Int)))])).length) Slot.unset).toArray = ls at hl ⊢
  have hl : lv_has ls 5 [(0, .ref (ad (w))), (1, .int (iI (i))), (2, .int (iI ((s0 : Int))))] := hl
  change W p l e ({ frames := 1, cells := 0, slots := 0, locals := 21 } : Room) s m ([.ref (ad (w)), .int (iI (i)), .int (iI ((s0 : Int)))]).toArray below meth c s.heap [] 0 0 (MQ below (va_Ql (fun r F1 => r = iL (((lmz g n i * 2 ^ s0 + lmz g n (i - 1) / 2 ^ (31 - s0)) % 2147483648 : Nat) : Int) ∧ F1 = F) (pAt D classes (tysL ty) ad M (pA ad M s.heap.size)) (pA ad M s.heap.size)) ([.ref (ad (w)), .int (iI (i)), .int (iI ((s0 : Int)))]).toArray s 0 0 (pA ad M s.heap.size)) (F0 m 0 ls [])
  generalize hQ : MQ below (va_Ql (fun r F1 => r = iL (((lmz g n i * 2 ^ s0 + lmz g n (i - 1) / 2 ^ (31 - s0)) % 2147483648 : Nat) : Int) ∧ F1 = F) (pAt D classes (tysL ty) ad M (pA ad M s.heap.size)) (pA ad M s.heap.size)) ([.ref (ad (w)), .int (iI (i)), .int (iI ((s0 : Int)))]).toArray s 0 0 (pA ad M s.heap.size) = Q
  obtain ⟨H, hH⟩ : ∃ H, H = s.heap := ⟨_, rfl⟩
  obtain ⟨locs, hlo⟩ : ∃ z : List Loc, z = [] := ⟨_, rfl⟩
  have hw : pw D classes (tysL ty) ad M F (pA ad M s.heap.size) s H locs := by rw [hH, hlo]; exact hw
  have hgo : W p l e ({ frames := 1, cells := 0, slots := 0, locals := 21 } : Room) s m ([.ref (ad (w)), .int (iI (i)), .int (iI ((s0 : Int)))]).toArray below meth c H locs 0 0 Q (F0 m 0 ls []) := by
    have hb1 := lmz_lt hd i
    have hb2 := lmz_lt hd (i - 1)
    have hb3 : lmz g n (i - 1) / 2 ^ (31 - s0) ≤ lmz g n (i - 1) := Nat.div_le_self _ _
    have hb4 : lmz g n (i - 1) / 2 ^ (31 - s0) < 2 ^ s0 := Nat.div_lt_of_lt_mul (by rw [← Nat.pow_add, show 31 - s0 + s0 = 31 by omega]; exact hb2)
    have hb5 : lmz g n i * 2 ^ s0 ≤ 2147483648 * 2 ^ 30 := Nat.mul_le_mul (by omega) (Nat.pow_le_pow_right (by decide) hs)
    refine lv_aload_n hx hb d_W_shiftedLimb_0 rfl (lv_at hl 0 rfl) ?_
    refine lv_iload_n hx hb d_W_shiftedLimb_1 rfl (lv_at hl 1 rfl) ?_
    refine pw_calli hw (va_runV (As := [.int (iI (i))]) (rest := []) ⟨hx, hb, hml, hown, hq⟩ (c_W_limb l D ty ad M F H.size w N n g i hM hN hn hd (by omega) hO_w hA_w) (cwV 1 hq (gV ml_W_38 im_W_limb se_W_limb in_W m_W_limb) rfl rfl rfl (by decide +kernel) ⟨Nat.le_of_ble_eq_true rfl, Nat.le_of_ble_eq_true rfl⟩) (pw_preV hw (by omega) hO_w rfl) rfl rfl hl.1 rfl (lv_room (Nat.le_of_ble_eq_true rfl)) d_W_shiftedLimb_2 ⟨Nat.le_of_ble_eq_true rfl, Nat.le_of_ble_eq_true rfl⟩) (fun r2 F2 H locs q2 hw => ?_)
    obtain ⟨er2, eF2⟩ := q2
    rw [eF2] at hw
    clear eF2
    subst er2
    refine wz_i2l hx hb d_W_shiftedLimb_5 (by omega) (by omega) ?_
    refine lv_iload_n hx hb d_W_shiftedLimb_6 rfl (lv_at hl 2 rfl) ?_
    refine lv_lshl (v := iL (((lmz g n i * 2 ^ s0 : Nat) : Int))) hx hb d_W_shiftedLimb_7 (iL_shl (k := s0) (by omega)) ?_
    refine lv_aload_n hx hb d_W_shiftedLimb_8 rfl (lv_at hl 0 rfl) ?_
    refine lv_iload_n hx hb d_W_shiftedLimb_9 rfl (lv_at hl 1 rfl) ?_
    refine wz_iconst (n := 1) hx hb d_W_shiftedLimb_10 ?_
    refine wz_isub hx hb d_W_shiftedLimb_11 rfl ?_
    refine pw_calli hw (va_runV (As := [.int (iI (i - 1))]) (rest := [.long (iL (((lmz g n i * 2 ^ s0 : Nat) : Int)))]) ⟨hx, hb, hml, hown, hq⟩ (c_W_limb l D ty ad M F H.size w N n g (i - 1) hM hN hn hd (by omega) hO_w hA_w) (cwV 1 hq (gV ml_W_38 im_W_limb se_W_limb in_W m_W_limb) rfl rfl rfl (by decide +kernel) ⟨Nat.le_of_ble_eq_true rfl, Nat.le_of_ble_eq_true rfl⟩) (pw_preV hw (by omega) hO_w rfl) rfl rfl hl.1 rfl (lv_room (Nat.le_of_ble_eq_true rfl)) d_W_shiftedLimb_12 ⟨Nat.le_of_ble_eq_true rfl, Nat.le_of_ble_eq_true rfl⟩) (fun r12 F12 H locs q12 hw => ?_)
    obtain ⟨er12, eF12⟩ := q12
    rw [eF12] at hw
    clear eF12
    subst er12
    refine wz_bipush (n := 31) hx hb d_W_shiftedLimb_15 (by decide) ?_
    refine lv_iload_n hx hb d_W_shiftedLimb_17 rfl (lv_at hl 2 rfl) ?_
    refine wz_isub (z := ((31 - s0 : Nat) : Int)) hx hb d_W_shiftedLimb_18 (by omega) ?_
    refine lv_iushr (v := iI (((lmz g n (i - 1) / 2 ^ (31 - s0) : Nat) : Int))) hx hb d_W_shiftedLimb_19 (iI_ushr (k := 31 - s0) (by omega) (by omega)) ?_
    refine wz_i2l hx hb d_W_shiftedLimb_20 (Int.le_trans (by decide) (Int.natCast_nonneg _)) (by omega) ?_
    refine lv_lor hx hb d_W_shiftedLimb_21 ?_
    refine lv_topl (fun x21 ex21 => ?_)
    obtain rfl : x21 = iL (((lmz g n i * 2 ^ s0 + lmz g n (i - 1) / 2 ^ (31 - s0) : Nat) : Int)) := ex21.trans (iL_or (k := s0) hb4 (by omega))
    refine lv_lstore_n (lv' := [(3, .long (iL (((lmz g n i * 2 ^ s0 + lmz g n (i - 1) / 2 ^ (31 - s0) : Nat) : Int)))), (0, .ref (ad (w))), (1, .int (iI (i))), (2, .int (iI ((s0 : Int))))]) hx hb d_W_shiftedLimb_22 rfl hl (by decide) rfl (fun ls hl => ?_)
    refine lv_lload_n hx hb d_W_shiftedLimb_23 rfl (lv_at hl 0 rfl) ?_
    refine lv_ldc2 (v := iL (2147483647)) hx hb hown (hq _ cj_W_43) d_W_shiftedLimb_24 ?_
    refine lv_land hx hb d_W_shiftedLimb_27 ?_
    refine lv_topl (fun x27 ex27 => ?_)
    obtain rfl : x27 = iL ((((lmz g n i * 2 ^ s0 + lmz g n (i - 1) / 2 ^ (31 - s0)) % 2147483648 : Nat) : Int)) := ex27.trans (iL_m31 _)
    rw [← hQ]
    exact pw_lret hx hb hr hlocks hw (⟨rfl, rfl⟩) d_W_shiftedLimb_28
  rw [hH, hlo] at hgo
  exact hgo
set_option maxHeartbeats 4000000 in
set_option maxRecDepth 100000 in
/-- Whole.word(k) -/
theorem c_W_word (l : Launch) (D : va_G) (ty : Nat → ClassId) (ad : Nat → Nat) (M : Nat) (F : Nat → va_E) (sz : Nat) (w N v : Nat) (k : Int) (hM : w + 1 < M) (hN : N < 1000) (h : Wv ty ad F w N v) (hk : -2147483648 ≤ k ∧ k < 2147483648) :
    CJ l y_W_word w_W_word ({ frames := 1, cells := 0, slots := 0, locals := 21 } : Room) [.ref (ad (w)), .int (iI (k))] D ty ad M F sz (fun r F1 => r = iL ((if 0 ≤ k then v / 2 ^ (32 * k.toNat) % 4294967296 else 0 : Nat) : Int) ∧ F1 = F) := by
  refine Met.ofW (cc := b_W_word) (maxL := 8) (ret := (some .long)) (by decide) rfl ?_
  intro p e s m args below meth c s₁ B hml hv
  obtain ⟨rfl, hsz, hP, hK, hD0⟩ := hv
  have hx := B.exec
  have hb := B.bytes
  have hr := B.returns
  have hts := atoms_spec (ws := w_W_word) B.pre
  have hq : ∀ w ∈ wT, w.before _ s = true := fun w h => hts w (List.mem_cons_of_mem _ h)
  have hown : s.vm.findClass R_W = some m.cls := findClass_of_methodNamed B.named
  have hlocks := B.notSynchronized
  subst hsz
  have hw := pw_start hP hK hD0
  have hl := lv_entry ([.ref (ad (w)), .int (iI (k))]) (n := 8) (Nat.le_of_ble_eq_true rfl)
  rw [lg_entry_eq]
  generalize (lg_sl ([.ref (ad (w)), .int (iI (k))]) ++ List.replicate (8 - (lg_sl ([.ref (ad (w)), .int (iI (k))])).length) Slot.unset).toArray = ls at hl ⊢
  have hl : lv_has ls 8 [(0, .ref (ad (w))), (1, .int (iI (k)))] := hl
  change W p l e ({ frames := 1, cells := 0, slots := 0, locals := 21 } : Room) s m ([.ref (ad (w)), .int (iI (k))]).toArray below meth c s.heap [] 0 0 (MQ below (va_Ql (fun r F1 => r = iL ((if 0 ≤ k then v / 2 ^ (32 * k.toNat) % 4294967296 else 0 : Nat) : Int) ∧ F1 = F) (pAt D classes (tysL ty) ad M (pA ad M s.heap.size)) (pA ad M s.heap.size)) ([.ref (ad (w)), .int (iI (k))]).toArray s 0 0 (pA ad M s.heap.size)) (F0 m 0 ls [])
  generalize hQ : MQ below (va_Ql (fun r F1 => r = iL ((if 0 ≤ k then v / 2 ^ (32 * k.toNat) % 4294967296 else 0 : Nat) : Int) ∧ F1 = F) (pAt D classes (tysL ty) ad M (pA ad M s.heap.size)) (pA ad M s.heap.size)) ([.ref (ad (w)), .int (iI (k))]).toArray s 0 0 (pA ad M s.heap.size) = Q
  obtain ⟨H, hH⟩ : ∃ H, H = s.heap := ⟨_, rfl⟩
  obtain ⟨locs, hlo⟩ : ∃ z : List Loc, z = [] := ⟨_, rfl⟩
  have hw : pw D classes (tysL ty) ad M F (pA ad M s.heap.size) s H locs := by rw [hH, hlo]; exact hw
  have hgo : W p l e ({ frames := 1, cells := 0, slots := 0, locals := 21 } : Room) s m ([.ref (ad (w)), .int (iI (k))]).toArray below meth c H locs 0 0 Q (F0 m 0 ls []) := by
    obtain ⟨n, g, ⟨hO_w, hA_w⟩, hok⟩ := h
    have hn := hok.1
    have hd := hok.2.1
    refine lv_iload_n hx hb d_W_word_0 rfl (lv_at hl 1 rfl) ?_
    refine wz_if_lt (tgt := 12) hx hb d_W_word_1 (by decide) (by omega) (by omega) (fun c1 => ?_) (fun c1 => ?_)
    · refine lv_lconst (v := iL 0) hx hb d_W_word_12 (by decide) ?_
      rw [← hQ]
      exact pw_lret hx hb hr hlocks hw (⟨by rw [if_neg (by omega)]; rfl, rfl⟩) d_W_word_13
    · refine lv_iload_n hx hb d_W_word_4 rfl (lv_at hl 1 rfl) ?_
      refine lv_aload_n hx hb d_W_word_5 rfl (lv_at hl 0 rfl) ?_
      refine pw_get (ci := 0) (C := R_W) (T := T_W) (N := 2) hx hb hq i_W hown hw (by omega) hO_w rfl 1 (by decide) (hq _ fl_W_21) (fun _ h9 => h9) rfl d_W_word_6 ?_
      refine wz_icmp_lt (tgt := 14) hx hb d_W_word_9 (by decide) (by omega) (by omega) (by omega) (by omega) (fun c9 => ?_) (fun c9 => ?_)
      · refine lv_iload_n hx hb d_W_word_14 rfl (lv_at hl 1 rfl) ?_
        refine wz_bipush (n := 32) hx hb d_W_word_15 (by decide) ?_
        refine wz_imul (z := ((k.toNat * 32 : Nat) : Int)) hx hb d_W_word_17 (by omega) ?_
        refine wz_bipush (n := 31) hx hb d_W_word_18 (by decide) ?_
        refine wz_idiv (a := k.toNat * 32) (b := 31) (z := k.toNat * 32 / 31) hx hb d_W_word_20 (by omega) (by omega) (by omega) (rfl) ?_
        refine lv_istore_n (lv' := [(2, .int (iI (((k.toNat * 32 / 31 : Nat) : Int)))), (0, .ref (ad (w))), (1, .int (iI (k)))]) hx hb d_W_word_21 rfl hl (by decide) rfl (fun ls hl => ?_)
        refine lv_iload_n hx hb d_W_word_22 rfl (lv_at hl 2 rfl) ?_
        refine wz_bipush (n := 32) hx hb d_W_word_23 (by decide) ?_
        refine wz_imul (z := ((k.toNat * 32 : Nat) : Int)) hx hb d_W_word_25 (by omega) ?_
        refine wz_bipush (n := 31) hx hb d_W_word_26 (by decide) ?_
        refine wz_irem (a := k.toNat * 32) (b := 31) (z := k.toNat * 32 % 31) hx hb d_W_word_28 (by omega) (by omega) (by omega) (rfl) ?_
        have hk2 : k.toNat < n := by omega
        obtain ⟨i0, hi0⟩ : ∃ z, z = k.toNat * 32 / 31 := ⟨_, rfl⟩
        obtain ⟨o0, ho0⟩ : ∃ z, z = k.toNat * 32 % 31 := ⟨_, rfl⟩
        have hb1 := lmz_lt hd ((k.toNat * 32 / 31 : Nat) : Int)
        have hb2 := lmz_lt hd (((k.toNat * 32 / 31 : Nat) : Int) + 1)
        have ho : k.toNat * 32 % 31 ≤ 30 := by omega
        refine lv_istore_n (lv' := [(3, .int (iI (((k.toNat * 32 % 31 : Nat) : Int)))), (2, .int (iI (((k.toNat * 32 / 31 : Nat) : Int)))), (0, .ref (ad (w))), (1, .int (iI (k)))]) hx hb d_W_word_29 rfl hl (by decide) rfl (fun ls hl => ?_)
        refine lv_aload_n hx hb d_W_word_30 rfl (lv_at hl 2 rfl) ?_
        refine lv_iload_n hx hb d_W_word_31 rfl (lv_at hl 1 rfl) ?_
        refine pw_calli hw (va_runV (As := [.int (iI (((k.toNat * 32 / 31 : Nat) : Int)))]) (rest := []) ⟨hx, hb, hml, hown, hq⟩ (c_W_limb l D ty ad M F H.size w N n g ((k.toNat * 32 / 31 : Nat) : Int) hM hN hn hd (by omega) hO_w hA_w) (cwV 1 hq (gV ml_W_38 im_W_limb se_W_limb in_W m_W_limb) rfl rfl rfl (by decide +kernel) ⟨Nat.le_of_ble_eq_true rfl, Nat.le_of_ble_eq_true rfl⟩) (pw_preV hw (by omega) hO_w rfl) rfl rfl hl.1 rfl (lv_room (Nat.le_of_ble_eq_true rfl)) d_W_word_32 ⟨Nat.le_of_ble_eq_true rfl, Nat.le_of_ble_eq_true rfl⟩) (fun r32 F32 H locs q32 hw => ?_)
        obtain ⟨er32, eF32⟩ := q32
        rw [eF32] at hw
        clear eF32
        subst er32
        refine lv_iload_n hx hb d_W_word_35 rfl (lv_at hl 0 rfl) ?_
        refine lv_iushr (v := iI (((lmz g n ((k.toNat * 32 / 31 : Nat) : Int) / 2 ^ (k.toNat * 32 % 31) : Nat) : Int))) hx hb d_W_word_36 (iI_ushr (k := k.toNat * 32 % 31) (by omega) (by omega)) ?_
        have hb3 : lmz g n ((k.toNat * 32 / 31 : Nat) : Int) / 2 ^ (k.toNat * 32 % 31) ≤ lmz g n ((k.toNat * 32 / 31 : Nat) : Int) := Nat.div_le_self _ _
        refine wz_i2l hx hb d_W_word_37 (Int.le_trans (by decide) (Int.natCast_nonneg _)) (by omega) ?_
        refine lv_lstore (lv' := [(4, .long (iL (((lmz g n ((k.toNat * 32 / 31 : Nat) : Int) / 2 ^ (k.toNat * 32 % 31) : Nat) : Int)))), (3, .int (iI (((k.toNat * 32 % 31 : Nat) : Int)))), (2, .int (iI (((k.toNat * 32 / 31 : Nat) : Int)))), (0, .ref (ad (w))), (1, .int (iI (k)))]) hx hb d_W_word_38 hl (by decide) rfl (fun ls hl => ?_)
        refine lv_aload_n hx hb d_W_word_40 rfl (lv_at hl 3 rfl) ?_
        refine lv_iload_n hx hb d_W_word_41 rfl (lv_at hl 2 rfl) ?_
        refine wz_iconst (n := 1) hx hb d_W_word_42 ?_
        refine wz_iadd hx hb d_W_word_43 rfl ?_
        refine pw_calli hw (va_runV (As := [.int (iI (((k.toNat * 32 / 31 : Nat) : Int) + 1))]) (rest := []) ⟨hx, hb, hml, hown, hq⟩ (c_W_limb l D ty ad M F H.size w N n g (((k.toNat * 32 / 31 : Nat) : Int) + 1) hM hN hn hd (by omega) hO_w hA_w) (cwV 1 hq (gV ml_W_38 im_W_limb se_W_limb in_W m_W_limb) rfl rfl rfl (by decide +kernel) ⟨Nat.le_of_ble_eq_true rfl, Nat.le_of_ble_eq_true rfl⟩) (pw_preV hw (by omega) hO_w rfl) rfl rfl hl.1 rfl (lv_room (Nat.le_of_ble_eq_true rfl)) d_W_word_44 ⟨Nat.le_of_ble_eq_true rfl, Nat.le_of_ble_eq_true rfl⟩) (fun r44 F44 H locs q44 hw => ?_)
        obtain ⟨er44, eF44⟩ := q44
        rw [eF44] at hw
        clear eF44
        subst er44
        refine wz_i2l hx hb d_W_word_47 (by omega) (by omega) ?_
        refine wz_bipush (n := 31) hx hb d_W_word_48 (by decide) ?_
        refine lv_iload_n hx hb d_W_word_50 rfl (lv_at hl 1 rfl) ?_
        refine wz_isub (z := ((31 - k.toNat * 32 % 31 : Nat) : Int)) hx hb d_W_word_51 (by omega) ?_
        refine lv_lshl (v := iL (((lmz g n (((k.toNat * 32 / 31 : Nat) : Int) + 1) * 2 ^ (31 - k.toNat * 32 % 31) : Nat) : Int))) hx hb d_W_word_52 (iL_shl (k := 31 - k.toNat * 32 % 31) (by omega)) ?_
        refine lv_lstore (lv' := [(6, .long (iL (((lmz g n (((k.toNat * 32 / 31 : Nat) : Int) + 1) * 2 ^ (31 - k.toNat * 32 % 31) : Nat) : Int)))), (4, .long (iL (((lmz g n ((k.toNat * 32 / 31 : Nat) : Int) / 2 ^ (k.toNat * 32 % 31) : Nat) : Int)))), (3, .int (iI (((k.toNat * 32 % 31 : Nat) : Int)))), (2, .int (iI (((k.toNat * 32 / 31 : Nat) : Int)))), (0, .ref (ad (w))), (1, .int (iI (k)))]) hx hb d_W_word_53 hl (by decide) rfl (fun ls hl => ?_)
        refine lv_lload hx hb d_W_word_55 (lv_at hl 1 rfl) ?_
        refine lv_lload hx hb d_W_word_57 (lv_at hl 0 rfl) ?_
        have hb4 : lmz g n ((k.toNat * 32 / 31 : Nat) : Int) / 2 ^ (k.toNat * 32 % 31) < 2 ^ (31 - k.toNat * 32 % 31) := Nat.div_lt_of_lt_mul (by rw [← Nat.pow_add, show k.toNat * 32 % 31 + (31 - k.toNat * 32 % 31) = 31 by omega]; exact hb1)
        have hb5 : lmz g n (((k.toNat * 32 / 31 : Nat) : Int) + 1) * 2 ^ (31 - k.toNat * 32 % 31) ≤ 2147483648 * 2 ^ 31 := Nat.mul_le_mul (by omega) (Nat.pow_le_pow_right (by decide) (by omega))
        refine lv_lor hx hb d_W_word_59 ?_
        refine lv_topl (fun x59 ex59 => ?_)
        obtain rfl : x59 = iL (((lmz g n (((k.toNat * 32 / 31 : Nat) : Int) + 1) * 2 ^ (31 - k.toNat * 32 % 31) + lmz g n ((k.toNat * 32 / 31 : Nat) : Int) / 2 ^ (k.toNat * 32 % 31) : Nat) : Int)) := ex59.trans ((Int64.or_comm _ _).trans (iL_or (k := 31 - k.toNat * 32 % 31) hb4 (by omega)))
        refine lv_ldc2 (v := iL (4294967295)) hx hb hown (hq _ cj_W_41) d_W_word_60 ?_
        refine lv_land hx hb d_W_word_63 ?_
        refine lv_topl (fun x63 ex63 => ?_)
        obtain rfl : x63 = iL ((((lmz g n (((k.toNat * 32 / 31 : Nat) : Int) + 1) * 2 ^ (31 - k.toNat * 32 % 31) + lmz g n ((k.toNat * 32 / 31 : Nat) : Int) / 2 ^ (k.toNat * 32 % 31)) % 4294967296 : Nat) : Int)) := ex63.trans (iL_m32 _)
        rw [← hQ]
        exact pw_lret hx hb hr hlocks hw (⟨by rw [if_pos (by omega), word_eq (i := k.toNat * 32 / 31) (o := k.toNat * 32 % 31) ho (by omega), ← lmz_nat hok, ← lmz_nat hok]; rfl, rfl⟩) d_W_word_64
      · refine lv_lconst (v := iL 0) hx hb d_W_word_12 (by decide) ?_
        rw [← hQ]
        exact pw_lret hx hb hr hlocks hw (⟨by rw [if_pos (by omega), Nat.div_eq_of_lt (Nat.lt_of_lt_of_le hok.lt (by rw [pow31]; exact Nat.pow_le_pow_right (by decide) (by omega)))]; rfl, rfl⟩) d_W_word_13
  rw [hH, hlo] at hgo
  exact hgo
set_option maxHeartbeats 4000000 in
set_option maxRecDepth 100000 in
/-- Whole.becomeLong(x), without a sign -/
theorem c_W_becomeLong (l : Launch) (D : va_G) (ty : Nat → ClassId) (ad : Nat → Nat) (M : Nat) (F : Nat → va_E) (sz : Nat) (w N x : Nat) (hM : w + 1 < M) (hN : N < 1000) (h3 : 3 ≤ N) (hx64 : x < 18446744073709551616) (h : Wa ty ad F w N) :
    CV l y_W_becomeLong w_W_becomeLong ({ frames := 2, cells := 0, slots := 0, locals := 46 } : Room) [.ref (ad (w)), .long (iL ((x : Int)))] D ty ad M F sz (fun F1 => Wv ty ad F1 w N x ∧ fr2 F F1 w) := by
  refine Met.ofW (cc := b_W_becomeLong) (maxL := 3) (ret := none) (by decide) rfl ?_
  intro p e s m args below meth c s₁ B hml hv
  obtain ⟨rfl, hsz, hP, hK, hD0⟩ := hv
  have hx := B.exec
  have hb := B.bytes
  have hr := B.returns
  have hts := atoms_spec (ws := w_W_becomeLong) B.pre
  have hq : ∀ w ∈ wT, w.before _ s = true := fun w h => hts w (List.mem_cons_of_mem _ h)
  have hown : s.vm.findClass R_W = some m.cls := findClass_of_methodNamed B.named
  have hlocks := B.notSynchronized
  subst hsz
  have hw := pw_start hP hK hD0
  have hl := lv_entry ([.ref (ad (w)), .long (iL ((x : Int)))]) (n := 3) (Nat.le_of_ble_eq_true rfl)
  rw [lg_entry_eq]
  generalize (lg_sl ([.ref (ad (w)), .long (iL ((x : Int)))]) ++ List.replicate (3 - (lg_sl ([.ref (ad (w)), .long (iL ((x : Int)))])).length) Slot.unset).toArray = ls at hl ⊢
  have hl : lv_has ls 3 [(0, .ref (ad (w))), (1, .long (iL ((x : Int))))] := hl
  change W p l e ({ frames := 2, cells := 0, slots := 0, locals := 46 } : Room) s m ([.ref (ad (w)), .long (iL ((x : Int)))]).toArray below meth c s.heap [] 0 0 (MQ below (va_Qv (fun F1 => Wv ty ad F1 w N x ∧ fr2 F F1 w) (pAt D classes (tysL ty) ad M (pA ad M s.heap.size)) (pA ad M s.heap.size)) ([.ref (ad (w)), .long (iL ((x : Int)))]).toArray s 0 0 (pA ad M s.heap.size)) (F0 m 0 ls [])
  generalize hQ : MQ below (va_Qv (fun F1 => Wv ty ad F1 w N x ∧ fr2 F F1 w) (pAt D classes (tysL ty) ad M (pA ad M s.heap.size)) (pA ad M s.heap.size)) ([.ref (ad (w)), .long (iL ((x : Int)))]).toArray s 0 0 (pA ad M s.heap.size) = Q
  obtain ⟨H, hH⟩ : ∃ H, H = s.heap := ⟨_, rfl⟩
  obtain ⟨locs, hlo⟩ : ∃ z : List Loc, z = [] := ⟨_, rfl⟩
  have hw : pw D classes (tysL ty) ad M F (pA ad M s.heap.size) s H locs := by rw [hH, hlo]; exact hw
  have hgo : W p l e ({ frames := 2, cells := 0, slots := 0, locals := 46 } : Room) s m ([.ref (ad (w)), .long (iL ((x : Int)))]).toArray below meth c H locs 0 0 Q (F0 m 0 ls []) := by
    obtain ⟨n, g, hO_w, hA_w⟩ := h
    refine lv_aload_n hx hb d_W_becomeLong_0 rfl (lv_at hl 0 rfl) ?_
    refine pw_get (ci := 0) (C := R_W) (T := T_W) (N := 2) hx hb hq i_W hown hw (by omega) hO_w rfl 0 (by decide) (hq _ fl_W_17) (fun _ h9 => h9) rfl d_W_becomeLong_1 ?_
    refine wz_iconst (n := 0) hx hb d_W_becomeLong_4 ?_
    refine lv_lload_n hx hb d_W_becomeLong_5 rfl (lv_at hl 1 rfl) ?_
    refine lv_ldc2 (v := iL (2147483647)) hx hb hown (hq _ cj_W_43) d_W_becomeLong_6 ?_
    refine lv_land hx hb d_W_becomeLong_9 ?_
    refine lv_topl (fun x9 ex9 => ?_)
    obtain rfl : x9 = iL (((x % 2147483648 : Nat) : Int)) := ex9.trans (iL_m31 _)
    refine wz_l2i hx hb d_W_becomeLong_10 ?_
    refine pw_iast (k := 0) hx hb hw 0 (by omega) hA_w rfl (iI_in (by omega) (by omega) (by omega)) ((iI_cl (by omega) (by omega)).trans (by omega)) d_W_becomeLong_11 (fun F11 H locs eF11 hw => ?_)
    obtain ⟨g1, eg1⟩ : ∃ z, z = upd g (0) (iI (((x % 2147483648 : Nat) : Int))) := ⟨_, rfl⟩
    rw [← eg1] at eF11
    have m11_w1 : F11 (w + 1) = .inl (ty 0, N, .inl (g1)) := by rw [eF11]; exact va_up_self ..
    have hO_w_at_11 : F11 (w) = .inr (0, [.ref (ad (w + 1)), .int (iI ((n : Int)))]) := (show F11 (w) = F (w) from by rw [eF11]; exact va_up_ne _ _ (by omega)).trans hO_w
    refine lv_aload_n hx hb d_W_becomeLong_12 rfl (lv_at hl 0 rfl) ?_
    refine pw_get (ci := 0) (C := R_W) (T := T_W) (N := 2) hx hb hq i_W hown hw (by omega) hO_w_at_11 rfl 0 (by decide) (hq _ fl_W_17) (fun _ h9 => h9) rfl d_W_becomeLong_13 ?_
    refine wz_iconst (n := 1) hx hb d_W_becomeLong_16 ?_
    refine lv_lload_n hx hb d_W_becomeLong_17 rfl (lv_at hl 1 rfl) ?_
    refine wz_bipush (n := 31) hx hb d_W_becomeLong_18 (by decide) ?_
    refine lv_lushr (v := iL (((x / 2 ^ 31 : Nat) : Int))) hx hb d_W_becomeLong_20 (iL_ushr (k := 31) (by decide) hx64) ?_
    refine lv_ldc2 (v := iL (2147483647)) hx hb hown (hq _ cj_W_43) d_W_becomeLong_21 ?_
    refine lv_land hx hb d_W_becomeLong_24 ?_
    refine lv_topl (fun x24 ex24 => ?_)
    obtain rfl : x24 = iL (((x / 2 ^ 31 % 2147483648 : Nat) : Int)) := ex24.trans (iL_m31 _)
    refine wz_l2i hx hb d_W_becomeLong_25 ?_
    refine pw_iast (k := 1) hx hb hw 0 (by omega) m11_w1 rfl (iI_in (by omega) (by omega) (by omega)) ((iI_cl (by omega) (by omega)).trans (by omega)) d_W_becomeLong_26 (fun F26 H locs eF26 hw => ?_)
    obtain ⟨g2, eg2⟩ : ∃ z, z = upd g1 (1) (iI (((x / 2 ^ 31 % 2147483648 : Nat) : Int))) := ⟨_, rfl⟩
    rw [← eg2] at eF26
    have m26_w1 : F26 (w + 1) = .inl (ty 0, N, .inl (g2)) := by rw [eF26]; exact va_up_self ..
    have hO_w_at_26 : F26 (w) = .inr (0, [.ref (ad (w + 1)), .int (iI ((n : Int)))]) := (show F26 (w) = F11 (w) from by rw [eF26]; exact va_up_ne _ _ (by omega)).trans hO_w_at_11
    refine lv_aload_n hx hb d_W_becomeLong_27 rfl (lv_at hl 0 rfl) ?_
    refine pw_get (ci := 0) (C := R_W) (T := T_W) (N := 2) hx hb hq i_W hown hw (by omega) hO_w_at_26 rfl 0 (by decide) (hq _ fl_W_17) (fun _ h9 => h9) rfl d_W_becomeLong_28 ?_
    refine wz_iconst (n := 2) hx hb d_W_becomeLong_31 ?_
    refine lv_lload_n hx hb d_W_becomeLong_32 rfl (lv_at hl 1 rfl) ?_
    refine wz_bipush (n := 62) hx hb d_W_becomeLong_33 (by decide) ?_
    refine lv_lushr (v := iL (((x / 2 ^ 62 : Nat) : Int))) hx hb d_W_becomeLong_35 (iL_ushr (k := 62) (by decide) hx64) ?_
    refine wz_l2i hx hb d_W_becomeLong_36 ?_
    refine pw_iast (k := 2) hx hb hw 0 (by omega) m26_w1 rfl (iI_in (by omega) (by omega) (by omega)) ((iI_cl (by omega) (by omega)).trans (by omega)) d_W_becomeLong_37 (fun F37 H locs eF37 hw => ?_)
    obtain ⟨g3, eg3⟩ : ∃ z, z = upd g2 (2) (iI (((x / 2 ^ 62 : Nat) : Int))) := ⟨_, rfl⟩
    rw [← eg3] at eF37
    have m37_w1 : F37 (w + 1) = .inl (ty 0, N, .inl (g3)) := by rw [eF37]; exact va_up_self ..
    have hO_w_at_37 : F37 (w) = .inr (0, [.ref (ad (w + 1)), .int (iI ((n : Int)))]) := (show F37 (w) = F26 (w) from by rw [eF37]; exact va_up_ne _ _ (by omega)).trans hO_w_at_26
    refine lv_aload_n hx hb d_W_becomeLong_38 rfl (lv_at hl 0 rfl) ?_
    refine wz_iconst (n := 3) hx hb d_W_becomeLong_39 ?_
    refine pw_callv hw (va_runV (As := [.int (iI (3))]) (rest := []) ⟨hx, hb, hml, hown, hq⟩ (c_W_trim l D ty ad M F37 H.size w N 3 n g3 hM hN h3 hO_w_at_37 m37_w1) (cwV 1 hq (gV ml_W_48 im_W_trim se_W_trim in_W m_W_trim) rfl rfl rfl (by decide +kernel) ⟨Nat.le_of_ble_eq_true rfl, Nat.le_of_ble_eq_true rfl⟩) (pw_preV hw (by omega) hO_w_at_37 rfl) rfl rfl hl.1 rfl (lv_room (Nat.le_of_ble_eq_true rfl)) d_W_becomeLong_40 ⟨Nat.le_of_ble_eq_true rfl, Nat.le_of_ble_eq_true rfl⟩) (fun F40 H locs q40 hw => ?_)
    obtain ⟨k, hk1, hk2, hk3, eF40⟩ := q40
    obtain ⟨d1, d2⟩ := dl3 (by omega) (by omega) (by omega) eg1 eg2 eg3
    have m37_w1_at_40 : F40 (w + 1) = .inl (ty 0, N, .inl (g3)) := (show F40 (w + 1) = F37 (w + 1) from by rw [eF40]; exact va_up_ne _ _ (by omega)).trans m37_w1
    rw [← hQ]
    exact pw_vret hx hb hr hlocks hw (⟨⟨k, g3, ⟨by rw [eF40]; exact va_up_self .., m37_w1_at_40⟩, by rw [show x = bv 2147483648 (dl g3) 3 by rw [d2]; omega]; exact Wok.trim h3 hk1 d1 hk2 hk3⟩, fun y h1 h2 => by rw [eF40, va_up_ne _ _ h1, eF37, va_up_ne _ _ h2, eF26, va_up_ne _ _ h2, eF11, va_up_ne _ _ h2]⟩) d_W_becomeLong_43
  rw [hH, hlo] at hgo
  exact hgo
set_option maxHeartbeats 4000000 in
set_option maxRecDepth 100000 in
/-- Whole.become(other) -/
theorem c_W_become (l : Launch) (D : va_G) (ty : Nat → ClassId) (ad : Nat → Nat) (M : Nat) (F : Nat → va_E) (sz : Nat) (w a N Na v : Nat) (hM : w + 1 < M) (hMa : a + 1 < M) (hN : N < 1000) (hNa : Na < 1000) (hne : a ≠ w ∧ a ≠ w + 1 ∧ a + 1 ≠ w) (hfit : v < 2147483648 ^ N) (h : Wa ty ad F w N) (ha : Wv ty ad F a Na v) :
    CV l y_W_become w_W_become ({ frames := 2, cells := 0, slots := 0, locals := 60 } : Room) [.ref (ad (w)), .ref (ad (a))] D ty ad M F sz (fun F1 => Wv ty ad F1 w N v ∧ fr2 F F1 w) := by
  refine Met.ofW (cc := b_W_become) (maxL := 3) (ret := none) (by decide) rfl ?_
  intro p e s m args below meth c s₁ B hml hv
  obtain ⟨rfl, hsz, hP, hK, hD0⟩ := hv
  have hx := B.exec
  have hb := B.bytes
  have hr := B.returns
  have hts := atoms_spec (ws := w_W_become) B.pre
  have hq : ∀ w ∈ wT, w.before _ s = true := fun w h => hts w (List.mem_cons_of_mem _ h)
  have hown : s.vm.findClass R_W = some m.cls := findClass_of_methodNamed B.named
  have hlocks := B.notSynchronized
  subst hsz
  have hw := pw_start hP hK hD0
  have hl := lv_entry ([.ref (ad (w)), .ref (ad (a))]) (n := 3) (Nat.le_of_ble_eq_true rfl)
  rw [lg_entry_eq]
  generalize (lg_sl ([.ref (ad (w)), .ref (ad (a))]) ++ List.replicate (3 - (lg_sl ([.ref (ad (w)), .ref (ad (a))])).length) Slot.unset).toArray = ls at hl ⊢
  have hl : lv_has ls 3 [(0, .ref (ad (w))), (1, .ref (ad (a)))] := hl
  change W p l e ({ frames := 2, cells := 0, slots := 0, locals := 60 } : Room) s m ([.ref (ad (w)), .ref (ad (a))]).toArray below meth c s.heap [] 0 0 (MQ below (va_Qv (fun F1 => Wv ty ad F1 w N v ∧ fr2 F F1 w) (pAt D classes (tysL ty) ad M (pA ad M s.heap.size)) (pA ad M s.heap.size)) ([.ref (ad (w)), .ref (ad (a))]).toArray s 0 0 (pA ad M s.heap.size)) (F0 m 0 ls [])
  generalize hQ : MQ below (va_Qv (fun F1 => Wv ty ad F1 w N v ∧ fr2 F F1 w) (pAt D classes (tysL ty) ad M (pA ad M s.heap.size)) (pA ad M s.heap.size)) ([.ref (ad (w)), .ref (ad (a))]).toArray s 0 0 (pA ad M s.heap.size) = Q
  obtain ⟨H, hH⟩ : ∃ H, H = s.heap := ⟨_, rfl⟩
  obtain ⟨locs, hlo⟩ : ∃ z : List Loc, z = [] := ⟨_, rfl⟩
  have hw : pw D classes (tysL ty) ad M F (pA ad M s.heap.size) s H locs := by rw [hH, hlo]; exact hw
  have hgo : W p l e ({ frames := 2, cells := 0, slots := 0, locals := 60 } : Room) s m ([.ref (ad (w)), .ref (ad (a))]).toArray below meth c H locs 0 0 Q (F0 m 0 ls []) := by
    obtain ⟨n, g, hO_w, hA_w⟩ := h
    obtain ⟨na, ga, ⟨hO_a, hA_a⟩, hok⟩ := ha
    have hn := hok.1
    have hnN := hok.fits hfit
    refine lv_aload_n hx hb d_W_become_0 rfl (lv_at hl 1 rfl) ?_
    refine pw_get (ci := 0) (C := R_W) (T := T_W) (N := 2) hx hb hq i_W hown hw (by omega) hO_a rfl 1 (by decide) (hq _ fl_W_21) (fun _ h9 => h9) rfl d_W_become_1 ?_
    refine lv_aload_n hx hb d_W_become_4 rfl (lv_at hl 0 rfl) ?_
    refine pw_get (ci := 0) (C := R_W) (T := T_W) (N := 2) hx hb hq i_W hown hw (by omega) hO_w rfl 0 (by decide) (hq _ fl_W_17) (fun _ h9 => h9) rfl d_W_become_5 ?_
    refine pw_alen (v := iI ((N : Nat) : Int)) hx hb hw 0 (by omega) hA_w rfl (iI_nat _).symm d_W_become_8 ?_
    refine wz_mmin (z := (na : Int)) hx hb (hml.trans hl.1.symm) hown (hq _ ml_W_45) (hq _ st_JM_min) (hq _ in_JM) (hq _ m_JM_min) (Nat.le_of_ble_eq_true rfl) (Nat.le_of_ble_eq_true rfl) (Nat.zero_le _) (Nat.zero_le _) (by omega) (by omega) (by omega) (by omega) (by omega) d_W_become_9 ?_
    refine lv_istore_n (lv' := [(2, .int (iI ((na : Int)))), (0, .ref (ad (w))), (1, .ref (ad (a)))]) hx hb d_W_become_12 rfl hl (by decide) rfl (fun ls hl => ?_)
    refine lv_aload_n hx hb d_W_become_13 rfl (lv_at hl 2 rfl) ?_
    refine pw_get (ci := 0) (C := R_W) (T := T_W) (N := 2) hx hb hq i_W hown hw (by omega) hO_a rfl 0 (by decide) (hq _ fl_W_17) (fun _ h9 => h9) rfl d_W_become_14 ?_
    refine wz_iconst (n := 0) hx hb d_W_become_17 ?_
    refine lv_aload_n hx hb d_W_become_18 rfl (lv_at hl 1 rfl) ?_
    refine pw_get (ci := 0) (C := R_W) (T := T_W) (N := 2) hx hb hq i_W hown hw (by omega) hO_w rfl 0 (by decide) (hq _ fl_W_17) (fun _ h9 => h9) rfl d_W_become_19 ?_
    refine wz_iconst (n := 0) hx hb d_W_become_22 ?_
    refine lv_iload_n hx hb d_W_become_23 rfl (lv_at hl 0 rfl) ?_
    refine pw_copyi (sp' := 0) (dp' := 0) (n' := na) hx hb (hml.trans hl.1.symm) hown (hq _ ml_W_52) (hq _ nat_copy) (hq _ st_copy) (hq _ in_javalangSystem) hw 0 (by omega) hA_a (by omega) hA_w rfl (by omega) (by omega) (by omega) (by omega) (by omega) (by omega) (by omega) (Nat.le_of_ble_eq_true rfl) (Nat.le_of_ble_eq_true rfl) d_W_become_24 (fun F24 H locs eF24 hw => ?_)
    have m24_w1 : F24 (w + 1) = .inl (ty 0, N, .inl (va_cpy (ga) (g) 0 0 (na))) := by rw [eF24]; exact va_up_self ..
    have hO_w_at_24 : F24 (w) = .inr (0, [.ref (ad (w + 1)), .int (iI ((n : Int)))]) := (show F24 (w) = F (w) from by rw [eF24]; exact va_up_ne _ _ (by omega)).trans hO_w
    have hO_a_at_24 : F24 (a) = .inr (0, [.ref (ad (a + 1)), .int (iI ((na : Int)))]) := (show F24 (a) = F (a) from by rw [eF24]; exact va_up_ne _ _ (by omega)).trans hO_a
    have hA_a_at_24 : F24 (a + 1) = .inl (ty 0, Na, .inl (ga)) := (show F24 (a + 1) = F (a + 1) from by rw [eF24]; exact va_up_ne _ _ (by omega)).trans hA_a
    refine lv_aload_n hx hb d_W_become_27 rfl (lv_at hl 1 rfl) ?_
    refine lv_iload_n hx hb d_W_become_28 rfl (lv_at hl 0 rfl) ?_
    refine pw_callv hw (va_runV (As := [.int (iI ((na : Int)))]) (rest := []) ⟨hx, hb, hml, hown, hq⟩ (c_W_trim l D ty ad M F24 H.size w N na n (va_cpy ga g 0 0 na) hM hN hnN hO_w_at_24 m24_w1) (cwV 1 hq (gV ml_W_48 im_W_trim se_W_trim in_W m_W_trim) rfl rfl rfl (by decide +kernel) ⟨Nat.le_of_ble_eq_true rfl, Nat.le_of_ble_eq_true rfl⟩) (pw_preV hw (by omega) hO_w_at_24 rfl) rfl rfl hl.1 rfl (lv_room (Nat.le_of_ble_eq_true rfl)) d_W_become_29 ⟨Nat.le_of_ble_eq_true rfl, Nat.le_of_ble_eq_true rfl⟩) (fun F29 H locs q29 hw => ?_)
    obtain ⟨k, hk1, hk2, hk3, eF29⟩ := q29
    have hcp : ∀ i, i < na → va_cpy ga g 0 0 na i = ga i := fun i hi => sb_cpy0 hi
    have hdl : ∀ i, i < na → dl (va_cpy ga g 0 0 na) i = dl ga i := fun i hi => by show (va_cpy ga g 0 0 na i).toBitVec.toNat = _; rw [hcp i hi]; rfl
    have hO_a_at_29 : F29 (a) = .inr (0, [.ref (ad (a + 1)), .int (iI ((na : Int)))]) := (show F29 (a) = F24 (a) from by rw [eF29]; exact va_up_ne _ _ (by omega)).trans hO_a_at_24
    have hA_a_at_29 : F29 (a + 1) = .inl (ty 0, Na, .inl (ga)) := (show F29 (a + 1) = F24 (a + 1) from by rw [eF29]; exact va_up_ne _ _ (by omega)).trans hA_a_at_24
    have m24_w1_at_29 : F29 (w + 1) = .inl (ty 0, N, .inl (va_cpy (ga) (g) 0 0 (na))) := (show F29 (w + 1) = F24 (w + 1) from by rw [eF29]; exact va_up_ne _ _ (by omega)).trans m24_w1
    rw [← hQ]
    exact pw_vret hx hb hr hlocks hw (⟨⟨k, va_cpy ga g 0 0 na, ⟨by rw [eF29]; exact va_up_self .., m24_w1_at_29⟩, by rw [show v = bv 2147483648 (dl (va_cpy ga g 0 0 na)) na by rw [bv_congr hdl]; exact hok.2.2.2.symm]; exact Wok.trim hnN hk1 (fun i hi => by rw [hdl i hi]; exact hok.2.1 i hi) hk2 hk3⟩, fun y h1 h2 => by rw [eF29, va_up_ne _ _ h1, eF24, va_up_ne _ _ h2]⟩) d_W_become_32
  rw [hH, hlo] at hgo
  exact hgo
