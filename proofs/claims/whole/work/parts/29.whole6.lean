/-! Whole: trialDigit: by program -/
set_option maxHeartbeats 4000000 in
set_option maxRecDepth 100000 in
/-- Whole.trialDigit(divisor, at) -/
theorem c_W_trialDigit (l : Launch) (D : va_G) (ty : Nat → ClassId) (ad : Nat → Nat) (M : Nat) (F : Nat → va_E) (sz : Nat) (t d N Nd nt nd v al : Nat) (gt gd : Nat → Int32) (hMt : t + 1 < M) (hMd : d + 1 < M) (hN : N < 1000) (hNd : Nd < 1000) (hnt : nt ≤ N) (hdt : ∀ i, i < nt → dl gt i < 2147483648) (hokd : Wok Nd nd gd v) (hnd0 : 0 < nd) (hal : al + nd ≤ nt) (hX : bv 2147483648 (dl gt) nt % 2147483648 ^ (al + nd + 1) < v * 2147483648 ^ (al + 1)) (hO_t : F (t) = .inr (0, [.ref (ad (t + 1)), .int (iI ((nt : Int)))])) (hA_t : F (t + 1) = .inl (ty 0, N, .inl (gt))) (hO_d : F (d) = .inr (0, [.ref (ad (d + 1)), .int (iI ((nd : Int)))])) (hA_d : F (d + 1) = .inl (ty 0, Nd, .inl (gd))) :
    CJ l y_W_trialDigit w_W_trialDigit ({ frames := 2, cells := 0, slots := 0, locals := 45 } : Room) [.ref (ad (t)), .ref (ad (d)), .int (iI ((al : Int)))] D ty ad M F sz (fun r F1 => (∃ dg : Nat, r = iL dg ∧ dg ≤ 2147483647 ∧ bv 2147483648 (dl gt) nt % 2147483648 ^ (al + nd + 1) / (v * 2147483648 ^ al) ≤ dg ∧ dg ≤ bv 2147483648 (dl gt) nt % 2147483648 ^ (al + nd + 1) / (v * 2147483648 ^ al) + 1) ∧ F1 = F) := by
  refine Met.ofW (cc := b_W_trialDigit) (maxL := 18) (ret := (some .long)) (by decide) rfl ?_
  intro p e s m args below meth c s₁ B hml hv
  obtain ⟨rfl, hsz, hP, hK, hD0⟩ := hv
  have hx := B.exec
  have hb := B.bytes
  have hr := B.returns
  have hts := atoms_spec (ws := w_W_trialDigit) B.pre
  have hq : ∀ w ∈ wT, w.before _ s = true := fun w h => hts w (List.mem_cons_of_mem _ h)
  have hown : s.vm.findClass R_W = some m.cls := findClass_of_methodNamed B.named
  have hlocks := B.notSynchronized
  subst hsz
  have hw := pw_start hP hK hD0
  have hl := lv_entry ([.ref (ad (t)), .ref (ad (d)), .int (iI ((al : Int)))]) (n := 18) (Nat.le_of_ble_eq_true rfl)
  rw [lg_entry_eq]
  generalize (lg_sl ([.ref (ad (t)), .ref (ad (d)), .int (iI ((al : Int)))]) ++ List.replicate (18 - (lg_sl ([.ref (ad (t)), .ref (ad (d)), .int (iI ((al : Int)))])).length) Slot.unset).toArray = ls at hl ⊢
  have hl : lv_has ls 18 [(0, .ref (ad (t))), (1, .ref (ad (d))), (2, .int (iI ((al : Int))))] := hl
  change W p l e ({ frames := 2, cells := 0, slots := 0, locals := 45 } : Room) s m ([.ref (ad (t)), .ref (ad (d)), .int (iI ((al : Int)))]).toArray below meth c s.heap [] 0 0 (MQ below (va_Ql (fun r F1 => (∃ dg : Nat, r = iL dg ∧ dg ≤ 2147483647 ∧ bv 2147483648 (dl gt) nt % 2147483648 ^ (al + nd + 1) / (v * 2147483648 ^ al) ≤ dg ∧ dg ≤ bv 2147483648 (dl gt) nt % 2147483648 ^ (al + nd + 1) / (v * 2147483648 ^ al) + 1) ∧ F1 = F) (pAt D classes (tysL ty) ad M (pA ad M s.heap.size)) (pA ad M s.heap.size)) ([.ref (ad (t)), .ref (ad (d)), .int (iI ((al : Int)))]).toArray s 0 0 (pA ad M s.heap.size)) (F0 m 0 ls [])
  generalize hQ : MQ below (va_Ql (fun r F1 => (∃ dg : Nat, r = iL dg ∧ dg ≤ 2147483647 ∧ bv 2147483648 (dl gt) nt % 2147483648 ^ (al + nd + 1) / (v * 2147483648 ^ al) ≤ dg ∧ dg ≤ bv 2147483648 (dl gt) nt % 2147483648 ^ (al + nd + 1) / (v * 2147483648 ^ al) + 1) ∧ F1 = F) (pAt D classes (tysL ty) ad M (pA ad M s.heap.size)) (pA ad M s.heap.size)) ([.ref (ad (t)), .ref (ad (d)), .int (iI ((al : Int)))]).toArray s 0 0 (pA ad M s.heap.size) = Q
  obtain ⟨H, hH⟩ : ∃ H, H = s.heap := ⟨_, rfl⟩
  obtain ⟨locs, hlo⟩ : ∃ z : List Loc, z = [] := ⟨_, rfl⟩
  have hw : pw D classes (tysL ty) ad M F (pA ad M s.heap.size) s H locs := by rw [hH, hlo]; exact hw
  have hgo : W p l e ({ frames := 2, cells := 0, slots := 0, locals := 45 } : Room) s m ([.ref (ad (t)), .ref (ad (d)), .int (iI ((al : Int)))]).toArray below meth c H locs 0 0 Q (F0 m 0 ls []) := by
    have hnd := hokd.1
    have hdd := hokd.2.1
    have hv0 : 0 < v := by
      have := hokd.zero
      omega
    obtain ⟨X, hXe⟩ : ∃ z, z = bv 2147483648 (dl gt) nt % 2147483648 ^ (al + nd + 1) := ⟨_, rfl⟩
    rw [← hXe] at hX
    refine lv_aload_n hx hb d_W_trialDigit_0 rfl (lv_at hl 1 rfl) ?_
    refine pw_calli hw (va_runV (As := []) (rest := []) ⟨hx, hb, hml, hown, hq⟩ (c_W_spareBits l D ty ad M F H.size d Nd nd gd hMd hNd hnd hdd hokd.2.2.1 hO_d hA_d) (cwV 0 hq (gV ml_W_29 im_W_spareBits se_W_spareBits in_W m_W_spareBits) rfl rfl rfl (by decide +kernel) ⟨Nat.le_of_ble_eq_true rfl, Nat.le_of_ble_eq_true rfl⟩) (pw_preV hw (by omega) hO_d rfl) rfl rfl hl.1 rfl (lv_room (Nat.le_of_ble_eq_true rfl)) d_W_trialDigit_1 ⟨Nat.le_of_ble_eq_true rfl, Nat.le_of_ble_eq_true rfl⟩) (fun r1 F1 H locs q1 hw => ?_)
    obtain ⟨⟨s0, er1, hs1, hs2, hs3⟩, eF1⟩ := q1
    rw [eF1] at hw
    clear eF1
    subst er1
    obtain ⟨hs4, hs5⟩ := hs3 hnd0
    obtain ⟨hlt, hge⟩ := kn_shift hokd hnd0 hs1 hs4 hs5
    have hsc : 0 < 2 ^ s0 := Nat.two_pow_pos s0
    refine lv_istore_n (lv' := [(3, .int (iI ((s0 : Int)))), (0, .ref (ad (t))), (1, .ref (ad (d))), (2, .int (iI ((al : Int))))]) hx hb d_W_trialDigit_4 rfl hl (by decide) rfl (fun ls hl => ?_)
    refine lv_iload_n hx hb d_W_trialDigit_5 rfl (lv_at hl 3 rfl) ?_
    refine lv_aload_n hx hb d_W_trialDigit_6 rfl (lv_at hl 2 rfl) ?_
    refine pw_get (ci := 0) (C := R_W) (T := T_W) (N := 2) hx hb hq i_W hown hw (by omega) hO_d rfl 1 (by decide) (hq _ fl_W_21) (fun _ h9 => h9) rfl d_W_trialDigit_7 ?_
    refine wz_iadd (z := ((al + nd : Nat) : Int)) hx hb d_W_trialDigit_10 (by omega) ?_
    refine lv_istore (lv' := [(4, .int (iI (((al + nd : Nat) : Int)))), (3, .int (iI ((s0 : Int)))), (0, .ref (ad (t))), (1, .ref (ad (d))), (2, .int (iI ((al : Int))))]) hx hb d_W_trialDigit_11 hl (by decide) rfl (fun ls hl => ?_)
    refine lv_aload_n hx hb d_W_trialDigit_13 rfl (lv_at hl 3 rfl) ?_
    refine lv_aload_n hx hb d_W_trialDigit_14 rfl (lv_at hl 3 rfl) ?_
    refine pw_get (ci := 0) (C := R_W) (T := T_W) (N := 2) hx hb hq i_W hown hw (by omega) hO_d rfl 1 (by decide) (hq _ fl_W_21) (fun _ h9 => h9) rfl d_W_trialDigit_15 ?_
    refine wz_iconst (n := 1) hx hb d_W_trialDigit_18 ?_
    refine wz_isub hx hb d_W_trialDigit_19 rfl ?_
    refine lv_iload_n hx hb d_W_trialDigit_20 rfl (lv_at hl 1 rfl) ?_
    refine pw_calll hw (va_runV (As := [.int (iI ((nd : Int) - 1)), .int (iI ((s0 : Int)))]) (rest := []) ⟨hx, hb, hml, hown, hq⟩ (c_W_shiftedLimb l D ty ad M F H.size d Nd nd gd ((nd : Int) - 1) s0 hMd hNd hnd hdd (by omega) hs1 hO_d hA_d) (cwV 2 hq (gV ml_W_68 im_W_shiftedLimb se_W_shiftedLimb in_W m_W_shiftedLimb) rfl rfl rfl (by decide +kernel) ⟨Nat.le_of_ble_eq_true rfl, Nat.le_of_ble_eq_true rfl⟩) (pw_preV hw (by omega) hO_d rfl) rfl rfl hl.1 rfl (lv_room (Nat.le_of_ble_eq_true rfl)) d_W_trialDigit_21 ⟨Nat.le_of_ble_eq_true rfl, Nat.le_of_ble_eq_true rfl⟩) (fun r21 F21 H locs q21 hw => ?_)
    obtain ⟨er21, eF21⟩ := q21
    rw [eF21] at hw
    clear eF21
    rw [lmz_xl hdd, lmz_xl hdd, xl_sh hs1, hokd.2.2.2] at er21
    obtain ⟨V1, hV1⟩ : ∃ z : Nat, z = xl (v * 2 ^ s0) ((nd : Int) - 1) := ⟨_, rfl⟩
    rw [← hV1] at er21
    subst er21
    have lV1 : V1 < 2147483648 := by rw [hV1]; exact xl_lt _ _
    refine lv_lstore (lv' := [(5, .long (iL ((V1 : Int)))), (4, .int (iI (((al + nd : Nat) : Int)))), (3, .int (iI ((s0 : Int)))), (0, .ref (ad (t))), (1, .ref (ad (d))), (2, .int (iI ((al : Int))))]) hx hb d_W_trialDigit_24 hl (by decide) rfl (fun ls hl => ?_)
    refine lv_aload_n hx hb d_W_trialDigit_26 rfl (lv_at hl 4 rfl) ?_
    refine lv_aload_n hx hb d_W_trialDigit_27 rfl (lv_at hl 4 rfl) ?_
    refine pw_get (ci := 0) (C := R_W) (T := T_W) (N := 2) hx hb hq i_W hown hw (by omega) hO_d rfl 1 (by decide) (hq _ fl_W_21) (fun _ h9 => h9) rfl d_W_trialDigit_28 ?_
    refine wz_iconst (n := 2) hx hb d_W_trialDigit_31 ?_
    refine wz_isub hx hb d_W_trialDigit_32 rfl ?_
    refine lv_iload_n hx hb d_W_trialDigit_33 rfl (lv_at hl 2 rfl) ?_
    refine pw_calll hw (va_runV (As := [.int (iI ((nd : Int) - 2)), .int (iI ((s0 : Int)))]) (rest := []) ⟨hx, hb, hml, hown, hq⟩ (c_W_shiftedLimb l D ty ad M F H.size d Nd nd gd ((nd : Int) - 2) s0 hMd hNd hnd hdd (by omega) hs1 hO_d hA_d) (cwV 2 hq (gV ml_W_68 im_W_shiftedLimb se_W_shiftedLimb in_W m_W_shiftedLimb) rfl rfl rfl (by decide +kernel) ⟨Nat.le_of_ble_eq_true rfl, Nat.le_of_ble_eq_true rfl⟩) (pw_preV hw (by omega) hO_d rfl) rfl rfl hl.1 rfl (lv_room (Nat.le_of_ble_eq_true rfl)) d_W_trialDigit_34 ⟨Nat.le_of_ble_eq_true rfl, Nat.le_of_ble_eq_true rfl⟩) (fun r34 F34 H locs q34 hw => ?_)
    obtain ⟨er34, eF34⟩ := q34
    rw [eF34] at hw
    clear eF34
    rw [lmz_xl hdd, lmz_xl hdd, xl_sh hs1, hokd.2.2.2] at er34
    obtain ⟨V2, hV2⟩ : ∃ z : Nat, z = xl (v * 2 ^ s0) ((nd : Int) - 2) := ⟨_, rfl⟩
    rw [← hV2] at er34
    subst er34
    have lV2 : V2 < 2147483648 := by rw [hV2]; exact xl_lt _ _
    refine lv_lstore (lv' := [(7, .long (iL ((V2 : Int)))), (5, .long (iL ((V1 : Int)))), (4, .int (iI (((al + nd : Nat) : Int)))), (3, .int (iI ((s0 : Int)))), (0, .ref (ad (t))), (1, .ref (ad (d))), (2, .int (iI ((al : Int))))]) hx hb d_W_trialDigit_37 hl (by decide) rfl (fun ls hl => ?_)
    refine lv_lload hx hb d_W_trialDigit_39 (lv_at hl 1 rfl) ?_
    refine lv_lconst (v := iL 0) hx hb d_W_trialDigit_41 (by decide) ?_
    have e1 := xl3 (y := v * 2 ^ s0) (m := nd) hnd0 (by rw [Nat.mul_comm]; exact Nat.lt_of_lt_of_le hlt (Nat.pow_le_pow_right (by decide) (by omega)))
    have e0 : xl (v * 2 ^ s0) (nd : Int) = 0 := by rw [xl_n, Nat.div_eq_of_lt (by rw [Nat.mul_comm]; exact hlt), Nat.zero_mod]
    rw [← hV1, ← hV2, e0, Nat.zero_mul, Nat.zero_add, Nat.mul_comm v] at e1
    have hV1b := kn_V1 hge e1 lV2
    refine wz_lcmp_gt (tgt := 48) hx hb d_W_trialDigit_42 d_W_trialDigit_43 (by decide) (by omega) (by omega) (by omega) (by omega) (fun c42 => ?_) (fun c42 => ?_)
    · refine lv_aload_n hx hb d_W_trialDigit_48 rfl (lv_at hl 4 rfl) ?_
      refine lv_iload hx hb d_W_trialDigit_49 (lv_at hl 2 rfl) ?_
      refine lv_iload_n hx hb d_W_trialDigit_51 rfl (lv_at hl 3 rfl) ?_
      refine pw_calll hw (va_runV (As := [.int (iI (((al + nd : Nat) : Int))), .int (iI ((s0 : Int)))]) (rest := []) ⟨hx, hb, hml, hown, hq⟩ (c_W_shiftedLimb l D ty ad M F H.size t N nt gt ((al + nd : Nat) : Int) s0 hMt hN hnt hdt (by omega) hs1 hO_t hA_t) (cwV 2 hq (gV ml_W_68 im_W_shiftedLimb se_W_shiftedLimb in_W m_W_shiftedLimb) rfl rfl rfl (by decide +kernel) ⟨Nat.le_of_ble_eq_true rfl, Nat.le_of_ble_eq_true rfl⟩) (pw_preV hw (by omega) hO_t rfl) rfl rfl hl.1 rfl (lv_room (Nat.le_of_ble_eq_true rfl)) d_W_trialDigit_52 ⟨Nat.le_of_ble_eq_true rfl, Nat.le_of_ble_eq_true rfl⟩) (fun r52 F52 H locs q52 hw => ?_)
      obtain ⟨er52, eF52⟩ := q52
      rw [eF52] at hw
      clear eF52
      rw [lmz_xl hdt, lmz_xl hdt, xl_sh hs1] at er52
      obtain ⟨ha2, hha2⟩ : ∃ z : Nat, z = xl (bv 2147483648 (dl gt) nt * 2 ^ s0) ((al + nd : Nat) : Int) := ⟨_, rfl⟩
      rw [← hha2] at er52
      subst er52
      have lha2 : ha2 < 2147483648 := by rw [hha2]; exact xl_lt _ _
      refine wz_bipush (n := 31) hx hb d_W_trialDigit_55 (by decide) ?_
      refine lv_lshl (v := iL (((ha2 * 2 ^ 31 : Nat) : Int))) hx hb d_W_trialDigit_57 (iL_shl (k := 31) (by decide)) ?_
      refine lv_aload_n hx hb d_W_trialDigit_58 rfl (lv_at hl 4 rfl) ?_
      refine lv_iload hx hb d_W_trialDigit_59 (lv_at hl 2 rfl) ?_
      refine wz_iconst (n := 1) hx hb d_W_trialDigit_61 ?_
      refine wz_isub hx hb d_W_trialDigit_62 rfl ?_
      refine lv_iload_n hx hb d_W_trialDigit_63 rfl (lv_at hl 3 rfl) ?_
      refine pw_calll hw (va_runV (As := [.int (iI (((al + nd : Nat) : Int) - 1)), .int (iI ((s0 : Int)))]) (rest := [.long (iL (((ha2 * 2 ^ 31 : Nat) : Int)))]) ⟨hx, hb, hml, hown, hq⟩ (c_W_shiftedLimb l D ty ad M F H.size t N nt gt (((al + nd : Nat) : Int) - 1) s0 hMt hN hnt hdt (by omega) hs1 hO_t hA_t) (cwV 2 hq (gV ml_W_68 im_W_shiftedLimb se_W_shiftedLimb in_W m_W_shiftedLimb) rfl rfl rfl (by decide +kernel) ⟨Nat.le_of_ble_eq_true rfl, Nat.le_of_ble_eq_true rfl⟩) (pw_preV hw (by omega) hO_t rfl) rfl rfl hl.1 rfl (lv_room (Nat.le_of_ble_eq_true rfl)) d_W_trialDigit_64 ⟨Nat.le_of_ble_eq_true rfl, Nat.le_of_ble_eq_true rfl⟩) (fun r64 F64 H locs q64 hw => ?_)
      obtain ⟨er64, eF64⟩ := q64
      rw [eF64] at hw
      clear eF64
      rw [lmz_xl hdt, lmz_xl hdt, xl_sh hs1] at er64
      obtain ⟨ha1, hha1⟩ : ∃ z : Nat, z = xl (bv 2147483648 (dl gt) nt * 2 ^ s0) (((al + nd : Nat) : Int) - 1) := ⟨_, rfl⟩
      rw [← hha1] at er64
      subst er64
      have lha1 : ha1 < 2147483648 := by rw [hha1]; exact xl_lt _ _
      obtain ⟨hi, hhie⟩ : ∃ z, z = ha2 * 2 ^ 31 + ha1 := ⟨_, rfl⟩
      refine lv_lor hx hb d_W_trialDigit_67 ?_
      refine lv_topl (fun x67 ex67 => ?_)
      obtain rfl : x67 = iL ((hi : Int)) := ex67.trans ((iL_or (k := 31) lha1 (by omega)).trans (by rw [hhie]))
      refine lv_lstore (lv' := [(9, .long (iL ((hi : Int)))), (7, .long (iL ((V2 : Int)))), (5, .long (iL ((V1 : Int)))), (4, .int (iI (((al + nd : Nat) : Int)))), (3, .int (iI ((s0 : Int)))), (0, .ref (ad (t))), (1, .ref (ad (d))), (2, .int (iI ((al : Int))))]) hx hb d_W_trialDigit_68 hl (by decide) rfl (fun ls hl => ?_)
      refine lv_aload_n hx hb d_W_trialDigit_70 rfl (lv_at hl 5 rfl) ?_
      refine lv_iload hx hb d_W_trialDigit_71 (lv_at hl 3 rfl) ?_
      refine wz_iconst (n := 2) hx hb d_W_trialDigit_73 ?_
      refine wz_isub hx hb d_W_trialDigit_74 rfl ?_
      refine lv_iload_n hx hb d_W_trialDigit_75 rfl (lv_at hl 4 rfl) ?_
      refine pw_calll hw (va_runV (As := [.int (iI (((al + nd : Nat) : Int) - 2)), .int (iI ((s0 : Int)))]) (rest := []) ⟨hx, hb, hml, hown, hq⟩ (c_W_shiftedLimb l D ty ad M F H.size t N nt gt (((al + nd : Nat) : Int) - 2) s0 hMt hN hnt hdt (by omega) hs1 hO_t hA_t) (cwV 2 hq (gV ml_W_68 im_W_shiftedLimb se_W_shiftedLimb in_W m_W_shiftedLimb) rfl rfl rfl (by decide +kernel) ⟨Nat.le_of_ble_eq_true rfl, Nat.le_of_ble_eq_true rfl⟩) (pw_preV hw (by omega) hO_t rfl) rfl rfl hl.1 rfl (lv_room (Nat.le_of_ble_eq_true rfl)) d_W_trialDigit_76 ⟨Nat.le_of_ble_eq_true rfl, Nat.le_of_ble_eq_true rfl⟩) (fun r76 F76 H locs q76 hw => ?_)
      obtain ⟨er76, eF76⟩ := q76
      rw [eF76] at hw
      clear eF76
      rw [lmz_xl hdt, lmz_xl hdt, xl_sh hs1] at er76
      obtain ⟨nx, hnx⟩ : ∃ z : Nat, z = xl (bv 2147483648 (dl gt) nt * 2 ^ s0) (((al + nd : Nat) : Int) - 2) := ⟨_, rfl⟩
      rw [← hnx] at er76
      subst er76
      have lnx : nx < 2147483648 := by rw [hnx]; exact xl_lt _ _
      refine lv_lstore (lv' := [(11, .long (iL ((nx : Int)))), (9, .long (iL ((hi : Int)))), (7, .long (iL ((V2 : Int)))), (5, .long (iL ((V1 : Int)))), (4, .int (iI (((al + nd : Nat) : Int)))), (3, .int (iI ((s0 : Int)))), (0, .ref (ad (t))), (1, .ref (ad (d))), (2, .int (iI ((al : Int))))]) hx hb d_W_trialDigit_79 hl (by decide) rfl (fun ls hl => ?_)
      refine lv_lload hx hb d_W_trialDigit_81 (lv_at hl 1 rfl) ?_
      refine lv_lload hx hb d_W_trialDigit_83 (lv_at hl 3 rfl) ?_
      have e2 := xl3 (y := X * 2 ^ s0) (m := al + nd) (by omega) (kn_Xs hX hlt)
      rw [hXe, ← xl_low (by omega), ← xl_low (by omega), ← xl_low (by omega), ← hha2, ← hha1, ← hnx, ← hXe, Nat.mul_comm X] at e2
      have e3 : hi * 2147483648 + nx = 2 ^ s0 * X * (2147483648 * 2147483648) / 2147483648 ^ (al + nd) := by rw [← e2, hhie]
      have hhi9 : ha2 * 2147483648 + ha1 = hi := hhie.symm
      have hhi : hi ≤ V1 * 2147483648 + V2 := kn_high (by decide) (kn_pre hlt hsc hX e1 e3)
      have hdg0 := kn_dig hhi (show hi / V1 * V1 + hi % V1 = hi by rw [Nat.mul_comm]; exact Nat.div_add_mod hi V1) lV2 hV1b
      refine wz_ldiv (a := hi) (b := V1) (z := hi / V1) hx hb d_W_trialDigit_85 (by omega) (by omega) (by omega) (rfl) ?_
      refine lv_lstore (lv' := [(13, .long (iL (((hi / V1 : Nat) : Int)))), (11, .long (iL ((nx : Int)))), (9, .long (iL ((hi : Int)))), (7, .long (iL ((V2 : Int)))), (5, .long (iL ((V1 : Int)))), (4, .int (iI (((al + nd : Nat) : Int)))), (3, .int (iI ((s0 : Int)))), (0, .ref (ad (t))), (1, .ref (ad (d))), (2, .int (iI ((al : Int))))]) hx hb d_W_trialDigit_86 hl (by decide) rfl (fun ls hl => ?_)
      refine lv_lload hx hb d_W_trialDigit_88 (lv_at hl 2 rfl) ?_
      refine lv_lload hx hb d_W_trialDigit_90 (lv_at hl 4 rfl) ?_
      have hmo : hi % V1 < V1 := Nat.mod_lt _ (by omega)
      refine wz_lrem (a := hi) (b := V1) (z := hi % V1) hx hb d_W_trialDigit_92 (by omega) (by omega) (by omega) (rfl) ?_
      refine lv_lstore (lv' := [(15, .long (iL (((hi % V1 : Nat) : Int)))), (13, .long (iL (((hi / V1 : Nat) : Int)))), (11, .long (iL ((nx : Int)))), (9, .long (iL ((hi : Int)))), (7, .long (iL ((V2 : Int)))), (5, .long (iL ((V1 : Int)))), (4, .int (iI (((al + nd : Nat) : Int)))), (3, .int (iI ((s0 : Int)))), (0, .ref (ad (t))), (1, .ref (ad (d))), (2, .int (iI ((al : Int))))]) hx hb d_W_trialDigit_93 hl (by decide) rfl (fun ls hl => ?_)
      have K161 : ∀ (dg : Nat) (ls : Array Slot), (dg ≤ 2147483647) → (dg * (V1 * 2147483648 + V2) ≤ hi * 2147483648 + nx) → (hi * 2147483648 + nx < (dg + 1) * (V1 * 2147483648 + V2) ∨ 2147483648 ≤ dg + 1) → lv_has ls 18 [(13, .long (iL ((dg : Int))))] → W p l e ({ frames := 2, cells := 0, slots := 0, locals := 45 } : Room) s m ([.ref (ad (t)), .ref (ad (d)), .int (iI ((al : Int)))]).toArray below meth c H locs 0 0 Q (F0 m 161 ls []) := by
        intro dg ls hd1 hd2 hd3 hl
        refine lv_lload hx hb d_W_trialDigit_161 (lv_at hl 0 rfl) ?_
        rw [← hQ]
        exact pw_lret hx hb hr hlocks hw (⟨⟨dg, rfl, hd1, by rw [← hXe]; exact kn_fin hv0 hsc hnd0 hlt hge hX (V3 := 0) (by rw [Nat.zero_mul, Nat.zero_add]; exact e1) rfl (hi2 := ha2) (hi1 := ha1) e2 hd1 (by rw [hhi9]; exact hd2) (by rw [hhi9]; exact hd3)⟩, rfl⟩) d_W_trialDigit_163
      refine wz_iconst (n := 0) hx hb d_W_trialDigit_95 ?_
      refine lv_istore (lv' := [(17, .int (iI (0))), (15, .long (iL (((hi % V1 : Nat) : Int)))), (13, .long (iL (((hi / V1 : Nat) : Int)))), (11, .long (iL ((nx : Int)))), (9, .long (iL ((hi : Int)))), (7, .long (iL ((V2 : Int)))), (5, .long (iL ((V1 : Int)))), (4, .int (iI (((al + nd : Nat) : Int)))), (3, .int (iI ((s0 : Int)))), (0, .ref (ad (t))), (1, .ref (ad (d))), (2, .int (iI ((al : Int))))]) hx hb d_W_trialDigit_96 hl (by decide) rfl (fun ls hl => ?_)
      have K98 : ∀ (fuel : Nat) (i dg rs : Nat) (ls : Array Slot), 2 - i < fuel → (i ≤ 2) → (kn_I 2147483648 V1 V2 hi nx dg rs) → (dg + i = hi / V1) → (rs = hi % V1 + i * V1) → lv_has ls 18 [(17, .int (iI ((i : Int)))), (15, .long (iL ((rs : Int)))), (13, .long (iL ((dg : Int)))), (11, .long (iL ((nx : Int)))), (9, .long (iL ((hi : Int)))), (7, .long (iL ((V2 : Int)))), (5, .long (iL ((V1 : Int))))] → W p l e ({ frames := 2, cells := 0, slots := 0, locals := 45 } : Room) s m ([.ref (ad (t)), .ref (ad (d)), .int (iI ((al : Int)))]).toArray below meth c H locs 0 0 Q (F0 m 98 ls []) := by
        intro fuel
        induction fuel with
        | zero => intro i dg rs ls hfuel hi2 hkn hdi hri hl; exact absurd hfuel (Nat.not_lt_zero _)
        | succ fuel ih98 =>
          intro i dg rs ls hfuel hi2 hkn hdi hri hl
          refine lv_iload hx hb d_W_trialDigit_98 (lv_at hl 0 rfl) ?_
          refine wz_iconst (n := 2) hx hb d_W_trialDigit_100 ?_
          refine wz_icmp_ge (tgt := 161) hx hb d_W_trialDigit_101 (by decide) (by omega) (by omega) (by omega) (by omega) (fun c101 => ?_) (fun c101 => ?_)
          · have hi9 : i = 2 := by omega
            subst hi9
            exact K161 dg ls (by omega) (kn_two hkn.1 (by omega) (by omega) lV2 hV1b) (hkn.2) (lv_sub hl [2] rfl)
          · have hi1 : i = 0 ∨ i = 1 := by omega
            have hrs : rs ≤ hi % V1 + V1 := by rcases hi1 with q | q <;> (rw [q] at hri; omega)
            refine lv_lload hx hb d_W_trialDigit_104 (lv_at hl 1 rfl) ?_
            refine lv_ldc2 (v := iL (2147483647)) hx hb hown (hq _ cj_W_43) d_W_trialDigit_106 ?_
            refine wz_lcmp_gt (tgt := 161) hx hb d_W_trialDigit_109 d_W_trialDigit_110 (by decide) (by omega) (by omega) (by omega) (by omega) (fun c109 => ?_) (fun c109 => ?_)
            · exact K161 dg ls (kn_sm hhi hkn.1 lV2 (by omega)) (kn_rest hkn (kn_sm hhi hkn.1 lV2 (by omega)) lV2 (by omega)) (hkn.2) (lv_sub hl [2] rfl)
            · refine lv_lload hx hb d_W_trialDigit_113 (lv_at hl 2 rfl) ?_
              refine lv_ldc2 (v := iL (2147483647)) hx hb hown (hq _ cj_W_43) d_W_trialDigit_115 ?_
              refine wz_lcmp_gt (tgt := 142) hx hb d_W_trialDigit_118 d_W_trialDigit_119 (by decide) (by omega) (by omega) (by omega) (by omega) (fun c118 => ?_) (fun c118 => ?_)
              · have hdec : 1 ≤ dg ∧ ¬ (dg ≤ 2147483648 - 1 ∧ dg * V2 ≤ rs * 2147483648 + nx) := ⟨by omega, fun q => by omega⟩
                refine lv_lload hx hb d_W_trialDigit_142 (lv_at hl 2 rfl) ?_
                refine lv_lconst (v := iL 1) hx hb d_W_trialDigit_144 (by decide) ?_
                refine wz_lsub (z := ((dg - 1 : Nat) : Int)) hx hb d_W_trialDigit_145 (by omega) ?_
                refine lv_lstore (lv' := [(13, .long (iL (((dg - 1 : Nat) : Int)))), (17, .int (iI ((i : Int)))), (15, .long (iL ((rs : Int)))), (11, .long (iL ((nx : Int)))), (9, .long (iL ((hi : Int)))), (7, .long (iL ((V2 : Int)))), (5, .long (iL ((V1 : Int))))]) hx hb d_W_trialDigit_146 hl (by decide) rfl (fun ls hl => ?_)
                refine lv_lload hx hb d_W_trialDigit_148 (lv_at hl 2 rfl) ?_
                refine lv_lload hx hb d_W_trialDigit_150 (lv_at hl 6 rfl) ?_
                refine wz_ladd (z := ((rs + V1 : Nat) : Int)) hx hb d_W_trialDigit_152 (rfl) ?_
                refine lv_lstore (lv' := [(15, .long (iL (((rs + V1 : Nat) : Int)))), (13, .long (iL (((dg - 1 : Nat) : Int)))), (17, .int (iI ((i : Int)))), (11, .long (iL ((nx : Int)))), (9, .long (iL ((hi : Int)))), (7, .long (iL ((V2 : Int)))), (5, .long (iL ((V1 : Int))))]) hx hb d_W_trialDigit_153 hl (by decide) rfl (fun ls hl => ?_)
                refine wz_iinc (z := ((i + 1 : Nat) : Int)) (lv' := [(17, .int (iI (((i + 1 : Nat) : Int)))), (15, .long (iL (((rs + V1 : Nat) : Int)))), (13, .long (iL (((dg - 1 : Nat) : Int)))), (11, .long (iL ((nx : Int)))), (9, .long (iL ((hi : Int)))), (7, .long (iL ((V2 : Int)))), (5, .long (iL ((V1 : Int))))]) hx hb d_W_trialDigit_155 hl (k := 2) rfl (by omega) (by decide) rfl (fun ls hl => ?_)
                refine lv_goto (tgt := 98) hx hb d_W_trialDigit_158 (by decide) ?_
                exact ih98 (i + 1) (dg - 1) (rs + V1) ls (by omega) (by omega) (kn_s (by rw [show dg - 1 + 1 = dg by omega]; exact hkn) (by rw [show dg - 1 + 1 = dg by omega]; exact hdec.2)) (by omega) (by rw [Nat.add_mul]; omega) hl
              · have hm1 : dg * V2 ≤ 2147483647 * 2147483647 := Nat.mul_le_mul (by omega) (by omega)
                refine lv_lload hx hb d_W_trialDigit_122 (lv_at hl 2 rfl) ?_
                refine lv_lload hx hb d_W_trialDigit_124 (lv_at hl 5 rfl) ?_
                refine wz_lmul (z := ((dg * V2 : Nat) : Int)) hx hb d_W_trialDigit_126 ((Int.natCast_mul _ _).symm) ?_
                refine lv_lload hx hb d_W_trialDigit_127 (lv_at hl 1 rfl) ?_
                refine wz_bipush (n := 31) hx hb d_W_trialDigit_129 (by decide) ?_
                refine lv_lshl (v := iL (((rs * 2 ^ 31 : Nat) : Int))) hx hb d_W_trialDigit_131 (iL_shl (k := 31) (by decide)) ?_
                refine lv_lload hx hb d_W_trialDigit_132 (lv_at hl 3 rfl) ?_
                refine lv_lor hx hb d_W_trialDigit_134 ?_
                refine lv_topl (fun x134 ex134 => ?_)
                obtain rfl : x134 = iL (((rs * 2 ^ 31 + nx : Nat) : Int)) := ex134.trans (iL_or (k := 31) lnx (by omega))
                refine wz_lcmp_gt (tgt := 142) hx hb d_W_trialDigit_135 d_W_trialDigit_136 (by decide) (by omega) (by omega) (by omega) (by omega) (fun c135 => ?_) (fun c135 => ?_)
                · have hdec : 1 ≤ dg ∧ ¬ (dg ≤ 2147483648 - 1 ∧ dg * V2 ≤ rs * 2147483648 + nx) := ⟨by
                    rcases Nat.eq_zero_or_pos dg with q | q
                    · rw [q, Nat.zero_mul] at c135; omega
                    · exact q, fun q => by omega⟩
                  refine lv_lload hx hb d_W_trialDigit_142 (lv_at hl 2 rfl) ?_
                  refine lv_lconst (v := iL 1) hx hb d_W_trialDigit_144 (by decide) ?_
                  refine wz_lsub (z := ((dg - 1 : Nat) : Int)) hx hb d_W_trialDigit_145 (by omega) ?_
                  refine lv_lstore (lv' := [(13, .long (iL (((dg - 1 : Nat) : Int)))), (17, .int (iI ((i : Int)))), (15, .long (iL ((rs : Int)))), (11, .long (iL ((nx : Int)))), (9, .long (iL ((hi : Int)))), (7, .long (iL ((V2 : Int)))), (5, .long (iL ((V1 : Int))))]) hx hb d_W_trialDigit_146 hl (by decide) rfl (fun ls hl => ?_)
                  refine lv_lload hx hb d_W_trialDigit_148 (lv_at hl 2 rfl) ?_
                  refine lv_lload hx hb d_W_trialDigit_150 (lv_at hl 6 rfl) ?_
                  refine wz_ladd (z := ((rs + V1 : Nat) : Int)) hx hb d_W_trialDigit_152 (rfl) ?_
                  refine lv_lstore (lv' := [(15, .long (iL (((rs + V1 : Nat) : Int)))), (13, .long (iL (((dg - 1 : Nat) : Int)))), (17, .int (iI ((i : Int)))), (11, .long (iL ((nx : Int)))), (9, .long (iL ((hi : Int)))), (7, .long (iL ((V2 : Int)))), (5, .long (iL ((V1 : Int))))]) hx hb d_W_trialDigit_153 hl (by decide) rfl (fun ls hl => ?_)
                  refine wz_iinc (z := ((i + 1 : Nat) : Int)) (lv' := [(17, .int (iI (((i + 1 : Nat) : Int)))), (15, .long (iL (((rs + V1 : Nat) : Int)))), (13, .long (iL (((dg - 1 : Nat) : Int)))), (11, .long (iL ((nx : Int)))), (9, .long (iL ((hi : Int)))), (7, .long (iL ((V2 : Int)))), (5, .long (iL ((V1 : Int))))]) hx hb d_W_trialDigit_155 hl (k := 2) rfl (by omega) (by decide) rfl (fun ls hl => ?_)
                  refine lv_goto (tgt := 98) hx hb d_W_trialDigit_158 (by decide) ?_
                  exact ih98 (i + 1) (dg - 1) (rs + V1) ls (by omega) (by omega) (kn_s (by rw [show dg - 1 + 1 = dg by omega]; exact hkn) (by rw [show dg - 1 + 1 = dg by omega]; exact hdec.2)) (by omega) (by rw [Nat.add_mul]; omega) hl
                · refine lv_goto (tgt := 161) hx hb d_W_trialDigit_139 (by decide) ?_
                  exact K161 dg ls (by omega) (kn_break hkn (by omega)) (hkn.2) (lv_sub hl [2] rfl)
      exact K98 _ 0 (hi / V1) (hi % V1) ls (Nat.lt_succ_self _) (by omega) (kn_0 (by omega) lnx) (by omega) (by omega) (lv_sub hl [0, 1, 2, 3, 4, 5, 6] rfl)
    · exact absurd c42 (by omega)
  rw [hH, hlo] at hgo
  exact hgo
