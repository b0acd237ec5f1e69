/-! the reference: raise, power, change, combine: by program -/
set_option maxHeartbeats 4000000 in
set_option maxRecDepth 100000 in
/-- raise(to, a, n) -/
theorem c_M_raise (l : Launch) (D : va_G) (ty : Nat → ClassId) (ad : Nat → Nat) (M : Nat) (F : Nat → va_E) (sz : Nat) (hM : 103 < M) (co ln wr : Int) (hO : F 98 = oM ad co ln wr) (to a n : Nat) (za : Int) (hto : to = 39 ∨ to = 40) (ha : a < 32) (hn : n ≤ 2048) (Na : Nm ty F a za) (hsa : sm za.natAbs) :
    CI l y_M_raise w_M_raise ({ frames := 2, cells := 0, slots := 0, locals := 51 } : Room) [.ref (ad (98)), .int (iI ((to : Int))), .int (iI ((a : Int))), .int (iI ((n : Int)))] D ty ad M F sz (fun r F1 => ((sm (za.natAbs ^ n) ∧ r = iI 1 ∧ Nm ty F1 to (za ^ n)) ∨ (¬ sm (za.natAbs ^ n) ∧ r = iI 0)) ∧ kp ty F F1 (fun c => c = to ∨ c = 41) ∧ frM F F1) := by
  refine Met.ofW (cc := b_M_raise) (maxL := 5) (ret := (some .boolean)) (by decide) rfl ?_
  intro p e s m args below meth c s₁ B hml hv
  obtain ⟨rfl, hsz, hP, hK, hD0⟩ := hv
  have hx := B.exec
  have hb := B.bytes
  have hr := B.returns
  have hts := atoms_spec (ws := w_M_raise) B.pre
  have hq : ∀ w ∈ wT, w.before _ s = true := fun w h => hts w (List.mem_cons_of_mem _ h)
  have hown : s.vm.findClass R_M = some m.cls := findClass_of_methodNamed B.named
  have hlocks := B.notSynchronized
  subst hsz
  have hw := pw_start hP hK hD0
  have hl := lv_entry ([.ref (ad (98)), .int (iI ((to : Int))), .int (iI ((a : Int))), .int (iI ((n : Int)))]) (n := 5) (Nat.le_of_ble_eq_true rfl)
  rw [lg_entry_eq]
  generalize (lg_sl ([.ref (ad (98)), .int (iI ((to : Int))), .int (iI ((a : Int))), .int (iI ((n : Int)))]) ++ List.replicate (5 - (lg_sl ([.ref (ad (98)), .int (iI ((to : Int))), .int (iI ((a : Int))), .int (iI ((n : Int)))])).length) Slot.unset).toArray = ls at hl ⊢
  have hl : lv_has ls 5 [(0, .ref (ad (98))), (1, .int (iI ((to : Int)))), (2, .int (iI ((a : Int)))), (3, .int (iI ((n : Int))))] := hl
  change W p l e ({ frames := 2, cells := 0, slots := 0, locals := 51 } : Room) s m ([.ref (ad (98)), .int (iI ((to : Int))), .int (iI ((a : Int))), .int (iI ((n : Int)))]).toArray below meth c s.heap [] 0 0 (MQ below (va_Qi (fun r F1 => ((sm (za.natAbs ^ n) ∧ r = iI 1 ∧ Nm ty F1 to (za ^ n)) ∨ (¬ sm (za.natAbs ^ n) ∧ r = iI 0)) ∧ kp ty F F1 (fun c => c = to ∨ c = 41) ∧ frM F F1) (pAt D classes (tysL ty) ad M (pA ad M s.heap.size)) (pA ad M s.heap.size)) ([.ref (ad (98)), .int (iI ((to : Int))), .int (iI ((a : Int))), .int (iI ((n : Int)))]).toArray s 0 0 (pA ad M s.heap.size)) (F0 m 0 ls [])
  generalize hQ : MQ below (va_Qi (fun r F1 => ((sm (za.natAbs ^ n) ∧ r = iI 1 ∧ Nm ty F1 to (za ^ n)) ∨ (¬ sm (za.natAbs ^ n) ∧ r = iI 0)) ∧ kp ty F F1 (fun c => c = to ∨ c = 41) ∧ frM F F1) (pAt D classes (tysL ty) ad M (pA ad M s.heap.size)) (pA ad M s.heap.size)) ([.ref (ad (98)), .int (iI ((to : Int))), .int (iI ((a : Int))), .int (iI ((n : Int)))]).toArray s 0 0 (pA ad M s.heap.size) = Q
  obtain ⟨H, hH⟩ : ∃ H, H = s.heap := ⟨_, rfl⟩
  obtain ⟨locs, hlo⟩ : ∃ z : List Loc, z = [] := ⟨_, rfl⟩
  have hw : pw D classes (tysL ty) ad M F (pA ad M s.heap.size) s H locs := by rw [hH, hlo]; exact hw
  have hgo : W p l e ({ frames := 2, cells := 0, slots := 0, locals := 51 } : Room) s m ([.ref (ad (98)), .int (iI ((to : Int))), .int (iI ((a : Int))), .int (iI ((n : Int)))]).toArray below meth c H locs 0 0 Q (F0 m 0 ls []) := by
    refine lv_aload_n hx hb d_M_raise_0 rfl (lv_at hl 0 rfl) ?_
    refine lv_iload_n hx hb d_M_raise_1 rfl (lv_at hl 1 rfl) ?_
    refine lv_lconst (v := iL 1) hx hb d_M_raise_2 (by decide) ?_
    obtain ⟨_, _, _, hA3⟩ := (Na).ma
    refine pw_callv hw (va_runV (As := [.int (iI ((to : Int))), .long (iL (1))]) (rest := []) ⟨hx, hb, hml, hown, hq⟩ (c_M_setLong l D ty ad M F H.size hM (co) (ln) (wr) hO _ _ _ hA3 (to) (by omega) (1) (by omega)) (cwV 2 hq (gV ml_M_30 im_M_setLong se_M_setLong in_M m_M_setLong) rfl rfl rfl (by decide +kernel) ⟨Nat.le_of_ble_eq_true rfl, Nat.le_of_ble_eq_true rfl⟩) (pw_preV hw (by omega) hO rfl) rfl rfl hl.1 rfl (lv_room (Nat.le_of_ble_eq_true rfl)) d_M_raise_3 ⟨Nat.le_of_ble_eq_true rfl, Nat.le_of_ble_eq_true rfl⟩) (fun F3 H locs q3 hw => ?_)
    obtain ⟨Nto, hk3, hf3⟩ := q3
    have hO_at_3 : F3 (98) = .inr (6, [.int (iI (co)), .ref (ad (99)), .ref (ad (100)), .ref (ad (101)), .ref (ad (102)), .int (iI (ln)), .int (iI (wr)), .ref (ad (103))]) := (hf3 (98) (by omega) (by omega) (by omega)).trans hO
    have Na_at_3 : Nm ty F3 (a) (za) := hk3 _ _ (by omega) (by first | omega | (dsimp only; omega)) Na
    refine wz_iconst (n := 0) hx hb d_M_raise_6 ?_
    refine lv_istore (lv' := [(4, .int (iI (0))), (0, .ref (ad (98))), (1, .int (iI ((to : Int)))), (2, .int (iI ((a : Int)))), (3, .int (iI ((n : Int))))]) hx hb d_M_raise_7 hl (by decide) rfl (fun ls hl => ?_)
    have K9 : ∀ (fuel : Nat) (k : Nat) (F9 : Nat → va_E) (H : Heap) (locs : List Loc) (ls : Array Slot), n - k < fuel → (k ≤ n) → (sm (za ^ k).natAbs) → (kp ty F F9 (fun c => c = to ∨ c = 41)) → (frM F F9) → F9 (98) = .inr (6, [.int (iI (co)), .ref (ad (99)), .ref (ad (100)), .ref (ad (101)), .ref (ad (102)), .int (iI (ln)), .int (iI (wr)), .ref (ad (103))]) → Nm ty F9 (a) (za) → Nm ty F9 (to) (za ^ k) → pw D classes (tysL ty) ad M F9 (pA ad M s.heap.size) s H locs → lv_has ls 5 [(0, .ref (ad (98))), (1, .int (iI ((to : Int)))), (2, .int (iI ((a : Int)))), (3, .int (iI ((n : Int)))), (4, .int (iI ((k : Int))))] → W p l e ({ frames := 2, cells := 0, slots := 0, locals := 51 } : Room) s m ([.ref (ad (98)), .int (iI ((to : Int))), .int (iI ((a : Int))), .int (iI ((n : Int)))]).toArray below meth c H locs 0 0 Q (F0 m 9 ls []) := by
      intro fuel
      induction fuel with
      | zero => intro k F9 H locs ls hfuel hk hsm hkp hfr hO Na Nto hw hl; exact absurd hfuel (Nat.not_lt_zero _)
      | succ fuel ih9 =>
        intro k F9 H locs ls hfuel hk hsm hkp hfr hO Na Nto hw hl
        refine lv_iload hx hb d_M_raise_9 (lv_at hl 4 rfl) ?_
        refine lv_iload_n hx hb d_M_raise_11 rfl (lv_at hl 3 rfl) ?_
        refine wz_icmp_ge (tgt := 51) hx hb d_M_raise_12 (by decide) (by omega) (by omega) (by omega) (by omega) (fun c12 => ?_) (fun c12 => ?_)
        · have hkn : k = n := by omega
          subst hkn
          refine wz_iconst (n := 1) hx hb d_M_raise_51 ?_
          rw [← hQ]
          exact pw_zret hx hb hr (by decide) hlocks hw (⟨Or.inl ⟨by rw [← Int.natAbs_pow]; exact hsm, rfl, Nto⟩, (hkp).weak (fun c9 _ h9 => by first | omega | (dsimp only at h9 ⊢; omega)), fun y9 h1 h2 h3 => (rfl).trans (hfr y9 h1 h2 h3)⟩) d_M_raise_52
        · refine lv_aload_n hx hb d_M_raise_15 rfl (lv_at hl 0 rfl) ?_
          refine wz_bipush (n := 41) hx hb d_M_raise_16 (by decide) ?_
          refine lv_iload_n hx hb d_M_raise_18 rfl (lv_at hl 1 rfl) ?_
          refine lv_iload_n hx hb d_M_raise_19 rfl (lv_at hl 2 rfl) ?_
          refine pw_callv hw (va_runV (As := [.int (iI (41)), .int (iI ((to : Int))), .int (iI ((a : Int)))]) (rest := []) ⟨hx, hb, hml, hown, hq⟩ (c_M_times l D ty ad M F9 H.size hM (co) (ln) (wr) hO (41) (to) (a) (za ^ k) (za) (by omega) (by omega) (by omega) (by omega) (by omega) Nto Na ((hsm.mul hsa).toMd)) (cwV 3 hq (gV ml_M_92 im_M_times se_M_times in_M m_M_times) rfl rfl rfl (by decide +kernel) ⟨Nat.le_of_ble_eq_true rfl, Nat.le_of_ble_eq_true rfl⟩) (pw_preV hw (by omega) hO rfl) rfl rfl hl.1 rfl (lv_room (Nat.le_of_ble_eq_true rfl)) d_M_raise_20 ⟨Nat.le_of_ble_eq_true rfl, Nat.le_of_ble_eq_true rfl⟩) (fun F20 H locs q20 hw => ?_)
          obtain ⟨N41, hk20, hf20⟩ := q20
          have hO_at_20 : F20 (98) = .inr (6, [.int (iI (co)), .ref (ad (99)), .ref (ad (100)), .ref (ad (101)), .ref (ad (102)), .int (iI (ln)), .int (iI (wr)), .ref (ad (103))]) := (hf20 (98) (by omega) (by omega) (by omega)).trans hO
          have Na_at_20 : Nm ty F20 (a) (za) := hk20 _ _ (by omega) (by first | omega | (dsimp only; omega)) Na
          have Nto_at_20 : Nm ty F20 (to) (za ^ k) := hk20 _ _ (by omega) (by first | omega | (dsimp only; omega)) Nto
          refine lv_aload_n hx hb d_M_raise_23 rfl (lv_at hl 0 rfl) ?_
          refine pw_get (ci := 6) (C := R_M) (T := T_M) (N := 8) hx hb hq i_M hown hw (by omega) hO_at_20 rfl 2 (by decide) (hq _ fl_M_13) (fun _ h9 => h9) rfl d_M_raise_24 ?_
          refine wz_bipush (n := 41) hx hb d_M_raise_27 (by decide) ?_
          obtain ⟨P29, S29, G29, ⟨a29_99, a29_100, a29_101⟩, ⟨nw, hS29, h329, hD29, ht29, hv29⟩, hG29⟩ := id N41
          have hz29 := bvP_z ht29
          rw [hv29] at hz29
          refine pw_iald (k := 41) hx hb hw 0 (by omega) a29_100 rfl (iI_in (by omega) (by omega) (by omega)) ((iI_cl (by omega) (by omega)).trans (by omega)) d_M_raise_29 ?_
          refine lv_topi (fun x29 ex29 => ?_)
          obtain rfl : x29 = iI ((nw : Int)) := ex29.trans (hS29)
          refine wz_sipush (n := 128) hx hb d_M_raise_30 (by decide) ?_
          have hsw := sm_n hD29 ht29 hv29
          rw [← Int.pow_succ] at hsw
          refine wz_icmp_le (tgt := 38) hx hb d_M_raise_33 (by decide) (by omega) (by omega) (by omega) (by omega) (fun c33 => ?_) (fun c33 => ?_)
          · have hs29 := hsw.mp (by omega)
            refine lv_aload_n hx hb d_M_raise_38 rfl (lv_at hl 0 rfl) ?_
            refine lv_iload_n hx hb d_M_raise_39 rfl (lv_at hl 1 rfl) ?_
            refine wz_bipush (n := 41) hx hb d_M_raise_40 (by decide) ?_
            refine pw_callv hw (va_runV (As := [.int (iI ((to : Int))), .int (iI (41))]) (rest := []) ⟨hx, hb, hml, hown, hq⟩ (c_M_copy l D ty ad M F20 H.size hM (co) (ln) (wr) hO_at_20 (to) (41) (by omega) (by omega) (by omega) ((za ^ k) * za) N41) (cwV 2 hq (gV ml_M_55 im_M_copy se_M_copy in_M m_M_copy) rfl rfl rfl (by decide +kernel) ⟨Nat.le_of_ble_eq_true rfl, Nat.le_of_ble_eq_true rfl⟩) (pw_preV hw (by omega) hO_at_20 rfl) rfl rfl hl.1 rfl (lv_room (Nat.le_of_ble_eq_true rfl)) d_M_raise_42 ⟨Nat.le_of_ble_eq_true rfl, Nat.le_of_ble_eq_true rfl⟩) (fun F42 H locs q42 hw => ?_)
            obtain ⟨Nto, hk42, hf42⟩ := q42
            have hO_at_42 : F42 (98) = .inr (6, [.int (iI (co)), .ref (ad (99)), .ref (ad (100)), .ref (ad (101)), .ref (ad (102)), .int (iI (ln)), .int (iI (wr)), .ref (ad (103))]) := (hf42 (98) (by omega) (by omega) (by omega)).trans hO_at_20
            have Na_at_42 : Nm ty F42 (a) (za) := hk42 _ _ (by omega) (by first | omega | (dsimp only; omega)) Na_at_20
            have N41_at_42 : Nm ty F42 (41) ((za ^ k) * za) := hk42 _ _ (by omega) (by first | omega | (dsimp only; omega)) N41
            refine wz_iinc (z := ((k + 1 : Nat) : Int)) (lv' := [(4, .int (iI (((k + 1 : Nat) : Int)))), (0, .ref (ad (98))), (1, .int (iI ((to : Int)))), (2, .int (iI ((a : Int)))), (3, .int (iI ((n : Int))))]) hx hb d_M_raise_45 hl (k := 4) rfl (by omega) (by decide) rfl (fun ls hl => ?_)
            refine lv_goto (tgt := 9) hx hb d_M_raise_48 (by decide) ?_
            exact ih9 (k + 1) _ _ _ ls (by omega) (by omega) (hs29) ((((hkp).trans hk20).trans hk42).weak (fun c9 _ h9 => by first | omega | (dsimp only at h9 ⊢; omega))) (fun y9 h1 h2 h3 => ((hf42 (y9) (by omega) (by omega) (by omega)).trans (hf20 (y9) (by omega) (by omega) (by omega))).trans (hfr y9 h1 h2 h3)) (hO_at_42) (Na_at_42) (by rw [Int.pow_succ]; exact Nto) hw (lv_sub hl [1, 2, 3, 4, 0] rfl)
          · have hs29 : ¬ sm (za.natAbs ^ (k + 1)) := fun h9 => by
              rw [← Int.natAbs_pow] at h9
              have := hsw.mpr h9
              omega
            refine wz_iconst (n := 0) hx hb d_M_raise_36 ?_
            rw [← hQ]
            exact pw_zret hx hb hr (by decide) hlocks hw (⟨Or.inr ⟨sm_mono (by omega) hs29, rfl⟩, ((hkp).trans hk20).weak (fun c9 _ h9 => by first | omega | (dsimp only at h9 ⊢; omega)), fun y9 h1 h2 h3 => (hf20 (y9) (by omega) (by omega) (by omega)).trans (hfr y9 h1 h2 h3)⟩) d_M_raise_37
    exact K9 _ 0 _ _ _ ls (Nat.lt_succ_self _) (by omega) (by rw [Int.pow_zero]; exact sm_1) ((hk3).weak (fun c9 _ h9 => by first | omega | (dsimp only at h9 ⊢; omega))) (fun y9 h1 h2 h3 => hf3 (y9) (by omega) (by omega) (by omega)) (hO_at_3) (Na_at_3) (by rw [Int.pow_zero]; exact Nto) hw (lv_sub hl [1, 2, 3, 4, 0] rfl)
  rw [hH, hlo] at hgo
  exact hgo
set_option maxHeartbeats 4000000 in
set_option maxRecDepth 100000 in
/-- power(to, a, n) -/
theorem c_M_power (l : Launch) (D : va_G) (ty : Nat → ClassId) (ad : Nat → Nat) (M : Nat) (F : Nat → va_E) (sz : Nat) (hM : 103 < M) (g : Sg) (co : Int) (hMo : Mo ty ad F co g) (hok : okS g) (to : Int) (hto : -2147483648 ≤ to ∧ to < 2147483648) (a : Int) (ha : -2147483648 ≤ a ∧ a < 2147483648) (n : Int) (hn : -2147483648 ≤ n ∧ n < 2147483648) :
    CI l y_M_power w_M_power ({ frames := 5, cells := 0, slots := 0, locals := 127 } : Room) [.ref (ad (98)), .int (iI (to)), .int (iI (a)), .int (iI (n))] D ty ad M F sz (fun r F1 => r = iI (o_power g to a n).2.1 ∧ Mo ty ad F1 (o_power g to a n).1 (o_power g to a n).2.2 ∧ frP F F1) := by
  refine Met.ofW (cc := b_M_power) (maxL := 5) (ret := (some .int)) (by decide) rfl ?_
  intro p e s m args below meth c s₁ B hml hv
  obtain ⟨rfl, hsz, hP, hK, hD0⟩ := hv
  have hx := B.exec
  have hb := B.bytes
  have hr := B.returns
  have hts := atoms_spec (ws := w_M_power) B.pre
  have hq : ∀ w ∈ wT, w.before _ s = true := fun w h => hts w (List.mem_cons_of_mem _ h)
  have hown : s.vm.findClass R_M = some m.cls := findClass_of_methodNamed B.named
  have hlocks := B.notSynchronized
  subst hsz
  have hw := pw_start hP hK hD0
  have hl := lv_entry ([.ref (ad (98)), .int (iI (to)), .int (iI (a)), .int (iI (n))]) (n := 5) (Nat.le_of_ble_eq_true rfl)
  rw [lg_entry_eq]
  generalize (lg_sl ([.ref (ad (98)), .int (iI (to)), .int (iI (a)), .int (iI (n))]) ++ List.replicate (5 - (lg_sl ([.ref (ad (98)), .int (iI (to)), .int (iI (a)), .int (iI (n))])).length) Slot.unset).toArray = ls at hl ⊢
  have hl : lv_has ls 5 [(0, .ref (ad (98))), (1, .int (iI (to))), (2, .int (iI (a))), (3, .int (iI (n)))] := hl
  change W p l e ({ frames := 5, cells := 0, slots := 0, locals := 127 } : Room) s m ([.ref (ad (98)), .int (iI (to)), .int (iI (a)), .int (iI (n))]).toArray below meth c s.heap [] 0 0 (MQ below (va_Qi (fun r F1 => r = iI (o_power g to a n).2.1 ∧ Mo ty ad F1 (o_power g to a n).1 (o_power g to a n).2.2 ∧ frP F F1) (pAt D classes (tysL ty) ad M (pA ad M s.heap.size)) (pA ad M s.heap.size)) ([.ref (ad (98)), .int (iI (to)), .int (iI (a)), .int (iI (n))]).toArray s 0 0 (pA ad M s.heap.size)) (F0 m 0 ls [])
  generalize hQ : MQ below (va_Qi (fun r F1 => r = iI (o_power g to a n).2.1 ∧ Mo ty ad F1 (o_power g to a n).1 (o_power g to a n).2.2 ∧ frP F F1) (pAt D classes (tysL ty) ad M (pA ad M s.heap.size)) (pA ad M s.heap.size)) ([.ref (ad (98)), .int (iI (to)), .int (iI (a)), .int (iI (n))]).toArray s 0 0 (pA ad M s.heap.size) = Q
  obtain ⟨H, hH⟩ : ∃ H, H = s.heap := ⟨_, rfl⟩
  obtain ⟨locs, hlo⟩ : ∃ z : List Loc, z = [] := ⟨_, rfl⟩
  have hw : pw D classes (tysL ty) ad M F (pA ad M s.heap.size) s H locs := by rw [hH, hlo]; exact hw
  have hgo : W p l e ({ frames := 5, cells := 0, slots := 0, locals := 127 } : Room) s m ([.ref (ad (98)), .int (iI (to)), .int (iI (a)), .int (iI (n))]).toArray below meth c H locs 0 0 Q (F0 m 0 ls []) := by
    obtain ⟨hO, hRn, tt, dd, h102, htt, h103⟩ := id hMo
    have N0 := (hRn 0 (by decide)).1
    have hn14 := hok.2.1
    refine lv_aload_n hx hb d_M_power_0 rfl (lv_at hl 0 rfl) ?_
    refine lv_iload_n hx hb d_M_power_1 rfl (lv_at hl 1 rfl) ?_
    refine pw_calli hw (va_runS (As := [.int (iI (to))]) (rest := [.ref (ad (98))]) ⟨hx, hb, hml, hown, hq⟩ (c_M_isRegister l D ty ad M F H.size (to) (by omega)) (va_cwS 1 hq (gS ml_M_86 st_M_isRegister in_M m_M_isRegister) rfl rfl rfl (by decide +kernel) ⟨Nat.le_of_ble_eq_true rfl, Nat.le_of_ble_eq_true rfl⟩) (pw_preS hw) rfl rfl hl.1 rfl (lv_room (Nat.le_of_ble_eq_true rfl)) d_M_power_2 ⟨Nat.le_of_ble_eq_true rfl, Nat.le_of_ble_eq_true rfl⟩) (fun r2 F2 H locs q2 hw => ?_)
    obtain ⟨er2, eF2⟩ := q2
    rw [eF2] at hw
    clear eF2
    subst er2
    have hrg5 := rg_le to
    refine wz_if_eq (tgt := 33) hx hb d_M_power_5 (by decide) (by omega) (by omega) (fun c5 => ?_) (fun c5 => ?_)
    · have hRe : ¬ isR to := rg_z c5
      refine wz_iconst (n := 1) hx hb d_M_power_33 ?_
      refine pw_put (ci := 6) (C := R_M) (T := T_M) (N := 8) (ty := .int) (fs' := [.int (iI (1)), .ref (ad (99)), .ref (ad (100)), .ref (ad (101)), .ref (ad (102)), .int (iI ((nS g : Int))), .int (iI (pS g)), .ref (ad (103))]) hx hb hq i_M ft_M ft_M_ok n_M hown hw (by omega) hO rfl 0 (by decide) (hq _ fl_M_34) (fun _ h9 => h9) rfl (by decide +kernel) rfl rfl (Nat.le_of_ble_eq_true rfl) rfl d_M_power_34 (fun F34 H locs eF34 hw => ?_)
      have m34_98 : F34 (98) = .inr (6, [.int (iI (1)), .ref (ad (99)), .ref (ad (100)), .ref (ad (101)), .ref (ad (102)), .int (iI ((nS g : Int))), .int (iI (pS g)), .ref (ad (103))]) := by rw [eF34]; exact va_up_self ..
      have hRn_at_34 : Rn ty F34 (g) := hRn.m3 (show F34 (99) = F (99) from by rw [eF34]; exact va_up_ne _ _ (by omega)) (show F34 (100) = F (100) from by rw [eF34]; exact va_up_ne _ _ (by omega)) (show F34 (101) = F (101) from by rw [eF34]; exact va_up_ne _ _ (by omega))
      have N0_at_34 : Nm ty F34 (0) (zS g 0) := N0.m3 (show F34 (99) = F (99) from by rw [eF34]; exact va_up_ne _ _ (by omega)) (show F34 (100) = F (100) from by rw [eF34]; exact va_up_ne _ _ (by omega)) (show F34 (101) = F (101) from by rw [eF34]; exact va_up_ne _ _ (by omega))
      have h102_at_34 : F34 (102) = .inl (ty 0, 1400, .inl (tt)) := (show F34 (102) = F (102) from by rw [eF34]; exact va_up_ne _ _ (by omega)).trans h102
      have h103_at_34 : F34 (103) = .inl (ty 0, 700, .inl (dd)) := (show F34 (103) = F (103) from by rw [eF34]; exact va_up_ne _ _ (by omega)).trans h103
      refine lv_aload_n hx hb d_M_power_37 rfl (lv_at hl 0 rfl) ?_
      refine pw_get (ci := 6) (C := R_M) (T := T_M) (N := 8) hx hb hq i_M hown hw (by omega) m34_98 rfl 0 (by decide) (hq _ fl_M_34) (fun _ h9 => h9) rfl d_M_power_38 ?_
      refine wz_if_le (tgt := 46) hx hb d_M_power_41 (by decide) (by omega) (by omega) (fun c41 => ?_) (fun c41 => ?_)
      · exact absurd c41 (by omega)
      · refine wz_iconst (n := 0) hx hb d_M_power_44 ?_
        rw [← hQ]
        exact pw_iret hx hb hr hlocks hw (by
          rw [o_power, cif_neg (fun h9 => by first | exact hRe h9.1.1 | exact hRe h9.1.2 | (have := h9.2; omega))]
          exact ⟨rfl, Mo.mk' ⟨rfl, rfl, rfl⟩ m34_98 hRn_at_34 h102_at_34 htt h103_at_34, fun y9 h1 => show F34 (y9) = F (y9) from by rw [eF34]; exact va_up_ne _ _ (by omega)⟩) d_M_power_45
    · have hRto : isR to := rg_nz c5
      refine lv_iload_n hx hb d_M_power_8 rfl (lv_at hl 2 rfl) ?_
      refine pw_calli hw (va_runS (As := [.int (iI (a))]) (rest := [.ref (ad (98))]) ⟨hx, hb, hml, hown, hq⟩ (c_M_isRegister l D ty ad M F H.size (a) (by omega)) (va_cwS 1 hq (gS ml_M_86 st_M_isRegister in_M m_M_isRegister) rfl rfl rfl (by decide +kernel) ⟨Nat.le_of_ble_eq_true rfl, Nat.le_of_ble_eq_true rfl⟩) (pw_preS hw) rfl rfl hl.1 rfl (lv_room (Nat.le_of_ble_eq_true rfl)) d_M_power_9 ⟨Nat.le_of_ble_eq_true rfl, Nat.le_of_ble_eq_true rfl⟩) (fun r9 F9 H locs q9 hw => ?_)
      obtain ⟨er9, eF9⟩ := q9
      rw [eF9] at hw
      clear eF9
      subst er9
      have hrg12 := rg_le a
      refine wz_if_eq (tgt := 33) hx hb d_M_power_12 (by decide) (by omega) (by omega) (fun c12 => ?_) (fun c12 => ?_)
      · have hRe : ¬ isR a := rg_z c12
        refine wz_iconst (n := 1) hx hb d_M_power_33 ?_
        refine pw_put (ci := 6) (C := R_M) (T := T_M) (N := 8) (ty := .int) (fs' := [.int (iI (1)), .ref (ad (99)), .ref (ad (100)), .ref (ad (101)), .ref (ad (102)), .int (iI ((nS g : Int))), .int (iI (pS g)), .ref (ad (103))]) hx hb hq i_M ft_M ft_M_ok n_M hown hw (by omega) hO rfl 0 (by decide) (hq _ fl_M_34) (fun _ h9 => h9) rfl (by decide +kernel) rfl rfl (Nat.le_of_ble_eq_true rfl) rfl d_M_power_34 (fun F34 H locs eF34 hw => ?_)
        have m34_98 : F34 (98) = .inr (6, [.int (iI (1)), .ref (ad (99)), .ref (ad (100)), .ref (ad (101)), .ref (ad (102)), .int (iI ((nS g : Int))), .int (iI (pS g)), .ref (ad (103))]) := by rw [eF34]; exact va_up_self ..
        have hRn_at_34 : Rn ty F34 (g) := hRn.m3 (show F34 (99) = F (99) from by rw [eF34]; exact va_up_ne _ _ (by omega)) (show F34 (100) = F (100) from by rw [eF34]; exact va_up_ne _ _ (by omega)) (show F34 (101) = F (101) from by rw [eF34]; exact va_up_ne _ _ (by omega))
        have N0_at_34 : Nm ty F34 (0) (zS g 0) := N0.m3 (show F34 (99) = F (99) from by rw [eF34]; exact va_up_ne _ _ (by omega)) (show F34 (100) = F (100) from by rw [eF34]; exact va_up_ne _ _ (by omega)) (show F34 (101) = F (101) from by rw [eF34]; exact va_up_ne _ _ (by omega))
        have h102_at_34 : F34 (102) = .inl (ty 0, 1400, .inl (tt)) := (show F34 (102) = F (102) from by rw [eF34]; exact va_up_ne _ _ (by omega)).trans h102
        have h103_at_34 : F34 (103) = .inl (ty 0, 700, .inl (dd)) := (show F34 (103) = F (103) from by rw [eF34]; exact va_up_ne _ _ (by omega)).trans h103
        refine lv_aload_n hx hb d_M_power_37 rfl (lv_at hl 0 rfl) ?_
        refine pw_get (ci := 6) (C := R_M) (T := T_M) (N := 8) hx hb hq i_M hown hw (by omega) m34_98 rfl 0 (by decide) (hq _ fl_M_34) (fun _ h9 => h9) rfl d_M_power_38 ?_
        refine wz_if_le (tgt := 46) hx hb d_M_power_41 (by decide) (by omega) (by omega) (fun c41 => ?_) (fun c41 => ?_)
        · exact absurd c41 (by omega)
        · refine wz_iconst (n := 0) hx hb d_M_power_44 ?_
          rw [← hQ]
          exact pw_iret hx hb hr hlocks hw (by
            rw [o_power, cif_neg (fun h9 => by first | exact hRe h9.1.1 | exact hRe h9.1.2 | (have := h9.2; omega))]
            exact ⟨rfl, Mo.mk' ⟨rfl, rfl, rfl⟩ m34_98 hRn_at_34 h102_at_34 htt h103_at_34, fun y9 h1 => show F34 (y9) = F (y9) from by rw [eF34]; exact va_up_ne _ _ (by omega)⟩) d_M_power_45
      · have hRa : isR a := rg_nz c12
        refine lv_iload_n hx hb d_M_power_15 rfl (lv_at hl 3 rfl) ?_
        refine wz_sipush (n := -2048) hx hb d_M_power_16 (by decide) ?_
        refine wz_icmp_lt (tgt := 33) hx hb d_M_power_19 (by decide) (by omega) (by omega) (by omega) (by omega) (fun c19 => ?_) (fun c19 => ?_)
        · refine wz_iconst (n := 1) hx hb d_M_power_33 ?_
          refine pw_put (ci := 6) (C := R_M) (T := T_M) (N := 8) (ty := .int) (fs' := [.int (iI (1)), .ref (ad (99)), .ref (ad (100)), .ref (ad (101)), .ref (ad (102)), .int (iI ((nS g : Int))), .int (iI (pS g)), .ref (ad (103))]) hx hb hq i_M ft_M ft_M_ok n_M hown hw (by omega) hO rfl 0 (by decide) (hq _ fl_M_34) (fun _ h9 => h9) rfl (by decide +kernel) rfl rfl (Nat.le_of_ble_eq_true rfl) rfl d_M_power_34 (fun F34 H locs eF34 hw => ?_)
          have m34_98 : F34 (98) = .inr (6, [.int (iI (1)), .ref (ad (99)), .ref (ad (100)), .ref (ad (101)), .ref (ad (102)), .int (iI ((nS g : Int))), .int (iI (pS g)), .ref (ad (103))]) := by rw [eF34]; exact va_up_self ..
          have hRn_at_34 : Rn ty F34 (g) := hRn.m3 (show F34 (99) = F (99) from by rw [eF34]; exact va_up_ne _ _ (by omega)) (show F34 (100) = F (100) from by rw [eF34]; exact va_up_ne _ _ (by omega)) (show F34 (101) = F (101) from by rw [eF34]; exact va_up_ne _ _ (by omega))
          have N0_at_34 : Nm ty F34 (0) (zS g 0) := N0.m3 (show F34 (99) = F (99) from by rw [eF34]; exact va_up_ne _ _ (by omega)) (show F34 (100) = F (100) from by rw [eF34]; exact va_up_ne _ _ (by omega)) (show F34 (101) = F (101) from by rw [eF34]; exact va_up_ne _ _ (by omega))
          have h102_at_34 : F34 (102) = .inl (ty 0, 1400, .inl (tt)) := (show F34 (102) = F (102) from by rw [eF34]; exact va_up_ne _ _ (by omega)).trans h102
          have h103_at_34 : F34 (103) = .inl (ty 0, 700, .inl (dd)) := (show F34 (103) = F (103) from by rw [eF34]; exact va_up_ne _ _ (by omega)).trans h103
          refine lv_aload_n hx hb d_M_power_37 rfl (lv_at hl 0 rfl) ?_
          refine pw_get (ci := 6) (C := R_M) (T := T_M) (N := 8) hx hb hq i_M hown hw (by omega) m34_98 rfl 0 (by decide) (hq _ fl_M_34) (fun _ h9 => h9) rfl d_M_power_38 ?_
          refine wz_if_le (tgt := 46) hx hb d_M_power_41 (by decide) (by omega) (by omega) (fun c41 => ?_) (fun c41 => ?_)
          · exact absurd c41 (by omega)
          · refine wz_iconst (n := 0) hx hb d_M_power_44 ?_
            rw [← hQ]
            exact pw_iret hx hb hr hlocks hw (by
              rw [o_power, cif_neg (fun h9 => by first | exact hRe h9.1.1 | exact hRe h9.1.2 | (have := h9.2; omega))]
              exact ⟨rfl, Mo.mk' ⟨rfl, rfl, rfl⟩ m34_98 hRn_at_34 h102_at_34 htt h103_at_34, fun y9 h1 => show F34 (y9) = F (y9) from by rw [eF34]; exact va_up_ne _ _ (by omega)⟩) d_M_power_45
        · refine lv_iload_n hx hb d_M_power_22 rfl (lv_at hl 3 rfl) ?_
          refine wz_sipush (n := 2048) hx hb d_M_power_23 (by decide) ?_
          refine wz_icmp_gt (tgt := 33) hx hb d_M_power_26 (by decide) (by omega) (by omega) (by omega) (by omega) (fun c26 => ?_) (fun c26 => ?_)
          · refine wz_iconst (n := 1) hx hb d_M_power_33 ?_
            refine pw_put (ci := 6) (C := R_M) (T := T_M) (N := 8) (ty := .int) (fs' := [.int (iI (1)), .ref (ad (99)), .ref (ad (100)), .ref (ad (101)), .ref (ad (102)), .int (iI ((nS g : Int))), .int (iI (pS g)), .ref (ad (103))]) hx hb hq i_M ft_M ft_M_ok n_M hown hw (by omega) hO rfl 0 (by decide) (hq _ fl_M_34) (fun _ h9 => h9) rfl (by decide +kernel) rfl rfl (Nat.le_of_ble_eq_true rfl) rfl d_M_power_34 (fun F34 H locs eF34 hw => ?_)
            have m34_98 : F34 (98) = .inr (6, [.int (iI (1)), .ref (ad (99)), .ref (ad (100)), .ref (ad (101)), .ref (ad (102)), .int (iI ((nS g : Int))), .int (iI (pS g)), .ref (ad (103))]) := by rw [eF34]; exact va_up_self ..
            have hRn_at_34 : Rn ty F34 (g) := hRn.m3 (show F34 (99) = F (99) from by rw [eF34]; exact va_up_ne _ _ (by omega)) (show F34 (100) = F (100) from by rw [eF34]; exact va_up_ne _ _ (by omega)) (show F34 (101) = F (101) from by rw [eF34]; exact va_up_ne _ _ (by omega))
            have N0_at_34 : Nm ty F34 (0) (zS g 0) := N0.m3 (show F34 (99) = F (99) from by rw [eF34]; exact va_up_ne _ _ (by omega)) (show F34 (100) = F (100) from by rw [eF34]; exact va_up_ne _ _ (by omega)) (show F34 (101) = F (101) from by rw [eF34]; exact va_up_ne _ _ (by omega))
            have h102_at_34 : F34 (102) = .inl (ty 0, 1400, .inl (tt)) := (show F34 (102) = F (102) from by rw [eF34]; exact va_up_ne _ _ (by omega)).trans h102
            have h103_at_34 : F34 (103) = .inl (ty 0, 700, .inl (dd)) := (show F34 (103) = F (103) from by rw [eF34]; exact va_up_ne _ _ (by omega)).trans h103
            refine lv_aload_n hx hb d_M_power_37 rfl (lv_at hl 0 rfl) ?_
            refine pw_get (ci := 6) (C := R_M) (T := T_M) (N := 8) hx hb hq i_M hown hw (by omega) m34_98 rfl 0 (by decide) (hq _ fl_M_34) (fun _ h9 => h9) rfl d_M_power_38 ?_
            refine wz_if_le (tgt := 46) hx hb d_M_power_41 (by decide) (by omega) (by omega) (fun c41 => ?_) (fun c41 => ?_)
            · exact absurd c41 (by omega)
            · refine wz_iconst (n := 0) hx hb d_M_power_44 ?_
              rw [← hQ]
              exact pw_iret hx hb hr hlocks hw (by
                rw [o_power, cif_neg (fun h9 => by first | exact hRe h9.1.1 | exact hRe h9.1.2 | (have := h9.2; omega))]
                exact ⟨rfl, Mo.mk' ⟨rfl, rfl, rfl⟩ m34_98 hRn_at_34 h102_at_34 htt h103_at_34, fun y9 h1 => show F34 (y9) = F (y9) from by rw [eF34]; exact va_up_ne _ _ (by omega)⟩) d_M_power_45
          · refine wz_iconst (n := 0) hx hb d_M_power_29 ?_
            refine lv_goto (tgt := 34) hx hb d_M_power_30 (by decide) ?_
            refine pw_put (ci := 6) (C := R_M) (T := T_M) (N := 8) (ty := .int) (fs' := [.int (iI (0)), .ref (ad (99)), .ref (ad (100)), .ref (ad (101)), .ref (ad (102)), .int (iI ((nS g : Int))), .int (iI (pS g)), .ref (ad (103))]) hx hb hq i_M ft_M ft_M_ok n_M hown hw (by omega) hO rfl 0 (by decide) (hq _ fl_M_34) (fun _ h9 => h9) rfl (by decide +kernel) rfl rfl (Nat.le_of_ble_eq_true rfl) rfl d_M_power_34 (fun F34 H locs eF34 hw => ?_)
            have m34_98 : F34 (98) = .inr (6, [.int (iI (0)), .ref (ad (99)), .ref (ad (100)), .ref (ad (101)), .ref (ad (102)), .int (iI ((nS g : Int))), .int (iI (pS g)), .ref (ad (103))]) := by rw [eF34]; exact va_up_self ..
            have hRn_at_34 : Rn ty F34 (g) := hRn.m3 (show F34 (99) = F (99) from by rw [eF34]; exact va_up_ne _ _ (by omega)) (show F34 (100) = F (100) from by rw [eF34]; exact va_up_ne _ _ (by omega)) (show F34 (101) = F (101) from by rw [eF34]; exact va_up_ne _ _ (by omega))
            have N0_at_34 : Nm ty F34 (0) (zS g 0) := N0.m3 (show F34 (99) = F (99) from by rw [eF34]; exact va_up_ne _ _ (by omega)) (show F34 (100) = F (100) from by rw [eF34]; exact va_up_ne _ _ (by omega)) (show F34 (101) = F (101) from by rw [eF34]; exact va_up_ne _ _ (by omega))
            have h102_at_34 : F34 (102) = .inl (ty 0, 1400, .inl (tt)) := (show F34 (102) = F (102) from by rw [eF34]; exact va_up_ne _ _ (by omega)).trans h102
            have h103_at_34 : F34 (103) = .inl (ty 0, 700, .inl (dd)) := (show F34 (103) = F (103) from by rw [eF34]; exact va_up_ne _ _ (by omega)).trans h103
            refine lv_aload_n hx hb d_M_power_37 rfl (lv_at hl 0 rfl) ?_
            refine pw_get (ci := 6) (C := R_M) (T := T_M) (N := 8) hx hb hq i_M hown hw (by omega) m34_98 rfl 0 (by decide) (hq _ fl_M_34) (fun _ h9 => h9) rfl d_M_power_38 ?_
            refine wz_if_le (tgt := 46) hx hb d_M_power_41 (by decide) (by omega) (by omega) (fun c41 => ?_) (fun c41 => ?_)
            · obtain ⟨uto, huto⟩ : ∃ u : Nat, to = (u : Int) := ⟨(to).toNat, by have := hRto.1; omega⟩
              have h16to : uto < 16 := by have := hRto.2; omega
              obtain ⟨ua, hua⟩ : ∃ u : Nat, a = (u : Int) := ⟨(a).toNat, by have := hRa.1; omega⟩
              have h16a : ua < 16 := by have := hRa.2; omega
              rw [huto, hua] at hl
              obtain ⟨nn, hnn⟩ : ∃ nn : Nat, nn = n.natAbs := ⟨_, rfl⟩
              have Nua := (hRn_at_34 ua h16a).1
              have N16ua := (hRn_at_34 ua h16a).2
              refine lv_iload_n hx hb d_M_power_46 rfl (lv_at hl 3 rfl) ?_
              refine wz_if_ge (tgt := 62) hx hb d_M_power_47 (by decide) (by omega) (by omega) (fun c47 => ?_) (fun c47 => ?_)
              · have hd9 : ¬ (n < 0 ∧ zS g ua = 0) := by omega
                refine lv_iload_n hx hb d_M_power_62 rfl (lv_at hl 3 rfl) ?_
                refine wz_if_ge (tgt := 71) hx hb d_M_power_63 (by decide) (by omega) (by omega) (fun c63 => ?_) (fun c63 => ?_)
                · have hn9 : n = (nn : Int) := by omega
                  rw [hn9] at hl
                  refine lv_iload_n hx hb d_M_power_71 rfl (lv_at hl 3 rfl) ?_
                  refine lv_istore (lv' := [(4, .int (iI ((nn : Int)))), (0, .ref (ad (98))), (1, .int (iI ((uto : Int)))), (2, .int (iI ((ua : Int)))), (3, .int (iI ((nn : Int))))]) hx hb d_M_power_72 hl (by decide) rfl (fun ls hl => ?_)
                  refine lv_aload_n hx hb d_M_power_74 rfl (lv_at hl 1 rfl) ?_
                  refine wz_bipush (n := 39) hx hb d_M_power_75 (by decide) ?_
                  refine lv_iload_n hx hb d_M_power_77 rfl (lv_at hl 3 rfl) ?_
                  refine lv_iload hx hb d_M_power_78 (lv_at hl 0 rfl) ?_
                  refine pw_calli hw (va_runV (As := [.int (iI (39)), .int (iI ((ua : Int))), .int (iI ((nn : Int)))]) (rest := []) ⟨hx, hb, hml, hown, hq⟩ (c_M_raise l D ty ad M F34 H.size hM (0) ((nS g : Int)) (pS g) m34_98 39 (ua) nn (zS g ua) (by omega) (by omega) (by omega) Nua ((hok.at h16a).1)) (cwV 3 hq (gV ml_M_114 im_M_raise se_M_raise in_M m_M_raise) rfl rfl rfl (by decide +kernel) ⟨Nat.le_of_ble_eq_true rfl, Nat.le_of_ble_eq_true rfl⟩) (pw_preV hw (by omega) m34_98 rfl) rfl rfl hl.1 rfl (lv_room (Nat.le_of_ble_eq_true rfl)) d_M_power_80 ⟨Nat.le_of_ble_eq_true rfl, Nat.le_of_ble_eq_true rfl⟩) (fun r80 F80 H locs q80 hw => ?_)
                  obtain ⟨hc80, hk80, hf80⟩ := q80
                  have hcb80 := raise_b hc80
                  have hRn_at_80 : Rn ty F80 (g) := hRn_at_34.kq hk80 (fun c9 h8 h9 => by first | omega | (dsimp only at h9; omega))
                  have N0_at_80 : Nm ty F80 (0) (zS g 0) := hk80 _ _ (by omega) (by first | omega | (dsimp only; omega)) N0_at_34
                  have h102_at_80 : F80 (102) = .inl (ty 0, 1400, .inl (tt)) := (hf80 (102) (by omega) (by omega) (by omega)).trans h102_at_34
                  have h103_at_80 : F80 (103) = .inl (ty 0, 700, .inl (dd)) := (hf80 (103) (by omega) (by omega) (by omega)).trans h103_at_34
                  have m34_98_at_80 : F80 (98) = .inr (6, [.int (iI (0)), .ref (ad (99)), .ref (ad (100)), .ref (ad (101)), .ref (ad (102)), .int (iI ((nS g : Int))), .int (iI (pS g)), .ref (ad (103))]) := (hf80 (98) (by omega) (by omega) (by omega)).trans m34_98
                  have Nua_at_80 : Nm ty F80 (ua) (zS g ua) := hk80 _ _ (by omega) (by first | omega | (dsimp only; omega)) Nua
                  have N16ua_at_80 : Nm ty F80 (16 + ua) (((bS g ua : Nat) : Int)) := hk80 _ _ (by omega) (by first | omega | (dsimp only; omega)) N16ua
                  refine lv_if_eq (tgt := 101) hx hb d_M_power_83 (by decide) (fun c83 => ?_) (fun c83 => ?_)
                  · have hbg80 := raise_n hc80 c83
                    refine wz_iconst (n := -1) hx hb d_M_power_101 ?_
                    rw [← hQ]
                    exact pw_iret hx hb hr hlocks hw (by
                      rw [o_power_ok ⟨hRto, hRa⟩ ⟨by omega, by omega⟩ hd9 (u := uto) (x := ua) (by omega) (by omega), pw_big (hok.at h16a).2.2.2 hnn (Or.inl hbg80)]
                      exact ⟨rfl, Mo.mk' ⟨rfl, rfl, rfl⟩ m34_98_at_80 hRn_at_80 h102_at_80 htt h103_at_80, fun y9 h1 => (hf80 (y9) (by omega) (by omega) (by omega)).trans (show F34 (y9) = F (y9) from by rw [eF34]; exact va_up_ne _ _ (by omega))⟩) d_M_power_102
                  · obtain ⟨hsm80, N39⟩ := raise_y hc80 c83
                    refine lv_aload_n hx hb d_M_power_86 rfl (lv_at hl 1 rfl) ?_
                    refine wz_bipush (n := 40) hx hb d_M_power_87 (by decide) ?_
                    refine lv_iload_n hx hb d_M_power_89 rfl (lv_at hl 3 rfl) ?_
                    refine pw_calli hw (va_runS (As := [.int (iI ((ua : Int)))]) (rest := [.int (iI (40)), .ref (ad (98))]) ⟨hx, hb, hml, hown, hq⟩ (c_M_below l D ty ad M F80 H.size (ua) (by omega)) (va_cwS 1 hq (gS ml_M_82 st_M_below in_M m_M_below) rfl rfl rfl (by decide +kernel) ⟨Nat.le_of_ble_eq_true rfl, Nat.le_of_ble_eq_true rfl⟩) (pw_preS hw) rfl rfl hl.1 rfl (lv_room (Nat.le_of_ble_eq_true rfl)) d_M_power_90 ⟨Nat.le_of_ble_eq_true rfl, Nat.le_of_ble_eq_true rfl⟩) (fun r90 F90 H locs q90 hw => ?_)
                    obtain ⟨er90, eF90⟩ := q90
                    rw [eF90] at hw
                    clear eF90
                    subst er90
                    refine lv_iload hx hb d_M_power_93 (lv_at hl 0 rfl) ?_
                    refine pw_calli hw (va_runV (As := [.int (iI (40)), .int (iI (((16 + ua : Nat) : Int))), .int (iI ((nn : Int)))]) (rest := []) ⟨hx, hb, hml, hown, hq⟩ (c_M_raise l D ty ad M F80 H.size hM (0) ((nS g : Int)) (pS g) m34_98_at_80 40 (16 + ua) nn (((bS g ua : Nat) : Int)) (by omega) (by omega) (by omega) N16ua_at_80 ((hok.at h16a).2.1)) (cwV 3 hq (gV ml_M_114 im_M_raise se_M_raise in_M m_M_raise) rfl rfl rfl (by decide +kernel) ⟨Nat.le_of_ble_eq_true rfl, Nat.le_of_ble_eq_true rfl⟩) (pw_preV hw (by omega) m34_98_at_80 rfl) rfl rfl hl.1 rfl (lv_room (Nat.le_of_ble_eq_true rfl)) d_M_power_95 ⟨Nat.le_of_ble_eq_true rfl, Nat.le_of_ble_eq_true rfl⟩) (fun r95 F95 H locs q95 hw => ?_)
                    obtain ⟨hc95, hk95, hf95⟩ := q95
                    have hcb95 := raise_b hc95
                    have hRn_at_95 : Rn ty F95 (g) := hRn_at_80.kq hk95 (fun c9 h8 h9 => by first | omega | (dsimp only at h9; omega))
                    have N0_at_95 : Nm ty F95 (0) (zS g 0) := hk95 _ _ (by omega) (by first | omega | (dsimp only; omega)) N0_at_80
                    have h102_at_95 : F95 (102) = .inl (ty 0, 1400, .inl (tt)) := (hf95 (102) (by omega) (by omega) (by omega)).trans h102_at_80
                    have h103_at_95 : F95 (103) = .inl (ty 0, 700, .inl (dd)) := (hf95 (103) (by omega) (by omega) (by omega)).trans h103_at_80
                    have m34_98_at_95 : F95 (98) = .inr (6, [.int (iI (0)), .ref (ad (99)), .ref (ad (100)), .ref (ad (101)), .ref (ad (102)), .int (iI ((nS g : Int))), .int (iI (pS g)), .ref (ad (103))]) := (hf95 (98) (by omega) (by omega) (by omega)).trans m34_98_at_80
                    have Nua_at_95 : Nm ty F95 (ua) (zS g ua) := hk95 _ _ (by omega) (by first | omega | (dsimp only; omega)) Nua_at_80
                    have N16ua_at_95 : Nm ty F95 (16 + ua) (((bS g ua : Nat) : Int)) := hk95 _ _ (by omega) (by first | omega | (dsimp only; omega)) N16ua_at_80
                    have N39_at_95 : Nm ty F95 (39) (zS g ua ^ nn) := hk95 _ _ (by omega) (by first | omega | (dsimp only; omega)) N39
                    refine lv_if_ne (tgt := 103) hx hb d_M_power_98 (by decide) (fun c98 => ?_) (fun c98 => ?_)
                    · obtain ⟨hsm95, N40⟩ := raise_y hc95 c98
                      refine lv_aload_n hx hb d_M_power_103 rfl (lv_at hl 1 rfl) ?_
                      refine wz_bipush (n := 32) hx hb d_M_power_104 (by decide) ?_
                      refine lv_iload_n hx hb d_M_power_106 rfl (lv_at hl 4 rfl) ?_
                      refine wz_if_ge (tgt := 115) hx hb d_M_power_107 (by decide) (by omega) (by omega) (fun c107 => ?_) (fun c107 => ?_)
                      · refine wz_bipush (n := 39) hx hb d_M_power_115 (by decide) ?_
                        refine pw_callv hw (va_runV (As := [.int (iI (32)), .int (iI (39))]) (rest := []) ⟨hx, hb, hml, hown, hq⟩ (c_M_copy l D ty ad M F95 H.size hM (0) ((nS g : Int)) (pS g) m34_98_at_95 (32) (39) (by omega) (by omega) (by omega) (zS g ua ^ nn) N39_at_95) (cwV 2 hq (gV ml_M_55 im_M_copy se_M_copy in_M m_M_copy) rfl rfl rfl (by decide +kernel) ⟨Nat.le_of_ble_eq_true rfl, Nat.le_of_ble_eq_true rfl⟩) (pw_preV hw (by omega) m34_98_at_95 rfl) rfl rfl hl.1 rfl (lv_room (Nat.le_of_ble_eq_true rfl)) d_M_power_117 ⟨Nat.le_of_ble_eq_true rfl, Nat.le_of_ble_eq_true rfl⟩) (fun F117 H locs q117 hw => ?_)
                        obtain ⟨N32, hk117, hf117⟩ := q117
                        have hRn_at_117 : Rn ty F117 (g) := hRn_at_95.kq hk117 (fun c9 h8 h9 => by first | omega | (dsimp only at h9; omega))
                        have N0_at_117 : Nm ty F117 (0) (zS g 0) := hk117 _ _ (by omega) (by first | omega | (dsimp only; omega)) N0_at_95
                        have h102_at_117 : F117 (102) = .inl (ty 0, 1400, .inl (tt)) := (hf117 (102) (by omega) (by omega) (by omega)).trans h102_at_95
                        have h103_at_117 : F117 (103) = .inl (ty 0, 700, .inl (dd)) := (hf117 (103) (by omega) (by omega) (by omega)).trans h103_at_95
                        have m34_98_at_117 : F117 (98) = .inr (6, [.int (iI (0)), .ref (ad (99)), .ref (ad (100)), .ref (ad (101)), .ref (ad (102)), .int (iI ((nS g : Int))), .int (iI (pS g)), .ref (ad (103))]) := (hf117 (98) (by omega) (by omega) (by omega)).trans m34_98_at_95
                        have Nua_at_117 : Nm ty F117 (ua) (zS g ua) := hk117 _ _ (by omega) (by first | omega | (dsimp only; omega)) Nua_at_95
                        have N16ua_at_117 : Nm ty F117 (16 + ua) (((bS g ua : Nat) : Int)) := hk117 _ _ (by omega) (by first | omega | (dsimp only; omega)) N16ua_at_95
                        have N39_at_117 : Nm ty F117 (39) (zS g ua ^ nn) := hk117 _ _ (by omega) (by first | omega | (dsimp only; omega)) N39_at_95
                        have N40_at_117 : Nm ty F117 (40) (((bS g ua : Nat) : Int) ^ nn) := hk117 _ _ (by omega) (by first | omega | (dsimp only; omega)) N40
                        refine lv_aload_n hx hb d_M_power_120 rfl (lv_at hl 1 rfl) ?_
                        refine wz_bipush (n := 33) hx hb d_M_power_121 (by decide) ?_
                        refine lv_iload_n hx hb d_M_power_123 rfl (lv_at hl 4 rfl) ?_
                        refine wz_if_ge (tgt := 132) hx hb d_M_power_124 (by decide) (by omega) (by omega) (fun c124 => ?_) (fun c124 => ?_)
                        · refine wz_bipush (n := 40) hx hb d_M_power_132 (by decide) ?_
                          refine pw_callv hw (va_runV (As := [.int (iI (33)), .int (iI (40))]) (rest := []) ⟨hx, hb, hml, hown, hq⟩ (c_M_copy l D ty ad M F117 H.size hM (0) ((nS g : Int)) (pS g) m34_98_at_117 (33) (40) (by omega) (by omega) (by omega) (((bS g ua : Nat) : Int) ^ nn) N40_at_117) (cwV 2 hq (gV ml_M_55 im_M_copy se_M_copy in_M m_M_copy) rfl rfl rfl (by decide +kernel) ⟨Nat.le_of_ble_eq_true rfl, Nat.le_of_ble_eq_true rfl⟩) (pw_preV hw (by omega) m34_98_at_117 rfl) rfl rfl hl.1 rfl (lv_room (Nat.le_of_ble_eq_true rfl)) d_M_power_134 ⟨Nat.le_of_ble_eq_true rfl, Nat.le_of_ble_eq_true rfl⟩) (fun F134 H locs q134 hw => ?_)
                          obtain ⟨N33, hk134, hf134⟩ := q134
                          have hRn_at_134 : Rn ty F134 (g) := hRn_at_117.kq hk134 (fun c9 h8 h9 => by first | omega | (dsimp only at h9; omega))
                          have N0_at_134 : Nm ty F134 (0) (zS g 0) := hk134 _ _ (by omega) (by first | omega | (dsimp only; omega)) N0_at_117
                          have h102_at_134 : F134 (102) = .inl (ty 0, 1400, .inl (tt)) := (hf134 (102) (by omega) (by omega) (by omega)).trans h102_at_117
                          have h103_at_134 : F134 (103) = .inl (ty 0, 700, .inl (dd)) := (hf134 (103) (by omega) (by omega) (by omega)).trans h103_at_117
                          have m34_98_at_134 : F134 (98) = .inr (6, [.int (iI (0)), .ref (ad (99)), .ref (ad (100)), .ref (ad (101)), .ref (ad (102)), .int (iI ((nS g : Int))), .int (iI (pS g)), .ref (ad (103))]) := (hf134 (98) (by omega) (by omega) (by omega)).trans m34_98_at_117
                          have Nua_at_134 : Nm ty F134 (ua) (zS g ua) := hk134 _ _ (by omega) (by first | omega | (dsimp only; omega)) Nua_at_117
                          have N16ua_at_134 : Nm ty F134 (16 + ua) (((bS g ua : Nat) : Int)) := hk134 _ _ (by omega) (by first | omega | (dsimp only; omega)) N16ua_at_117
                          have N39_at_134 : Nm ty F134 (39) (zS g ua ^ nn) := hk134 _ _ (by omega) (by first | omega | (dsimp only; omega)) N39_at_117
                          have N40_at_134 : Nm ty F134 (40) (((bS g ua : Nat) : Int) ^ nn) := hk134 _ _ (by omega) (by first | omega | (dsimp only; omega)) N40_at_117
                          have N32_at_134 : Nm ty F134 (32) (zS g ua ^ nn) := hk134 _ _ (by omega) (by first | omega | (dsimp only; omega)) N32
                          refine lv_aload_n hx hb d_M_power_137 rfl (lv_at hl 1 rfl) ?_
                          refine lv_iload_n hx hb d_M_power_138 rfl (lv_at hl 2 rfl) ?_
                          refine pw_calli hw (va_runV (As := [.int (iI ((uto : Int)))]) (rest := []) ⟨hx, hb, hml, hown, hq⟩ (c_M_lay l D ty ad M F134 H.size hM (0) ((nS g : Int)) (pS g) m34_98_at_134 (uto) (zS g ua ^ nn) (((bS g ua : Nat) : Int) ^ nn) (g) (by omega) (pw_b0 (hok.at h16a).2.2.1) N32_at_134 N33 hRn_at_134 (by rw [Int.natAbs_pow]; exact hsm80.toMd) (by rw [Int.natAbs_pow]; exact hsm95.toMd)) (cwV 1 hq (gV ml_M_89 im_M_lay se_M_lay in_M m_M_lay) rfl rfl rfl (by decide +kernel) ⟨Nat.le_of_ble_eq_true rfl, Nat.le_of_ble_eq_true rfl⟩) (pw_preV hw (by omega) m34_98_at_134 rfl) rfl rfl hl.1 rfl (lv_room (Nat.le_of_ble_eq_true rfl)) d_M_power_139 ⟨Nat.le_of_ble_eq_true rfl, Nat.le_of_ble_eq_true rfl⟩) (fun r139 F139 H locs q139 hw => ?_)
                          obtain ⟨er139, hRn, hf139⟩ := q139
                          have h102_at_139 : F139 (102) = .inl (ty 0, 1400, .inl (tt)) := (hf139 (102) (by omega) (by omega) (by omega)).trans h102_at_134
                          have h103_at_139 : F139 (103) = .inl (ty 0, 700, .inl (dd)) := (hf139 (103) (by omega) (by omega) (by omega)).trans h103_at_134
                          have m34_98_at_139 : F139 (98) = .inr (6, [.int (iI (0)), .ref (ad (99)), .ref (ad (100)), .ref (ad (101)), .ref (ad (102)), .int (iI ((nS g : Int))), .int (iI (pS g)), .ref (ad (103))]) := (hf139 (98) (by omega) (by omega) (by omega)).trans m34_98_at_134
                          rw [← hQ]
                          exact pw_iret hx hb hr hlocks hw (by
                            rw [o_power_ok ⟨hRto, hRa⟩ ⟨by omega, by omega⟩ hd9 (u := uto) (x := ua) (by omega) (by omega), pw_pos9 (by omega) hnn]
                            rw [flz_n (pw_nn _ _), pw_abs] at er139 hRn
                            exact ⟨er139, Mo.mk' (s_lay_t ..) m34_98_at_139 hRn h102_at_139 htt h103_at_139, fun y9 h1 => (hf139 (y9) (by omega) (by omega) (by omega)).trans ((hf134 (y9) (by omega) (by omega) (by omega)).trans ((hf117 (y9) (by omega) (by omega) (by omega)).trans ((hf95 (y9) (by omega) (by omega) (by omega)).trans ((hf80 (y9) (by omega) (by omega) (by omega)).trans (show F34 (y9) = F (y9) from by rw [eF34]; exact va_up_ne _ _ (by omega))))))⟩) d_M_power_142
                        · exact absurd c124 (by omega)
                      · exact absurd c107 (by omega)
                    · have hbg95 := raise_n hc95 c98
                      refine wz_iconst (n := -1) hx hb d_M_power_101 ?_
                      rw [← hQ]
                      exact pw_iret hx hb hr hlocks hw (by
                        rw [o_power_ok ⟨hRto, hRa⟩ ⟨by omega, by omega⟩ hd9 (u := uto) (x := ua) (by omega) (by omega), pw_big (hok.at h16a).2.2.2 hnn (Or.inr hbg95)]
                        exact ⟨rfl, Mo.mk' ⟨rfl, rfl, rfl⟩ m34_98_at_95 hRn_at_95 h102_at_95 htt h103_at_95, fun y9 h1 => (hf95 (y9) (by omega) (by omega) (by omega)).trans ((hf80 (y9) (by omega) (by omega) (by omega)).trans (show F34 (y9) = F (y9) from by rw [eF34]; exact va_up_ne _ _ (by omega)))⟩) d_M_power_102
                · exact absurd c63 (by omega)
              · refine lv_aload_n hx hb d_M_power_50 rfl (lv_at hl 0 rfl) ?_
                refine pw_get (ci := 6) (C := R_M) (T := T_M) (N := 8) hx hb hq i_M hown hw (by omega) m34_98 rfl 2 (by decide) (hq _ fl_M_13) (fun _ h9 => h9) rfl d_M_power_51 ?_
                refine lv_iload_n hx hb d_M_power_54 rfl (lv_at hl 2 rfl) ?_
                obtain ⟨P55, S55, G55, ⟨a55_99, a55_100, a55_101⟩, ⟨ns, hS55, h355, hD55, ht55, hv55⟩, hG55⟩ := id Nua
                have hz55 := bvP_z ht55
                rw [hv55] at hz55
                refine pw_iald (k := ua) hx hb hw 0 (by omega) a55_100 rfl (iI_in (by omega) (by omega) (by omega)) ((iI_cl (by omega) (by omega)).trans (by omega)) d_M_power_55 ?_
                refine lv_topi (fun x55 ex55 => ?_)
                obtain rfl : x55 = iI ((ns : Int)) := ex55.trans (hS55)
                refine wz_if_ne (tgt := 62) hx hb d_M_power_56 (by decide) (by omega) (by omega) (fun c56 => ?_) (fun c56 => ?_)
                · have hd9 : ¬ (n < 0 ∧ zS g ua = 0) := by omega
                  refine lv_iload_n hx hb d_M_power_62 rfl (lv_at hl 3 rfl) ?_
                  refine wz_if_ge (tgt := 71) hx hb d_M_power_63 (by decide) (by omega) (by omega) (fun c63 => ?_) (fun c63 => ?_)
                  · exact absurd c63 (by omega)
                  · refine lv_iload_n hx hb d_M_power_66 rfl (lv_at hl 3 rfl) ?_
                    refine wz_ineg (z := (nn : Int)) hx hb d_M_power_67 (by omega) ?_
                    refine lv_goto (tgt := 72) hx hb d_M_power_68 (by decide) ?_
                    refine lv_istore (lv' := [(4, .int (iI ((nn : Int)))), (0, .ref (ad (98))), (1, .int (iI ((uto : Int)))), (2, .int (iI ((ua : Int)))), (3, .int (iI (n)))]) hx hb d_M_power_72 hl (by decide) rfl (fun ls hl => ?_)
                    refine lv_aload_n hx hb d_M_power_74 rfl (lv_at hl 1 rfl) ?_
                    refine wz_bipush (n := 39) hx hb d_M_power_75 (by decide) ?_
                    refine lv_iload_n hx hb d_M_power_77 rfl (lv_at hl 3 rfl) ?_
                    refine lv_iload hx hb d_M_power_78 (lv_at hl 0 rfl) ?_
                    refine pw_calli hw (va_runV (As := [.int (iI (39)), .int (iI ((ua : Int))), .int (iI ((nn : Int)))]) (rest := []) ⟨hx, hb, hml, hown, hq⟩ (c_M_raise l D ty ad M F34 H.size hM (0) ((nS g : Int)) (pS g) m34_98 39 (ua) nn (zS g ua) (by omega) (by omega) (by omega) Nua ((hok.at h16a).1)) (cwV 3 hq (gV ml_M_114 im_M_raise se_M_raise in_M m_M_raise) rfl rfl rfl (by decide +kernel) ⟨Nat.le_of_ble_eq_true rfl, Nat.le_of_ble_eq_true rfl⟩) (pw_preV hw (by omega) m34_98 rfl) rfl rfl hl.1 rfl (lv_room (Nat.le_of_ble_eq_true rfl)) d_M_power_80 ⟨Nat.le_of_ble_eq_true rfl, Nat.le_of_ble_eq_true rfl⟩) (fun r80 F80 H locs q80 hw => ?_)
                    obtain ⟨hc80, hk80, hf80⟩ := q80
                    have hcb80 := raise_b hc80
                    have hRn_at_80 : Rn ty F80 (g) := hRn_at_34.kq hk80 (fun c9 h8 h9 => by first | omega | (dsimp only at h9; omega))
                    have N0_at_80 : Nm ty F80 (0) (zS g 0) := hk80 _ _ (by omega) (by first | omega | (dsimp only; omega)) N0_at_34
                    have h102_at_80 : F80 (102) = .inl (ty 0, 1400, .inl (tt)) := (hf80 (102) (by omega) (by omega) (by omega)).trans h102_at_34
                    have h103_at_80 : F80 (103) = .inl (ty 0, 700, .inl (dd)) := (hf80 (103) (by omega) (by omega) (by omega)).trans h103_at_34
                    have m34_98_at_80 : F80 (98) = .inr (6, [.int (iI (0)), .ref (ad (99)), .ref (ad (100)), .ref (ad (101)), .ref (ad (102)), .int (iI ((nS g : Int))), .int (iI (pS g)), .ref (ad (103))]) := (hf80 (98) (by omega) (by omega) (by omega)).trans m34_98
                    have Nua_at_80 : Nm ty F80 (ua) (zS g ua) := hk80 _ _ (by omega) (by first | omega | (dsimp only; omega)) Nua
                    have N16ua_at_80 : Nm ty F80 (16 + ua) (((bS g ua : Nat) : Int)) := hk80 _ _ (by omega) (by first | omega | (dsimp only; omega)) N16ua
                    refine lv_if_eq (tgt := 101) hx hb d_M_power_83 (by decide) (fun c83 => ?_) (fun c83 => ?_)
                    · have hbg80 := raise_n hc80 c83
                      refine wz_iconst (n := -1) hx hb d_M_power_101 ?_
                      rw [← hQ]
                      exact pw_iret hx hb hr hlocks hw (by
                        rw [o_power_ok ⟨hRto, hRa⟩ ⟨by omega, by omega⟩ hd9 (u := uto) (x := ua) (by omega) (by omega), pw_big (hok.at h16a).2.2.2 hnn (Or.inl hbg80)]
                        exact ⟨rfl, Mo.mk' ⟨rfl, rfl, rfl⟩ m34_98_at_80 hRn_at_80 h102_at_80 htt h103_at_80, fun y9 h1 => (hf80 (y9) (by omega) (by omega) (by omega)).trans (show F34 (y9) = F (y9) from by rw [eF34]; exact va_up_ne _ _ (by omega))⟩) d_M_power_102
                    · obtain ⟨hsm80, N39⟩ := raise_y hc80 c83
                      refine lv_aload_n hx hb d_M_power_86 rfl (lv_at hl 1 rfl) ?_
                      refine wz_bipush (n := 40) hx hb d_M_power_87 (by decide) ?_
                      refine lv_iload_n hx hb d_M_power_89 rfl (lv_at hl 3 rfl) ?_
                      refine pw_calli hw (va_runS (As := [.int (iI ((ua : Int)))]) (rest := [.int (iI (40)), .ref (ad (98))]) ⟨hx, hb, hml, hown, hq⟩ (c_M_below l D ty ad M F80 H.size (ua) (by omega)) (va_cwS 1 hq (gS ml_M_82 st_M_below in_M m_M_below) rfl rfl rfl (by decide +kernel) ⟨Nat.le_of_ble_eq_true rfl, Nat.le_of_ble_eq_true rfl⟩) (pw_preS hw) rfl rfl hl.1 rfl (lv_room (Nat.le_of_ble_eq_true rfl)) d_M_power_90 ⟨Nat.le_of_ble_eq_true rfl, Nat.le_of_ble_eq_true rfl⟩) (fun r90 F90 H locs q90 hw => ?_)
                      obtain ⟨er90, eF90⟩ := q90
                      rw [eF90] at hw
                      clear eF90
                      subst er90
                      refine lv_iload hx hb d_M_power_93 (lv_at hl 0 rfl) ?_
                      refine pw_calli hw (va_runV (As := [.int (iI (40)), .int (iI (((16 + ua : Nat) : Int))), .int (iI ((nn : Int)))]) (rest := []) ⟨hx, hb, hml, hown, hq⟩ (c_M_raise l D ty ad M F80 H.size hM (0) ((nS g : Int)) (pS g) m34_98_at_80 40 (16 + ua) nn (((bS g ua : Nat) : Int)) (by omega) (by omega) (by omega) N16ua_at_80 ((hok.at h16a).2.1)) (cwV 3 hq (gV ml_M_114 im_M_raise se_M_raise in_M m_M_raise) rfl rfl rfl (by decide +kernel) ⟨Nat.le_of_ble_eq_true rfl, Nat.le_of_ble_eq_true rfl⟩) (pw_preV hw (by omega) m34_98_at_80 rfl) rfl rfl hl.1 rfl (lv_room (Nat.le_of_ble_eq_true rfl)) d_M_power_95 ⟨Nat.le_of_ble_eq_true rfl, Nat.le_of_ble_eq_true rfl⟩) (fun r95 F95 H locs q95 hw => ?_)
                      obtain ⟨hc95, hk95, hf95⟩ := q95
                      have hcb95 := raise_b hc95
                      have hRn_at_95 : Rn ty F95 (g) := hRn_at_80.kq hk95 (fun c9 h8 h9 => by first | omega | (dsimp only at h9; omega))
                      have N0_at_95 : Nm ty F95 (0) (zS g 0) := hk95 _ _ (by omega) (by first | omega | (dsimp only; omega)) N0_at_80
                      have h102_at_95 : F95 (102) = .inl (ty 0, 1400, .inl (tt)) := (hf95 (102) (by omega) (by omega) (by omega)).trans h102_at_80
                      have h103_at_95 : F95 (103) = .inl (ty 0, 700, .inl (dd)) := (hf95 (103) (by omega) (by omega) (by omega)).trans h103_at_80
                      have m34_98_at_95 : F95 (98) = .inr (6, [.int (iI (0)), .ref (ad (99)), .ref (ad (100)), .ref (ad (101)), .ref (ad (102)), .int (iI ((nS g : Int))), .int (iI (pS g)), .ref (ad (103))]) := (hf95 (98) (by omega) (by omega) (by omega)).trans m34_98_at_80
                      have Nua_at_95 : Nm ty F95 (ua) (zS g ua) := hk95 _ _ (by omega) (by first | omega | (dsimp only; omega)) Nua_at_80
                      have N16ua_at_95 : Nm ty F95 (16 + ua) (((bS g ua : Nat) : Int)) := hk95 _ _ (by omega) (by first | omega | (dsimp only; omega)) N16ua_at_80
                      have N39_at_95 : Nm ty F95 (39) (zS g ua ^ nn) := hk95 _ _ (by omega) (by first | omega | (dsimp only; omega)) N39
                      refine lv_if_ne (tgt := 103) hx hb d_M_power_98 (by decide) (fun c98 => ?_) (fun c98 => ?_)
                      · obtain ⟨hsm95, N40⟩ := raise_y hc95 c98
                        refine lv_aload_n hx hb d_M_power_103 rfl (lv_at hl 1 rfl) ?_
                        refine wz_bipush (n := 32) hx hb d_M_power_104 (by decide) ?_
                        refine lv_iload_n hx hb d_M_power_106 rfl (lv_at hl 4 rfl) ?_
                        refine wz_if_ge (tgt := 115) hx hb d_M_power_107 (by decide) (by omega) (by omega) (fun c107 => ?_) (fun c107 => ?_)
                        · exact absurd c107 (by omega)
                        · refine wz_bipush (n := 40) hx hb d_M_power_110 (by decide) ?_
                          refine lv_goto (tgt := 117) hx hb d_M_power_112 (by decide) ?_
                          refine pw_callv hw (va_runV (As := [.int (iI (32)), .int (iI (40))]) (rest := []) ⟨hx, hb, hml, hown, hq⟩ (c_M_copy l D ty ad M F95 H.size hM (0) ((nS g : Int)) (pS g) m34_98_at_95 (32) (40) (by omega) (by omega) (by omega) (((bS g ua : Nat) : Int) ^ nn) N40) (cwV 2 hq (gV ml_M_55 im_M_copy se_M_copy in_M m_M_copy) rfl rfl rfl (by decide +kernel) ⟨Nat.le_of_ble_eq_true rfl, Nat.le_of_ble_eq_true rfl⟩) (pw_preV hw (by omega) m34_98_at_95 rfl) rfl rfl hl.1 rfl (lv_room (Nat.le_of_ble_eq_true rfl)) d_M_power_117 ⟨Nat.le_of_ble_eq_true rfl, Nat.le_of_ble_eq_true rfl⟩) (fun F117 H locs q117 hw => ?_)
                          obtain ⟨N32, hk117, hf117⟩ := q117
                          have hRn_at_117 : Rn ty F117 (g) := hRn_at_95.kq hk117 (fun c9 h8 h9 => by first | omega | (dsimp only at h9; omega))
                          have N0_at_117 : Nm ty F117 (0) (zS g 0) := hk117 _ _ (by omega) (by first | omega | (dsimp only; omega)) N0_at_95
                          have h102_at_117 : F117 (102) = .inl (ty 0, 1400, .inl (tt)) := (hf117 (102) (by omega) (by omega) (by omega)).trans h102_at_95
                          have h103_at_117 : F117 (103) = .inl (ty 0, 700, .inl (dd)) := (hf117 (103) (by omega) (by omega) (by omega)).trans h103_at_95
                          have m34_98_at_117 : F117 (98) = .inr (6, [.int (iI (0)), .ref (ad (99)), .ref (ad (100)), .ref (ad (101)), .ref (ad (102)), .int (iI ((nS g : Int))), .int (iI (pS g)), .ref (ad (103))]) := (hf117 (98) (by omega) (by omega) (by omega)).trans m34_98_at_95
                          have Nua_at_117 : Nm ty F117 (ua) (zS g ua) := hk117 _ _ (by omega) (by first | omega | (dsimp only; omega)) Nua_at_95
                          have N16ua_at_117 : Nm ty F117 (16 + ua) (((bS g ua : Nat) : Int)) := hk117 _ _ (by omega) (by first | omega | (dsimp only; omega)) N16ua_at_95
                          have N39_at_117 : Nm ty F117 (39) (zS g ua ^ nn) := hk117 _ _ (by omega) (by first | omega | (dsimp only; omega)) N39_at_95
                          have N40_at_117 : Nm ty F117 (40) (((bS g ua : Nat) : Int) ^ nn) := hk117 _ _ (by omega) (by first | omega | (dsimp only; omega)) N40
                          refine lv_aload_n hx hb d_M_power_120 rfl (lv_at hl 1 rfl) ?_
                          refine wz_bipush (n := 33) hx hb d_M_power_121 (by decide) ?_
                          refine lv_iload_n hx hb d_M_power_123 rfl (lv_at hl 4 rfl) ?_
                          refine wz_if_ge (tgt := 132) hx hb d_M_power_124 (by decide) (by omega) (by omega) (fun c124 => ?_) (fun c124 => ?_)
                          · exact absurd c124 (by omega)
                          · refine wz_bipush (n := 39) hx hb d_M_power_127 (by decide) ?_
                            refine lv_goto (tgt := 134) hx hb d_M_power_129 (by decide) ?_
                            refine pw_callv hw (va_runV (As := [.int (iI (33)), .int (iI (39))]) (rest := []) ⟨hx, hb, hml, hown, hq⟩ (c_M_copy l D ty ad M F117 H.size hM (0) ((nS g : Int)) (pS g) m34_98_at_117 (33) (39) (by omega) (by omega) (by omega) (zS g ua ^ nn) N39_at_117) (cwV 2 hq (gV ml_M_55 im_M_copy se_M_copy in_M m_M_copy) rfl rfl rfl (by decide +kernel) ⟨Nat.le_of_ble_eq_true rfl, Nat.le_of_ble_eq_true rfl⟩) (pw_preV hw (by omega) m34_98_at_117 rfl) rfl rfl hl.1 rfl (lv_room (Nat.le_of_ble_eq_true rfl)) d_M_power_134 ⟨Nat.le_of_ble_eq_true rfl, Nat.le_of_ble_eq_true rfl⟩) (fun F134 H locs q134 hw => ?_)
                            obtain ⟨N33, hk134, hf134⟩ := q134
                            have hRn_at_134 : Rn ty F134 (g) := hRn_at_117.kq hk134 (fun c9 h8 h9 => by first | omega | (dsimp only at h9; omega))
                            have N0_at_134 : Nm ty F134 (0) (zS g 0) := hk134 _ _ (by omega) (by first | omega | (dsimp only; omega)) N0_at_117
                            have h102_at_134 : F134 (102) = .inl (ty 0, 1400, .inl (tt)) := (hf134 (102) (by omega) (by omega) (by omega)).trans h102_at_117
                            have h103_at_134 : F134 (103) = .inl (ty 0, 700, .inl (dd)) := (hf134 (103) (by omega) (by omega) (by omega)).trans h103_at_117
                            have m34_98_at_134 : F134 (98) = .inr (6, [.int (iI (0)), .ref (ad (99)), .ref (ad (100)), .ref (ad (101)), .ref (ad (102)), .int (iI ((nS g : Int))), .int (iI (pS g)), .ref (ad (103))]) := (hf134 (98) (by omega) (by omega) (by omega)).trans m34_98_at_117
                            have Nua_at_134 : Nm ty F134 (ua) (zS g ua) := hk134 _ _ (by omega) (by first | omega | (dsimp only; omega)) Nua_at_117
                            have N16ua_at_134 : Nm ty F134 (16 + ua) (((bS g ua : Nat) : Int)) := hk134 _ _ (by omega) (by first | omega | (dsimp only; omega)) N16ua_at_117
                            have N39_at_134 : Nm ty F134 (39) (zS g ua ^ nn) := hk134 _ _ (by omega) (by first | omega | (dsimp only; omega)) N39_at_117
                            have N40_at_134 : Nm ty F134 (40) (((bS g ua : Nat) : Int) ^ nn) := hk134 _ _ (by omega) (by first | omega | (dsimp only; omega)) N40_at_117
                            have N32_at_134 : Nm ty F134 (32) (((bS g ua : Nat) : Int) ^ nn) := hk134 _ _ (by omega) (by first | omega | (dsimp only; omega)) N32
                            refine lv_aload_n hx hb d_M_power_137 rfl (lv_at hl 1 rfl) ?_
                            refine lv_iload_n hx hb d_M_power_138 rfl (lv_at hl 2 rfl) ?_
                            refine pw_calli hw (va_runV (As := [.int (iI ((uto : Int)))]) (rest := []) ⟨hx, hb, hml, hown, hq⟩ (c_M_lay l D ty ad M F134 H.size hM (0) ((nS g : Int)) (pS g) m34_98_at_134 (uto) (((bS g ua : Nat) : Int) ^ nn) (zS g ua ^ nn) (g) (by omega) (pw_z0 hd9 hnn (by omega)) N32_at_134 N33 hRn_at_134 (by rw [Int.natAbs_pow]; exact hsm95.toMd) (by rw [Int.natAbs_pow]; exact hsm80.toMd)) (cwV 1 hq (gV ml_M_89 im_M_lay se_M_lay in_M m_M_lay) rfl rfl rfl (by decide +kernel) ⟨Nat.le_of_ble_eq_true rfl, Nat.le_of_ble_eq_true rfl⟩) (pw_preV hw (by omega) m34_98_at_134 rfl) rfl rfl hl.1 rfl (lv_room (Nat.le_of_ble_eq_true rfl)) d_M_power_139 ⟨Nat.le_of_ble_eq_true rfl, Nat.le_of_ble_eq_true rfl⟩) (fun r139 F139 H locs q139 hw => ?_)
                            obtain ⟨er139, hRn, hf139⟩ := q139
                            have h102_at_139 : F139 (102) = .inl (ty 0, 1400, .inl (tt)) := (hf139 (102) (by omega) (by omega) (by omega)).trans h102_at_134
                            have h103_at_139 : F139 (103) = .inl (ty 0, 700, .inl (dd)) := (hf139 (103) (by omega) (by omega) (by omega)).trans h103_at_134
                            have m34_98_at_139 : F139 (98) = .inr (6, [.int (iI (0)), .ref (ad (99)), .ref (ad (100)), .ref (ad (101)), .ref (ad (102)), .int (iI ((nS g : Int))), .int (iI (pS g)), .ref (ad (103))]) := (hf139 (98) (by omega) (by omega) (by omega)).trans m34_98_at_134
                            rw [← hQ]
                            exact pw_iret hx hb hr hlocks hw (by
                              rw [o_power_ok ⟨hRto, hRa⟩ ⟨by omega, by omega⟩ hd9 (u := uto) (x := ua) (by omega) (by omega), pw_neg (by omega) hnn]
                              rw [← Int.natCast_pow, Int.natAbs_pow] at er139 hRn
                              exact ⟨er139, Mo.mk' (s_lay_t ..) m34_98_at_139 hRn h102_at_139 htt h103_at_139, fun y9 h1 => (hf139 (y9) (by omega) (by omega) (by omega)).trans ((hf134 (y9) (by omega) (by omega) (by omega)).trans ((hf117 (y9) (by omega) (by omega) (by omega)).trans ((hf95 (y9) (by omega) (by omega) (by omega)).trans ((hf80 (y9) (by omega) (by omega) (by omega)).trans (show F34 (y9) = F (y9) from by rw [eF34]; exact va_up_ne _ _ (by omega))))))⟩) d_M_power_142
                      · have hbg95 := raise_n hc95 c98
                        refine wz_iconst (n := -1) hx hb d_M_power_101 ?_
                        rw [← hQ]
                        exact pw_iret hx hb hr hlocks hw (by
                          rw [o_power_ok ⟨hRto, hRa⟩ ⟨by omega, by omega⟩ hd9 (u := uto) (x := ua) (by omega) (by omega), pw_big (hok.at h16a).2.2.2 hnn (Or.inr hbg95)]
                          exact ⟨rfl, Mo.mk' ⟨rfl, rfl, rfl⟩ m34_98_at_95 hRn_at_95 h102_at_95 htt h103_at_95, fun y9 h1 => (hf95 (y9) (by omega) (by omega) (by omega)).trans ((hf80 (y9) (by omega) (by omega) (by omega)).trans (show F34 (y9) = F (y9) from by rw [eF34]; exact va_up_ne _ _ (by omega)))⟩) d_M_power_102
                · have hd9 : n < 0 ∧ zS g ua = 0 := by omega
                  refine wz_bipush (n := -2) hx hb d_M_power_59 (by decide) ?_
                  rw [← hQ]
                  exact pw_iret hx hb hr hlocks hw (by
                    rw [o_power, cif_pos ⟨⟨hRto, hRa⟩, by omega, by omega⟩, show a.toNat = ua by omega, cif_pos hd9]
                    exact ⟨rfl, Mo.mk' ⟨rfl, rfl, rfl⟩ m34_98 hRn_at_34 h102_at_34 htt h103_at_34, fun y9 h1 => show F34 (y9) = F (y9) from by rw [eF34]; exact va_up_ne _ _ (by omega)⟩) d_M_power_61
            · exact absurd c41 (by omega)
  rw [hH, hlo] at hgo
  exact hgo
set_option maxHeartbeats 4000000 in
set_option maxRecDepth 100000 in
/-- change(to, kind, a) -/
theorem c_M_change (l : Launch) (D : va_G) (ty : Nat → ClassId) (ad : Nat → Nat) (M : Nat) (F : Nat → va_E) (sz : Nat) (hM : 103 < M) (g : Sg) (co : Int) (hMo : Mo ty ad F co g) (hok : okS g) (to : Int) (hto : -2147483648 ≤ to ∧ to < 2147483648) (kd : Int) (hkd : -2147483648 ≤ kd ∧ kd < 2147483648) (a : Int) (ha : -2147483648 ≤ a ∧ a < 2147483648) :
    CI l y_M_change w_M_change ({ frames := 5, cells := 0, slots := 0, locals := 127 } : Room) [.ref (ad (98)), .int (iI (to)), .int (iI (kd)), .int (iI (a))] D ty ad M F sz (fun r F1 => r = iI (o_change g to kd a).2.1 ∧ Mo ty ad F1 (o_change g to kd a).1 (o_change g to kd a).2.2 ∧ frP F F1) := by
  refine Met.ofW (cc := b_M_change) (maxL := 4) (ret := (some .int)) (by decide) rfl ?_
  intro p e s m args below meth c s₁ B hml hv
  obtain ⟨rfl, hsz, hP, hK, hD0⟩ := hv
  have hx := B.exec
  have hb := B.bytes
  have hr := B.returns
  have hts := atoms_spec (ws := w_M_change) B.pre
  have hq : ∀ w ∈ wT, w.before _ s = true := fun w h => hts w (List.mem_cons_of_mem _ h)
  have hown : s.vm.findClass R_M = some m.cls := findClass_of_methodNamed B.named
  have hlocks := B.notSynchronized
  subst hsz
  have hw := pw_start hP hK hD0
  have hl := lv_entry ([.ref (ad (98)), .int (iI (to)), .int (iI (kd)), .int (iI (a))]) (n := 4) (Nat.le_of_ble_eq_true rfl)
  rw [lg_entry_eq]
  generalize (lg_sl ([.ref (ad (98)), .int (iI (to)), .int (iI (kd)), .int (iI (a))]) ++ List.replicate (4 - (lg_sl ([.ref (ad (98)), .int (iI (to)), .int (iI (kd)), .int (iI (a))])).length) Slot.unset).toArray = ls at hl ⊢
  have hl : lv_has ls 4 [(0, .ref (ad (98))), (1, .int (iI (to))), (2, .int (iI (kd))), (3, .int (iI (a)))] := hl
  change W p l e ({ frames := 5, cells := 0, slots := 0, locals := 127 } : Room) s m ([.ref (ad (98)), .int (iI (to)), .int (iI (kd)), .int (iI (a))]).toArray below meth c s.heap [] 0 0 (MQ below (va_Qi (fun r F1 => r = iI (o_change g to kd a).2.1 ∧ Mo ty ad F1 (o_change g to kd a).1 (o_change g to kd a).2.2 ∧ frP F F1) (pAt D classes (tysL ty) ad M (pA ad M s.heap.size)) (pA ad M s.heap.size)) ([.ref (ad (98)), .int (iI (to)), .int (iI (kd)), .int (iI (a))]).toArray s 0 0 (pA ad M s.heap.size)) (F0 m 0 ls [])
  generalize hQ : MQ below (va_Qi (fun r F1 => r = iI (o_change g to kd a).2.1 ∧ Mo ty ad F1 (o_change g to kd a).1 (o_change g to kd a).2.2 ∧ frP F F1) (pAt D classes (tysL ty) ad M (pA ad M s.heap.size)) (pA ad M s.heap.size)) ([.ref (ad (98)), .int (iI (to)), .int (iI (kd)), .int (iI (a))]).toArray s 0 0 (pA ad M s.heap.size) = Q
  obtain ⟨H, hH⟩ : ∃ H, H = s.heap := ⟨_, rfl⟩
  obtain ⟨locs, hlo⟩ : ∃ z : List Loc, z = [] := ⟨_, rfl⟩
  have hw : pw D classes (tysL ty) ad M F (pA ad M s.heap.size) s H locs := by rw [hH, hlo]; exact hw
  have hgo : W p l e ({ frames := 5, cells := 0, slots := 0, locals := 127 } : Room) s m ([.ref (ad (98)), .int (iI (to)), .int (iI (kd)), .int (iI (a))]).toArray below meth c H locs 0 0 Q (F0 m 0 ls []) := by
    obtain ⟨hO, hRn, tt, dd, h102, htt, h103⟩ := id hMo
    have N0 := (hRn 0 (by decide)).1
    have hn14 := hok.2.1
    refine lv_aload_n hx hb d_M_change_0 rfl (lv_at hl 0 rfl) ?_
    refine lv_iload_n hx hb d_M_change_1 rfl (lv_at hl 1 rfl) ?_
    refine pw_calli hw (va_runS (As := [.int (iI (to))]) (rest := [.ref (ad (98))]) ⟨hx, hb, hml, hown, hq⟩ (c_M_isRegister l D ty ad M F H.size (to) (by omega)) (va_cwS 1 hq (gS ml_M_86 st_M_isRegister in_M m_M_isRegister) rfl rfl rfl (by decide +kernel) ⟨Nat.le_of_ble_eq_true rfl, Nat.le_of_ble_eq_true rfl⟩) (pw_preS hw) rfl rfl hl.1 rfl (lv_room (Nat.le_of_ble_eq_true rfl)) d_M_change_2 ⟨Nat.le_of_ble_eq_true rfl, Nat.le_of_ble_eq_true rfl⟩) (fun r2 F2 H locs q2 hw => ?_)
    obtain ⟨er2, eF2⟩ := q2
    rw [eF2] at hw
    clear eF2
    subst er2
    have hrg5 := rg_le to
    refine wz_if_eq (tgt := 29) hx hb d_M_change_5 (by decide) (by omega) (by omega) (fun c5 => ?_) (fun c5 => ?_)
    · have hRe : ¬ isR to := rg_z c5
      refine wz_iconst (n := 1) hx hb d_M_change_29 ?_
      refine pw_put (ci := 6) (C := R_M) (T := T_M) (N := 8) (ty := .int) (fs' := [.int (iI (1)), .ref (ad (99)), .ref (ad (100)), .ref (ad (101)), .ref (ad (102)), .int (iI ((nS g : Int))), .int (iI (pS g)), .ref (ad (103))]) hx hb hq i_M ft_M ft_M_ok n_M hown hw (by omega) hO rfl 0 (by decide) (hq _ fl_M_34) (fun _ h9 => h9) rfl (by decide +kernel) rfl rfl (Nat.le_of_ble_eq_true rfl) rfl d_M_change_30 (fun F30 H locs eF30 hw => ?_)
      have m30_98 : F30 (98) = .inr (6, [.int (iI (1)), .ref (ad (99)), .ref (ad (100)), .ref (ad (101)), .ref (ad (102)), .int (iI ((nS g : Int))), .int (iI (pS g)), .ref (ad (103))]) := by rw [eF30]; exact va_up_self ..
      have hRn_at_30 : Rn ty F30 (g) := hRn.m3 (show F30 (99) = F (99) from by rw [eF30]; exact va_up_ne _ _ (by omega)) (show F30 (100) = F (100) from by rw [eF30]; exact va_up_ne _ _ (by omega)) (show F30 (101) = F (101) from by rw [eF30]; exact va_up_ne _ _ (by omega))
      have N0_at_30 : Nm ty F30 (0) (zS g 0) := N0.m3 (show F30 (99) = F (99) from by rw [eF30]; exact va_up_ne _ _ (by omega)) (show F30 (100) = F (100) from by rw [eF30]; exact va_up_ne _ _ (by omega)) (show F30 (101) = F (101) from by rw [eF30]; exact va_up_ne _ _ (by omega))
      have h102_at_30 : F30 (102) = .inl (ty 0, 1400, .inl (tt)) := (show F30 (102) = F (102) from by rw [eF30]; exact va_up_ne _ _ (by omega)).trans h102
      have h103_at_30 : F30 (103) = .inl (ty 0, 700, .inl (dd)) := (show F30 (103) = F (103) from by rw [eF30]; exact va_up_ne _ _ (by omega)).trans h103
      refine lv_aload_n hx hb d_M_change_33 rfl (lv_at hl 0 rfl) ?_
      refine pw_get (ci := 6) (C := R_M) (T := T_M) (N := 8) hx hb hq i_M hown hw (by omega) m30_98 rfl 0 (by decide) (hq _ fl_M_34) (fun _ h9 => h9) rfl d_M_change_34 ?_
      refine wz_if_le (tgt := 42) hx hb d_M_change_37 (by decide) (by omega) (by omega) (fun c37 => ?_) (fun c37 => ?_)
      · exact absurd c37 (by omega)
      · refine wz_iconst (n := 0) hx hb d_M_change_40 ?_
        rw [← hQ]
        exact pw_iret hx hb hr hlocks hw (by
          rw [o_change, cif_neg (fun h9 => by first | exact hRe h9.1.1 | exact hRe h9.1.2 | (have := h9.2; omega))]
          exact ⟨rfl, Mo.mk' ⟨rfl, rfl, rfl⟩ m30_98 hRn_at_30 h102_at_30 htt h103_at_30, fun y9 h1 => show F30 (y9) = F (y9) from by rw [eF30]; exact va_up_ne _ _ (by omega)⟩) d_M_change_41
    · have hRto : isR to := rg_nz c5
      refine lv_iload_n hx hb d_M_change_8 rfl (lv_at hl 3 rfl) ?_
      refine pw_calli hw (va_runS (As := [.int (iI (a))]) (rest := [.ref (ad (98))]) ⟨hx, hb, hml, hown, hq⟩ (c_M_isRegister l D ty ad M F H.size (a) (by omega)) (va_cwS 1 hq (gS ml_M_86 st_M_isRegister in_M m_M_isRegister) rfl rfl rfl (by decide +kernel) ⟨Nat.le_of_ble_eq_true rfl, Nat.le_of_ble_eq_true rfl⟩) (pw_preS hw) rfl rfl hl.1 rfl (lv_room (Nat.le_of_ble_eq_true rfl)) d_M_change_9 ⟨Nat.le_of_ble_eq_true rfl, Nat.le_of_ble_eq_true rfl⟩) (fun r9 F9 H locs q9 hw => ?_)
      obtain ⟨er9, eF9⟩ := q9
      rw [eF9] at hw
      clear eF9
      subst er9
      have hrg12 := rg_le a
      refine wz_if_eq (tgt := 29) hx hb d_M_change_12 (by decide) (by omega) (by omega) (fun c12 => ?_) (fun c12 => ?_)
      · have hRe : ¬ isR a := rg_z c12
        refine wz_iconst (n := 1) hx hb d_M_change_29 ?_
        refine pw_put (ci := 6) (C := R_M) (T := T_M) (N := 8) (ty := .int) (fs' := [.int (iI (1)), .ref (ad (99)), .ref (ad (100)), .ref (ad (101)), .ref (ad (102)), .int (iI ((nS g : Int))), .int (iI (pS g)), .ref (ad (103))]) hx hb hq i_M ft_M ft_M_ok n_M hown hw (by omega) hO rfl 0 (by decide) (hq _ fl_M_34) (fun _ h9 => h9) rfl (by decide +kernel) rfl rfl (Nat.le_of_ble_eq_true rfl) rfl d_M_change_30 (fun F30 H locs eF30 hw => ?_)
        have m30_98 : F30 (98) = .inr (6, [.int (iI (1)), .ref (ad (99)), .ref (ad (100)), .ref (ad (101)), .ref (ad (102)), .int (iI ((nS g : Int))), .int (iI (pS g)), .ref (ad (103))]) := by rw [eF30]; exact va_up_self ..
        have hRn_at_30 : Rn ty F30 (g) := hRn.m3 (show F30 (99) = F (99) from by rw [eF30]; exact va_up_ne _ _ (by omega)) (show F30 (100) = F (100) from by rw [eF30]; exact va_up_ne _ _ (by omega)) (show F30 (101) = F (101) from by rw [eF30]; exact va_up_ne _ _ (by omega))
        have N0_at_30 : Nm ty F30 (0) (zS g 0) := N0.m3 (show F30 (99) = F (99) from by rw [eF30]; exact va_up_ne _ _ (by omega)) (show F30 (100) = F (100) from by rw [eF30]; exact va_up_ne _ _ (by omega)) (show F30 (101) = F (101) from by rw [eF30]; exact va_up_ne _ _ (by omega))
        have h102_at_30 : F30 (102) = .inl (ty 0, 1400, .inl (tt)) := (show F30 (102) = F (102) from by rw [eF30]; exact va_up_ne _ _ (by omega)).trans h102
        have h103_at_30 : F30 (103) = .inl (ty 0, 700, .inl (dd)) := (show F30 (103) = F (103) from by rw [eF30]; exact va_up_ne _ _ (by omega)).trans h103
        refine lv_aload_n hx hb d_M_change_33 rfl (lv_at hl 0 rfl) ?_
        refine pw_get (ci := 6) (C := R_M) (T := T_M) (N := 8) hx hb hq i_M hown hw (by omega) m30_98 rfl 0 (by decide) (hq _ fl_M_34) (fun _ h9 => h9) rfl d_M_change_34 ?_
        refine wz_if_le (tgt := 42) hx hb d_M_change_37 (by decide) (by omega) (by omega) (fun c37 => ?_) (fun c37 => ?_)
        · exact absurd c37 (by omega)
        · refine wz_iconst (n := 0) hx hb d_M_change_40 ?_
          rw [← hQ]
          exact pw_iret hx hb hr hlocks hw (by
            rw [o_change, cif_neg (fun h9 => by first | exact hRe h9.1.1 | exact hRe h9.1.2 | (have := h9.2; omega))]
            exact ⟨rfl, Mo.mk' ⟨rfl, rfl, rfl⟩ m30_98 hRn_at_30 h102_at_30 htt h103_at_30, fun y9 h1 => show F30 (y9) = F (y9) from by rw [eF30]; exact va_up_ne _ _ (by omega)⟩) d_M_change_41
      · have hRa : isR a := rg_nz c12
        refine lv_iload_n hx hb d_M_change_15 rfl (lv_at hl 2 rfl) ?_
        refine wz_if_lt (tgt := 29) hx hb d_M_change_16 (by decide) (by omega) (by omega) (fun c16 => ?_) (fun c16 => ?_)
        · refine wz_iconst (n := 1) hx hb d_M_change_29 ?_
          refine pw_put (ci := 6) (C := R_M) (T := T_M) (N := 8) (ty := .int) (fs' := [.int (iI (1)), .ref (ad (99)), .ref (ad (100)), .ref (ad (101)), .ref (ad (102)), .int (iI ((nS g : Int))), .int (iI (pS g)), .ref (ad (103))]) hx hb hq i_M ft_M ft_M_ok n_M hown hw (by omega) hO rfl 0 (by decide) (hq _ fl_M_34) (fun _ h9 => h9) rfl (by decide +kernel) rfl rfl (Nat.le_of_ble_eq_true rfl) rfl d_M_change_30 (fun F30 H locs eF30 hw => ?_)
          have m30_98 : F30 (98) = .inr (6, [.int (iI (1)), .ref (ad (99)), .ref (ad (100)), .ref (ad (101)), .ref (ad (102)), .int (iI ((nS g : Int))), .int (iI (pS g)), .ref (ad (103))]) := by rw [eF30]; exact va_up_self ..
          have hRn_at_30 : Rn ty F30 (g) := hRn.m3 (show F30 (99) = F (99) from by rw [eF30]; exact va_up_ne _ _ (by omega)) (show F30 (100) = F (100) from by rw [eF30]; exact va_up_ne _ _ (by omega)) (show F30 (101) = F (101) from by rw [eF30]; exact va_up_ne _ _ (by omega))
          have N0_at_30 : Nm ty F30 (0) (zS g 0) := N0.m3 (show F30 (99) = F (99) from by rw [eF30]; exact va_up_ne _ _ (by omega)) (show F30 (100) = F (100) from by rw [eF30]; exact va_up_ne _ _ (by omega)) (show F30 (101) = F (101) from by rw [eF30]; exact va_up_ne _ _ (by omega))
          have h102_at_30 : F30 (102) = .inl (ty 0, 1400, .inl (tt)) := (show F30 (102) = F (102) from by rw [eF30]; exact va_up_ne _ _ (by omega)).trans h102
          have h103_at_30 : F30 (103) = .inl (ty 0, 700, .inl (dd)) := (show F30 (103) = F (103) from by rw [eF30]; exact va_up_ne _ _ (by omega)).trans h103
          refine lv_aload_n hx hb d_M_change_33 rfl (lv_at hl 0 rfl) ?_
          refine pw_get (ci := 6) (C := R_M) (T := T_M) (N := 8) hx hb hq i_M hown hw (by omega) m30_98 rfl 0 (by decide) (hq _ fl_M_34) (fun _ h9 => h9) rfl d_M_change_34 ?_
          refine wz_if_le (tgt := 42) hx hb d_M_change_37 (by decide) (by omega) (by omega) (fun c37 => ?_) (fun c37 => ?_)
          · exact absurd c37 (by omega)
          · refine wz_iconst (n := 0) hx hb d_M_change_40 ?_
            rw [← hQ]
            exact pw_iret hx hb hr hlocks hw (by
              rw [o_change, cif_neg (fun h9 => by first | exact hRe h9.1.1 | exact hRe h9.1.2 | (have := h9.2; omega))]
              exact ⟨rfl, Mo.mk' ⟨rfl, rfl, rfl⟩ m30_98 hRn_at_30 h102_at_30 htt h103_at_30, fun y9 h1 => show F30 (y9) = F (y9) from by rw [eF30]; exact va_up_ne _ _ (by omega)⟩) d_M_change_41
        · refine lv_iload_n hx hb d_M_change_19 rfl (lv_at hl 2 rfl) ?_
          refine wz_bipush (n := 6) hx hb d_M_change_20 (by decide) ?_
          refine wz_icmp_gt (tgt := 29) hx hb d_M_change_22 (by decide) (by omega) (by omega) (by omega) (by omega) (fun c22 => ?_) (fun c22 => ?_)
          · refine wz_iconst (n := 1) hx hb d_M_change_29 ?_
            refine pw_put (ci := 6) (C := R_M) (T := T_M) (N := 8) (ty := .int) (fs' := [.int (iI (1)), .ref (ad (99)), .ref (ad (100)), .ref (ad (101)), .ref (ad (102)), .int (iI ((nS g : Int))), .int (iI (pS g)), .ref (ad (103))]) hx hb hq i_M ft_M ft_M_ok n_M hown hw (by omega) hO rfl 0 (by decide) (hq _ fl_M_34) (fun _ h9 => h9) rfl (by decide +kernel) rfl rfl (Nat.le_of_ble_eq_true rfl) rfl d_M_change_30 (fun F30 H locs eF30 hw => ?_)
            have m30_98 : F30 (98) = .inr (6, [.int (iI (1)), .ref (ad (99)), .ref (ad (100)), .ref (ad (101)), .ref (ad (102)), .int (iI ((nS g : Int))), .int (iI (pS g)), .ref (ad (103))]) := by rw [eF30]; exact va_up_self ..
            have hRn_at_30 : Rn ty F30 (g) := hRn.m3 (show F30 (99) = F (99) from by rw [eF30]; exact va_up_ne _ _ (by omega)) (show F30 (100) = F (100) from by rw [eF30]; exact va_up_ne _ _ (by omega)) (show F30 (101) = F (101) from by rw [eF30]; exact va_up_ne _ _ (by omega))
            have N0_at_30 : Nm ty F30 (0) (zS g 0) := N0.m3 (show F30 (99) = F (99) from by rw [eF30]; exact va_up_ne _ _ (by omega)) (show F30 (100) = F (100) from by rw [eF30]; exact va_up_ne _ _ (by omega)) (show F30 (101) = F (101) from by rw [eF30]; exact va_up_ne _ _ (by omega))
            have h102_at_30 : F30 (102) = .inl (ty 0, 1400, .inl (tt)) := (show F30 (102) = F (102) from by rw [eF30]; exact va_up_ne _ _ (by omega)).trans h102
            have h103_at_30 : F30 (103) = .inl (ty 0, 700, .inl (dd)) := (show F30 (103) = F (103) from by rw [eF30]; exact va_up_ne _ _ (by omega)).trans h103
            refine lv_aload_n hx hb d_M_change_33 rfl (lv_at hl 0 rfl) ?_
            refine pw_get (ci := 6) (C := R_M) (T := T_M) (N := 8) hx hb hq i_M hown hw (by omega) m30_98 rfl 0 (by decide) (hq _ fl_M_34) (fun _ h9 => h9) rfl d_M_change_34 ?_
            refine wz_if_le (tgt := 42) hx hb d_M_change_37 (by decide) (by omega) (by omega) (fun c37 => ?_) (fun c37 => ?_)
            · exact absurd c37 (by omega)
            · refine wz_iconst (n := 0) hx hb d_M_change_40 ?_
              rw [← hQ]
              exact pw_iret hx hb hr hlocks hw (by
                rw [o_change, cif_neg (fun h9 => by first | exact hRe h9.1.1 | exact hRe h9.1.2 | (have := h9.2; omega))]
                exact ⟨rfl, Mo.mk' ⟨rfl, rfl, rfl⟩ m30_98 hRn_at_30 h102_at_30 htt h103_at_30, fun y9 h1 => show F30 (y9) = F (y9) from by rw [eF30]; exact va_up_ne _ _ (by omega)⟩) d_M_change_41
          · refine wz_iconst (n := 0) hx hb d_M_change_25 ?_
            refine lv_goto (tgt := 30) hx hb d_M_change_26 (by decide) ?_
            refine pw_put (ci := 6) (C := R_M) (T := T_M) (N := 8) (ty := .int) (fs' := [.int (iI (0)), .ref (ad (99)), .ref (ad (100)), .ref (ad (101)), .ref (ad (102)), .int (iI ((nS g : Int))), .int (iI (pS g)), .ref (ad (103))]) hx hb hq i_M ft_M ft_M_ok n_M hown hw (by omega) hO rfl 0 (by decide) (hq _ fl_M_34) (fun _ h9 => h9) rfl (by decide +kernel) rfl rfl (Nat.le_of_ble_eq_true rfl) rfl d_M_change_30 (fun F30 H locs eF30 hw => ?_)
            have m30_98 : F30 (98) = .inr (6, [.int (iI (0)), .ref (ad (99)), .ref (ad (100)), .ref (ad (101)), .ref (ad (102)), .int (iI ((nS g : Int))), .int (iI (pS g)), .ref (ad (103))]) := by rw [eF30]; exact va_up_self ..
            have hRn_at_30 : Rn ty F30 (g) := hRn.m3 (show F30 (99) = F (99) from by rw [eF30]; exact va_up_ne _ _ (by omega)) (show F30 (100) = F (100) from by rw [eF30]; exact va_up_ne _ _ (by omega)) (show F30 (101) = F (101) from by rw [eF30]; exact va_up_ne _ _ (by omega))
            have N0_at_30 : Nm ty F30 (0) (zS g 0) := N0.m3 (show F30 (99) = F (99) from by rw [eF30]; exact va_up_ne _ _ (by omega)) (show F30 (100) = F (100) from by rw [eF30]; exact va_up_ne _ _ (by omega)) (show F30 (101) = F (101) from by rw [eF30]; exact va_up_ne _ _ (by omega))
            have h102_at_30 : F30 (102) = .inl (ty 0, 1400, .inl (tt)) := (show F30 (102) = F (102) from by rw [eF30]; exact va_up_ne _ _ (by omega)).trans h102
            have h103_at_30 : F30 (103) = .inl (ty 0, 700, .inl (dd)) := (show F30 (103) = F (103) from by rw [eF30]; exact va_up_ne _ _ (by omega)).trans h103
            refine lv_aload_n hx hb d_M_change_33 rfl (lv_at hl 0 rfl) ?_
            refine pw_get (ci := 6) (C := R_M) (T := T_M) (N := 8) hx hb hq i_M hown hw (by omega) m30_98 rfl 0 (by decide) (hq _ fl_M_34) (fun _ h9 => h9) rfl d_M_change_34 ?_
            refine wz_if_le (tgt := 42) hx hb d_M_change_37 (by decide) (by omega) (by omega) (fun c37 => ?_) (fun c37 => ?_)
            · obtain ⟨uto, huto⟩ : ∃ u : Nat, to = (u : Int) := ⟨(to).toNat, by have := hRto.1; omega⟩
              have h16to : uto < 16 := by have := hRto.2; omega
              obtain ⟨ua, hua⟩ : ∃ u : Nat, a = (u : Int) := ⟨(a).toNat, by have := hRa.1; omega⟩
              have h16a : ua < 16 := by have := hRa.2; omega
              rw [huto, hua] at hl
              have Nua := (hRn_at_30 ua h16a).1
              have N16ua := (hRn_at_30 ua h16a).2
              have hxb := (hok.at h16a).2.2.1
              have hmx : md (zS g ua).natAbs := (hok.at h16a).1.toMd
              have hmb : md (bS g ua) := (hok.at h16a).2.1.toMd
              refine lv_iload_n hx hb d_M_change_42 rfl (lv_at hl 2 rfl) ?_
              refine wz_iconst (n := 2) hx hb d_M_change_43 ?_
              have K59 : ∀  (F59 : Nat → va_E) (H : Heap) (locs : List Loc) (ls : Array Slot), (¬ (kd = 2 ∧ zS g ua = 0)) → (∀ y, y ≠ 98 → F59 y = F y) → F59 (98) = .inr (6, [.int (iI (0)), .ref (ad (99)), .ref (ad (100)), .ref (ad (101)), .ref (ad (102)), .int (iI ((nS g : Int))), .int (iI (pS g)), .ref (ad (103))]) → Rn ty F59 (g) → Nm ty F59 (ua) (zS g ua) → Nm ty F59 (16 + ua) (((bS g ua : Nat) : Int)) → F59 (102) = .inl (ty 0, 1400, .inl (tt)) → F59 (103) = .inl (ty 0, 700, .inl (dd)) → pw D classes (tysL ty) ad M F59 (pA ad M s.heap.size) s H locs → lv_has ls 4 [(0, .ref (ad (98))), (1, .int (iI ((uto : Int)))), (2, .int (iI (kd))), (3, .int (iI ((ua : Int))))] → W p l e ({ frames := 5, cells := 0, slots := 0, locals := 127 } : Room) s m ([.ref (ad (98)), .int (iI (to)), .int (iI (kd)), .int (iI (a))]).toArray below meth c H locs 0 0 Q (F0 m 59 ls []) := by
                intro F59 H locs ls hd9 hfr hO hRn Nua N16ua h102 h103 hw hl
                refine lv_aload_n hx hb d_M_change_59 rfl (lv_at hl 0 rfl) ?_
                refine wz_bipush (n := 32) hx hb d_M_change_60 (by decide) ?_
                refine lv_iload_n hx hb d_M_change_62 rfl (lv_at hl 3 rfl) ?_
                refine pw_callv hw (va_runV (As := [.int (iI (32)), .int (iI ((ua : Int)))]) (rest := []) ⟨hx, hb, hml, hown, hq⟩ (c_M_copy l D ty ad M F59 H.size hM (0) ((nS g : Int)) (pS g) hO (32) (ua) (by omega) (by omega) (by omega) (zS g ua) Nua) (cwV 2 hq (gV ml_M_55 im_M_copy se_M_copy in_M m_M_copy) rfl rfl rfl (by decide +kernel) ⟨Nat.le_of_ble_eq_true rfl, Nat.le_of_ble_eq_true rfl⟩) (pw_preV hw (by omega) hO rfl) rfl rfl hl.1 rfl (lv_room (Nat.le_of_ble_eq_true rfl)) d_M_change_63 ⟨Nat.le_of_ble_eq_true rfl, Nat.le_of_ble_eq_true rfl⟩) (fun F63 H locs q63 hw => ?_)
                obtain ⟨N32, hk63, hf63⟩ := q63
                have hO_at_63 : F63 (98) = .inr (6, [.int (iI (0)), .ref (ad (99)), .ref (ad (100)), .ref (ad (101)), .ref (ad (102)), .int (iI ((nS g : Int))), .int (iI (pS g)), .ref (ad (103))]) := (hf63 (98) (by omega) (by omega) (by omega)).trans hO
                have hRn_at_63 : Rn ty F63 (g) := hRn.kq hk63 (fun c9 h8 h9 => by first | omega | (dsimp only at h9; omega))
                have Nua_at_63 : Nm ty F63 (ua) (zS g ua) := hk63 _ _ (by omega) (by first | omega | (dsimp only; omega)) Nua
                have N16ua_at_63 : Nm ty F63 (16 + ua) (((bS g ua : Nat) : Int)) := hk63 _ _ (by omega) (by first | omega | (dsimp only; omega)) N16ua
                have h102_at_63 : F63 (102) = .inl (ty 0, 1400, .inl (tt)) := (hf63 (102) (by omega) (by omega) (by omega)).trans h102
                have h103_at_63 : F63 (103) = .inl (ty 0, 700, .inl (dd)) := (hf63 (103) (by omega) (by omega) (by omega)).trans h103
                refine lv_aload_n hx hb d_M_change_66 rfl (lv_at hl 0 rfl) ?_
                refine wz_bipush (n := 33) hx hb d_M_change_67 (by decide) ?_
                refine lv_iload_n hx hb d_M_change_69 rfl (lv_at hl 3 rfl) ?_
                refine pw_calli hw (va_runS (As := [.int (iI ((ua : Int)))]) (rest := [.int (iI (33)), .ref (ad (98))]) ⟨hx, hb, hml, hown, hq⟩ (c_M_below l D ty ad M F63 H.size (ua) (by omega)) (va_cwS 1 hq (gS ml_M_82 st_M_below in_M m_M_below) rfl rfl rfl (by decide +kernel) ⟨Nat.le_of_ble_eq_true rfl, Nat.le_of_ble_eq_true rfl⟩) (pw_preS hw) rfl rfl hl.1 rfl (lv_room (Nat.le_of_ble_eq_true rfl)) d_M_change_70 ⟨Nat.le_of_ble_eq_true rfl, Nat.le_of_ble_eq_true rfl⟩) (fun r70 F70 H locs q70 hw => ?_)
                obtain ⟨er70, eF70⟩ := q70
                rw [eF70] at hw
                clear eF70
                subst er70
                refine pw_callv hw (va_runV (As := [.int (iI (33)), .int (iI (((16 + ua : Nat) : Int)))]) (rest := []) ⟨hx, hb, hml, hown, hq⟩ (c_M_copy l D ty ad M F63 H.size hM (0) ((nS g : Int)) (pS g) hO_at_63 (33) (16 + ua) (by omega) (by omega) (by omega) (((bS g ua : Nat) : Int)) N16ua_at_63) (cwV 2 hq (gV ml_M_55 im_M_copy se_M_copy in_M m_M_copy) rfl rfl rfl (by decide +kernel) ⟨Nat.le_of_ble_eq_true rfl, Nat.le_of_ble_eq_true rfl⟩) (pw_preV hw (by omega) hO_at_63 rfl) rfl rfl hl.1 rfl (lv_room (Nat.le_of_ble_eq_true rfl)) d_M_change_73 ⟨Nat.le_of_ble_eq_true rfl, Nat.le_of_ble_eq_true rfl⟩) (fun F73 H locs q73 hw => ?_)
                obtain ⟨N33, hk73, hf73⟩ := q73
                have hO_at_73 : F73 (98) = .inr (6, [.int (iI (0)), .ref (ad (99)), .ref (ad (100)), .ref (ad (101)), .ref (ad (102)), .int (iI ((nS g : Int))), .int (iI (pS g)), .ref (ad (103))]) := (hf73 (98) (by omega) (by omega) (by omega)).trans hO_at_63
                have hRn_at_73 : Rn ty F73 (g) := hRn_at_63.kq hk73 (fun c9 h8 h9 => by first | omega | (dsimp only at h9; omega))
                have Nua_at_73 : Nm ty F73 (ua) (zS g ua) := hk73 _ _ (by omega) (by first | omega | (dsimp only; omega)) Nua_at_63
                have N16ua_at_73 : Nm ty F73 (16 + ua) (((bS g ua : Nat) : Int)) := hk73 _ _ (by omega) (by first | omega | (dsimp only; omega)) N16ua_at_63
                have h102_at_73 : F73 (102) = .inl (ty 0, 1400, .inl (tt)) := (hf73 (102) (by omega) (by omega) (by omega)).trans h102_at_63
                have h103_at_73 : F73 (103) = .inl (ty 0, 700, .inl (dd)) := (hf73 (103) (by omega) (by omega) (by omega)).trans h103_at_63
                have N32_at_73 : Nm ty F73 (32) (zS g ua) := hk73 _ _ (by omega) (by first | omega | (dsimp only; omega)) N32
                refine lv_iload_n hx hb d_M_change_76 rfl (lv_at hl 2 rfl) ?_
                by_cases c77_0 : kd = 0
                · refine wz_tabIn (k := 0) (off := 39) (tgt := 116) hx hb d_M_change_77 c77_0 (by omega) (by omega) (by decide) rfl (by decide) ?_
                  refine lv_aload_n hx hb d_M_change_116 rfl (lv_at hl 0 rfl) ?_
                  refine pw_get (ci := 6) (C := R_M) (T := T_M) (N := 8) hx hb hq i_M hown hw (by omega) hO_at_73 rfl 3 (by decide) (hq _ fl_M_16) (fun _ h9 => h9) rfl d_M_change_117 ?_
                  refine wz_bipush (n := 32) hx hb d_M_change_120 (by decide) ?_
                  refine lv_aload_n hx hb d_M_change_122 rfl (lv_at hl 0 rfl) ?_
                  refine pw_get (ci := 6) (C := R_M) (T := T_M) (N := 8) hx hb hq i_M hown hw (by omega) hO_at_73 rfl 3 (by decide) (hq _ fl_M_16) (fun _ h9 => h9) rfl d_M_change_123 ?_
                  refine wz_bipush (n := 32) hx hb d_M_change_126 (by decide) ?_
                  obtain ⟨P128, S128, G128, ⟨a128_99, a128_100, a128_101⟩, ⟨n128, hS128, h3128, hD128, ht128, hv128⟩, hG128⟩ := id N32_at_73
                  have hs128 := sB_c (zS g ua)
                  refine pw_zald (k := 32) hx hb hw 4 (by omega) a128_101 rfl (iI_in (by omega) (by omega) (by omega)) ((iI_cl (by omega) (by omega)).trans (by omega)) d_M_change_128 ?_
                  refine lv_topi (fun x128 ex128 => ?_)
                  obtain rfl : x128 = iI ((sB (zS g ua) : Int)) := ex128.trans (hG128)
                  refine wz_if_ne (tgt := 146) hx hb d_M_change_129 (by decide) (by omega) (by omega) (fun c129 => ?_) (fun c129 => ?_)
                  · refine wz_iconst (n := 0) hx hb d_M_change_146 ?_
                    refine pw_zast (k := 32) hx hb hw 4 (by omega) a128_101 rfl (iI_in (by omega) (by omega) (by omega)) ((iI_cl (by omega) (by omega)).trans (by omega)) (y := iI (0)) (by decide) d_M_change_147 (fun F147 H locs eF147 hw => ?_)
                    have m147_101 : F147 (101) = .inl (ty 4, 43, .inl (upd G128 (32) (iI (0)))) := by rw [eF147]; exact va_up_self ..
                    obtain ⟨N32, hk147⟩ := Nm_sign (t := 32) (z' := -(zS g ua)) ⟨a128_99, a128_100, a128_101⟩ ⟨(show F147 (99) = F73 (99) from by rw [eF147]; exact va_up_ne _ _ (by omega)).trans a128_99, (show F147 (100) = F73 (100) from by rw [eF147]; exact va_up_ne _ _ (by omega)).trans a128_100, m147_101⟩ N32_at_73 (by omega) (by rw [zB_0 (by omega)]; rfl)
                    have hO_at_147 : F147 (98) = .inr (6, [.int (iI (0)), .ref (ad (99)), .ref (ad (100)), .ref (ad (101)), .ref (ad (102)), .int (iI ((nS g : Int))), .int (iI (pS g)), .ref (ad (103))]) := (show F147 (98) = F73 (98) from by rw [eF147]; exact va_up_ne _ _ (by omega)).trans hO_at_73
                    have hRn_at_147 : Rn ty F147 (g) := hRn_at_73.kq hk147 (fun c9 h8 h9 => by first | omega | (dsimp only at h9; omega))
                    have Nua_at_147 : Nm ty F147 (ua) (zS g ua) := hk147 _ _ (by omega) (by first | omega | (dsimp only; omega)) Nua_at_73
                    have N16ua_at_147 : Nm ty F147 (16 + ua) (((bS g ua : Nat) : Int)) := hk147 _ _ (by omega) (by first | omega | (dsimp only; omega)) N16ua_at_73
                    have h102_at_147 : F147 (102) = .inl (ty 0, 1400, .inl (tt)) := (show F147 (102) = F73 (102) from by rw [eF147]; exact va_up_ne _ _ (by omega)).trans h102_at_73
                    have h103_at_147 : F147 (103) = .inl (ty 0, 700, .inl (dd)) := (show F147 (103) = F73 (103) from by rw [eF147]; exact va_up_ne _ _ (by omega)).trans h103_at_73
                    have N33_at_147 : Nm ty F147 (33) (((bS g ua : Nat) : Int)) := hk147 _ _ (by omega) (by first | omega | (dsimp only; omega)) N33
                    have a128_99_at_147 : F147 (99) = .inl (ty 0, 12900, .inl (P128)) := (show F147 (99) = F73 (99) from by rw [eF147]; exact va_up_ne _ _ (by omega)).trans a128_99
                    have a128_100_at_147 : F147 (100) = .inl (ty 0, 43, .inl (S128)) := (show F147 (100) = F73 (100) from by rw [eF147]; exact va_up_ne _ _ (by omega)).trans a128_100
                    refine lv_goto (tgt := 319) hx hb d_M_change_148 (by decide) ?_
                    refine lv_aload_n hx hb d_M_change_319 rfl (lv_at hl 0 rfl) ?_
                    refine lv_iload_n hx hb d_M_change_320 rfl (lv_at hl 1 rfl) ?_
                    refine pw_calli hw (va_runV (As := [.int (iI ((uto : Int)))]) (rest := []) ⟨hx, hb, hml, hown, hq⟩ (c_M_lay l D ty ad M F147 H.size hM (0) ((nS g : Int)) (pS g) hO_at_147 (uto) (-(zS g ua)) (((bS g ua : Nat) : Int)) (g) (by omega) (by omega) N32 N33_at_147 hRn_at_147 (by rw [Int.natAbs_neg]; exact hmx) (hmb)) (cwV 1 hq (gV ml_M_89 im_M_lay se_M_lay in_M m_M_lay) rfl rfl rfl (by decide +kernel) ⟨Nat.le_of_ble_eq_true rfl, Nat.le_of_ble_eq_true rfl⟩) (pw_preV hw (by omega) hO_at_147 rfl) rfl rfl hl.1 rfl (lv_room (Nat.le_of_ble_eq_true rfl)) d_M_change_321 ⟨Nat.le_of_ble_eq_true rfl, Nat.le_of_ble_eq_true rfl⟩) (fun r321 F321 H locs q321 hw => ?_)
                    obtain ⟨er321, hRn, hf321⟩ := q321
                    have hO_at_321 : F321 (98) = .inr (6, [.int (iI (0)), .ref (ad (99)), .ref (ad (100)), .ref (ad (101)), .ref (ad (102)), .int (iI ((nS g : Int))), .int (iI (pS g)), .ref (ad (103))]) := (hf321 (98) (by omega) (by omega) (by omega)).trans hO_at_147
                    have h102_at_321 : F321 (102) = .inl (ty 0, 1400, .inl (tt)) := (hf321 (102) (by omega) (by omega) (by omega)).trans h102_at_147
                    have h103_at_321 : F321 (103) = .inl (ty 0, 700, .inl (dd)) := (hf321 (103) (by omega) (by omega) (by omega)).trans h103_at_147
                    rw [← hQ]
                    exact pw_iret hx hb hr hlocks hw (by
                      rw [o_change_ok ⟨hRto, hRa⟩ ⟨by omega, by omega⟩ hd9 (u := uto) (x := ua) (by omega) (by omega), show kd = 0 by omega, ch_0]
                      rw [flz_n (by omega)] at er321 hRn
                      exact ⟨er321, Mo.mk' (s_lay_t ..) hO_at_321 hRn h102_at_321 htt h103_at_321, fun y9 h1 => ((hf321 (y9) (by omega) (by omega) (by omega)).trans ((show F147 (y9) = F73 (y9) from by rw [eF147]; exact va_up_ne _ _ (by omega)).trans ((hf73 (y9) (by omega) (by omega) (by omega)).trans (hf63 (y9) (by omega) (by omega) (by omega))))).trans (hfr y9 (by omega))⟩) d_M_change_324
                  · refine lv_aload_n hx hb d_M_change_132 rfl (lv_at hl 0 rfl) ?_
                    refine pw_get (ci := 6) (C := R_M) (T := T_M) (N := 8) hx hb hq i_M hown hw (by omega) hO_at_73 rfl 2 (by decide) (hq _ fl_M_13) (fun _ h9 => h9) rfl d_M_change_133 ?_
                    refine wz_bipush (n := 32) hx hb d_M_change_136 (by decide) ?_
                    obtain ⟨P138, S138, G138, ⟨a138_99, a138_100, a138_101⟩, ⟨nt, hS138, h3138, hD138, ht138, hv138⟩, hG138⟩ := id N32_at_73
                    have hz138 := bvP_z ht138
                    rw [hv138] at hz138
                    refine pw_iald (k := 32) hx hb hw 0 (by omega) a138_100 rfl (iI_in (by omega) (by omega) (by omega)) ((iI_cl (by omega) (by omega)).trans (by omega)) d_M_change_138 ?_
                    refine lv_topi (fun x138 ex138 => ?_)
                    obtain rfl : x138 = iI ((nt : Int)) := ex138.trans (hS138)
                    refine wz_if_le (tgt := 146) hx hb d_M_change_139 (by decide) (by omega) (by omega) (fun c139 => ?_) (fun c139 => ?_)
                    · refine wz_iconst (n := 0) hx hb d_M_change_146 ?_
                      refine pw_zast (k := 32) hx hb hw 4 (by omega) a138_101 rfl (iI_in (by omega) (by omega) (by omega)) ((iI_cl (by omega) (by omega)).trans (by omega)) (y := iI (0)) (by decide) d_M_change_147 (fun F147 H locs eF147 hw => ?_)
                      have m147_101 : F147 (101) = .inl (ty 4, 43, .inl (upd G138 (32) (iI (0)))) := by rw [eF147]; exact va_up_self ..
                      obtain ⟨N32, hk147⟩ := Nm_sign (t := 32) (z' := -(zS g ua)) ⟨a138_99, a138_100, a138_101⟩ ⟨(show F147 (99) = F73 (99) from by rw [eF147]; exact va_up_ne _ _ (by omega)).trans a138_99, (show F147 (100) = F73 (100) from by rw [eF147]; exact va_up_ne _ _ (by omega)).trans a138_100, m147_101⟩ N32_at_73 (by omega) (by rw [zB_0 (by omega)]; rfl)
                      have hO_at_147 : F147 (98) = .inr (6, [.int (iI (0)), .ref (ad (99)), .ref (ad (100)), .ref (ad (101)), .ref (ad (102)), .int (iI ((nS g : Int))), .int (iI (pS g)), .ref (ad (103))]) := (show F147 (98) = F73 (98) from by rw [eF147]; exact va_up_ne _ _ (by omega)).trans hO_at_73
                      have hRn_at_147 : Rn ty F147 (g) := hRn_at_73.kq hk147 (fun c9 h8 h9 => by first | omega | (dsimp only at h9; omega))
                      have Nua_at_147 : Nm ty F147 (ua) (zS g ua) := hk147 _ _ (by omega) (by first | omega | (dsimp only; omega)) Nua_at_73
                      have N16ua_at_147 : Nm ty F147 (16 + ua) (((bS g ua : Nat) : Int)) := hk147 _ _ (by omega) (by first | omega | (dsimp only; omega)) N16ua_at_73
                      have h102_at_147 : F147 (102) = .inl (ty 0, 1400, .inl (tt)) := (show F147 (102) = F73 (102) from by rw [eF147]; exact va_up_ne _ _ (by omega)).trans h102_at_73
                      have h103_at_147 : F147 (103) = .inl (ty 0, 700, .inl (dd)) := (show F147 (103) = F73 (103) from by rw [eF147]; exact va_up_ne _ _ (by omega)).trans h103_at_73
                      have N33_at_147 : Nm ty F147 (33) (((bS g ua : Nat) : Int)) := hk147 _ _ (by omega) (by first | omega | (dsimp only; omega)) N33
                      have a138_99_at_147 : F147 (99) = .inl (ty 0, 12900, .inl (P138)) := (show F147 (99) = F73 (99) from by rw [eF147]; exact va_up_ne _ _ (by omega)).trans a138_99
                      have a138_100_at_147 : F147 (100) = .inl (ty 0, 43, .inl (S138)) := (show F147 (100) = F73 (100) from by rw [eF147]; exact va_up_ne _ _ (by omega)).trans a138_100
                      refine lv_goto (tgt := 319) hx hb d_M_change_148 (by decide) ?_
                      refine lv_aload_n hx hb d_M_change_319 rfl (lv_at hl 0 rfl) ?_
                      refine lv_iload_n hx hb d_M_change_320 rfl (lv_at hl 1 rfl) ?_
                      refine pw_calli hw (va_runV (As := [.int (iI ((uto : Int)))]) (rest := []) ⟨hx, hb, hml, hown, hq⟩ (c_M_lay l D ty ad M F147 H.size hM (0) ((nS g : Int)) (pS g) hO_at_147 (uto) (-(zS g ua)) (((bS g ua : Nat) : Int)) (g) (by omega) (by omega) N32 N33_at_147 hRn_at_147 (by rw [Int.natAbs_neg]; exact hmx) (hmb)) (cwV 1 hq (gV ml_M_89 im_M_lay se_M_lay in_M m_M_lay) rfl rfl rfl (by decide +kernel) ⟨Nat.le_of_ble_eq_true rfl, Nat.le_of_ble_eq_true rfl⟩) (pw_preV hw (by omega) hO_at_147 rfl) rfl rfl hl.1 rfl (lv_room (Nat.le_of_ble_eq_true rfl)) d_M_change_321 ⟨Nat.le_of_ble_eq_true rfl, Nat.le_of_ble_eq_true rfl⟩) (fun r321 F321 H locs q321 hw => ?_)
                      obtain ⟨er321, hRn, hf321⟩ := q321
                      have hO_at_321 : F321 (98) = .inr (6, [.int (iI (0)), .ref (ad (99)), .ref (ad (100)), .ref (ad (101)), .ref (ad (102)), .int (iI ((nS g : Int))), .int (iI (pS g)), .ref (ad (103))]) := (hf321 (98) (by omega) (by omega) (by omega)).trans hO_at_147
                      have h102_at_321 : F321 (102) = .inl (ty 0, 1400, .inl (tt)) := (hf321 (102) (by omega) (by omega) (by omega)).trans h102_at_147
                      have h103_at_321 : F321 (103) = .inl (ty 0, 700, .inl (dd)) := (hf321 (103) (by omega) (by omega) (by omega)).trans h103_at_147
                      rw [← hQ]
                      exact pw_iret hx hb hr hlocks hw (by
                        rw [o_change_ok ⟨hRto, hRa⟩ ⟨by omega, by omega⟩ hd9 (u := uto) (x := ua) (by omega) (by omega), show kd = 0 by omega, ch_0]
                        rw [flz_n (by omega)] at er321 hRn
                        exact ⟨er321, Mo.mk' (s_lay_t ..) hO_at_321 hRn h102_at_321 htt h103_at_321, fun y9 h1 => ((hf321 (y9) (by omega) (by omega) (by omega)).trans ((show F147 (y9) = F73 (y9) from by rw [eF147]; exact va_up_ne _ _ (by omega)).trans ((hf73 (y9) (by omega) (by omega) (by omega)).trans (hf63 (y9) (by omega) (by omega) (by omega))))).trans (hfr y9 (by omega))⟩) d_M_change_324
                    · refine wz_iconst (n := 1) hx hb d_M_change_142 ?_
                      refine lv_goto (tgt := 147) hx hb d_M_change_143 (by decide) ?_
                      refine pw_zast (k := 32) hx hb hw 4 (by omega) a138_101 rfl (iI_in (by omega) (by omega) (by omega)) ((iI_cl (by omega) (by omega)).trans (by omega)) (y := iI (1)) (by decide) d_M_change_147 (fun F147 H locs eF147 hw => ?_)
                      have m147_101 : F147 (101) = .inl (ty 4, 43, .inl (upd G138 (32) (iI (1)))) := by rw [eF147]; exact va_up_self ..
                      obtain ⟨N32, hk147⟩ := Nm_sign (t := 32) (z' := -(zS g ua)) ⟨a138_99, a138_100, a138_101⟩ ⟨(show F147 (99) = F73 (99) from by rw [eF147]; exact va_up_ne _ _ (by omega)).trans a138_99, (show F147 (100) = F73 (100) from by rw [eF147]; exact va_up_ne _ _ (by omega)).trans a138_100, m147_101⟩ N32_at_73 (by omega) (by rw [zB_1 (by omega)]; rfl)
                      have hO_at_147 : F147 (98) = .inr (6, [.int (iI (0)), .ref (ad (99)), .ref (ad (100)), .ref (ad (101)), .ref (ad (102)), .int (iI ((nS g : Int))), .int (iI (pS g)), .ref (ad (103))]) := (show F147 (98) = F73 (98) from by rw [eF147]; exact va_up_ne _ _ (by omega)).trans hO_at_73
                      have hRn_at_147 : Rn ty F147 (g) := hRn_at_73.kq hk147 (fun c9 h8 h9 => by first | omega | (dsimp only at h9; omega))
                      have Nua_at_147 : Nm ty F147 (ua) (zS g ua) := hk147 _ _ (by omega) (by first | omega | (dsimp only; omega)) Nua_at_73
                      have N16ua_at_147 : Nm ty F147 (16 + ua) (((bS g ua : Nat) : Int)) := hk147 _ _ (by omega) (by first | omega | (dsimp only; omega)) N16ua_at_73
                      have h102_at_147 : F147 (102) = .inl (ty 0, 1400, .inl (tt)) := (show F147 (102) = F73 (102) from by rw [eF147]; exact va_up_ne _ _ (by omega)).trans h102_at_73
                      have h103_at_147 : F147 (103) = .inl (ty 0, 700, .inl (dd)) := (show F147 (103) = F73 (103) from by rw [eF147]; exact va_up_ne _ _ (by omega)).trans h103_at_73
                      have N33_at_147 : Nm ty F147 (33) (((bS g ua : Nat) : Int)) := hk147 _ _ (by omega) (by first | omega | (dsimp only; omega)) N33
                      have a138_99_at_147 : F147 (99) = .inl (ty 0, 12900, .inl (P138)) := (show F147 (99) = F73 (99) from by rw [eF147]; exact va_up_ne _ _ (by omega)).trans a138_99
                      have a138_100_at_147 : F147 (100) = .inl (ty 0, 43, .inl (S138)) := (show F147 (100) = F73 (100) from by rw [eF147]; exact va_up_ne _ _ (by omega)).trans a138_100
                      refine lv_goto (tgt := 319) hx hb d_M_change_148 (by decide) ?_
                      refine lv_aload_n hx hb d_M_change_319 rfl (lv_at hl 0 rfl) ?_
                      refine lv_iload_n hx hb d_M_change_320 rfl (lv_at hl 1 rfl) ?_
                      refine pw_calli hw (va_runV (As := [.int (iI ((uto : Int)))]) (rest := []) ⟨hx, hb, hml, hown, hq⟩ (c_M_lay l D ty ad M F147 H.size hM (0) ((nS g : Int)) (pS g) hO_at_147 (uto) (-(zS g ua)) (((bS g ua : Nat) : Int)) (g) (by omega) (by omega) N32 N33_at_147 hRn_at_147 (by rw [Int.natAbs_neg]; exact hmx) (hmb)) (cwV 1 hq (gV ml_M_89 im_M_lay se_M_lay in_M m_M_lay) rfl rfl rfl (by decide +kernel) ⟨Nat.le_of_ble_eq_true rfl, Nat.le_of_ble_eq_true rfl⟩) (pw_preV hw (by omega) hO_at_147 rfl) rfl rfl hl.1 rfl (lv_room (Nat.le_of_ble_eq_true rfl)) d_M_change_321 ⟨Nat.le_of_ble_eq_true rfl, Nat.le_of_ble_eq_true rfl⟩) (fun r321 F321 H locs q321 hw => ?_)
                      obtain ⟨er321, hRn, hf321⟩ := q321
                      have hO_at_321 : F321 (98) = .inr (6, [.int (iI (0)), .ref (ad (99)), .ref (ad (100)), .ref (ad (101)), .ref (ad (102)), .int (iI ((nS g : Int))), .int (iI (pS g)), .ref (ad (103))]) := (hf321 (98) (by omega) (by omega) (by omega)).trans hO_at_147
                      have h102_at_321 : F321 (102) = .inl (ty 0, 1400, .inl (tt)) := (hf321 (102) (by omega) (by omega) (by omega)).trans h102_at_147
                      have h103_at_321 : F321 (103) = .inl (ty 0, 700, .inl (dd)) := (hf321 (103) (by omega) (by omega) (by omega)).trans h103_at_147
                      rw [← hQ]
                      exact pw_iret hx hb hr hlocks hw (by
                        rw [o_change_ok ⟨hRto, hRa⟩ ⟨by omega, by omega⟩ hd9 (u := uto) (x := ua) (by omega) (by omega), show kd = 0 by omega, ch_0]
                        rw [flz_n (by omega)] at er321 hRn
                        exact ⟨er321, Mo.mk' (s_lay_t ..) hO_at_321 hRn h102_at_321 htt h103_at_321, fun y9 h1 => ((hf321 (y9) (by omega) (by omega) (by omega)).trans ((show F147 (y9) = F73 (y9) from by rw [eF147]; exact va_up_ne _ _ (by omega)).trans ((hf73 (y9) (by omega) (by omega) (by omega)).trans (hf63 (y9) (by omega) (by omega) (by omega))))).trans (hfr y9 (by omega))⟩) d_M_change_324
                · skip
                  by_cases c77_1 : kd = 1
                  · refine wz_tabIn (k := 1) (off := 74) (tgt := 151) hx hb d_M_change_77 c77_1 (by omega) (by omega) (by decide) rfl (by decide) ?_
                    refine lv_aload_n hx hb d_M_change_151 rfl (lv_at hl 0 rfl) ?_
                    refine pw_get (ci := 6) (C := R_M) (T := T_M) (N := 8) hx hb hq i_M hown hw (by omega) hO_at_73 rfl 3 (by decide) (hq _ fl_M_16) (fun _ h9 => h9) rfl d_M_change_152 ?_
                    refine wz_bipush (n := 32) hx hb d_M_change_155 (by decide) ?_
                    refine wz_iconst (n := 0) hx hb d_M_change_157 ?_
                    obtain ⟨P158, S158, G158, ⟨a158_99, a158_100, a158_101⟩, hx158⟩ := id N32_at_73
                    refine pw_zast (k := 32) hx hb hw 4 (by omega) a158_101 rfl (iI_in (by omega) (by omega) (by omega)) ((iI_cl (by omega) (by omega)).trans (by omega)) (y := iI (0)) (by decide) d_M_change_158 (fun F158 H locs eF158 hw => ?_)
                    have m158_101 : F158 (101) = .inl (ty 4, 43, .inl (upd G158 (32) (iI (0)))) := by rw [eF158]; exact va_up_self ..
                    obtain ⟨N32, hk158⟩ := Nm_sign (t := 32) (z' := ((Int.natAbs (zS g ua) : Nat) : Int)) ⟨a158_99, a158_100, a158_101⟩ ⟨(show F158 (99) = F73 (99) from by rw [eF158]; exact va_up_ne _ _ (by omega)).trans a158_99, (show F158 (100) = F73 (100) from by rw [eF158]; exact va_up_ne _ _ (by omega)).trans a158_100, m158_101⟩ N32_at_73 (by omega) (by rw [zB_0 (by omega)]; rfl)
                    have hO_at_158 : F158 (98) = .inr (6, [.int (iI (0)), .ref (ad (99)), .ref (ad (100)), .ref (ad (101)), .ref (ad (102)), .int (iI ((nS g : Int))), .int (iI (pS g)), .ref (ad (103))]) := (show F158 (98) = F73 (98) from by rw [eF158]; exact va_up_ne _ _ (by omega)).trans hO_at_73
                    have hRn_at_158 : Rn ty F158 (g) := hRn_at_73.kq hk158 (fun c9 h8 h9 => by first | omega | (dsimp only at h9; omega))
                    have Nua_at_158 : Nm ty F158 (ua) (zS g ua) := hk158 _ _ (by omega) (by first | omega | (dsimp only; omega)) Nua_at_73
                    have N16ua_at_158 : Nm ty F158 (16 + ua) (((bS g ua : Nat) : Int)) := hk158 _ _ (by omega) (by first | omega | (dsimp only; omega)) N16ua_at_73
                    have h102_at_158 : F158 (102) = .inl (ty 0, 1400, .inl (tt)) := (show F158 (102) = F73 (102) from by rw [eF158]; exact va_up_ne _ _ (by omega)).trans h102_at_73
                    have h103_at_158 : F158 (103) = .inl (ty 0, 700, .inl (dd)) := (show F158 (103) = F73 (103) from by rw [eF158]; exact va_up_ne _ _ (by omega)).trans h103_at_73
                    have N33_at_158 : Nm ty F158 (33) (((bS g ua : Nat) : Int)) := hk158 _ _ (by omega) (by first | omega | (dsimp only; omega)) N33
                    have a158_99_at_158 : F158 (99) = .inl (ty 0, 12900, .inl (P158)) := (show F158 (99) = F73 (99) from by rw [eF158]; exact va_up_ne _ _ (by omega)).trans a158_99
                    have a158_100_at_158 : F158 (100) = .inl (ty 0, 43, .inl (S158)) := (show F158 (100) = F73 (100) from by rw [eF158]; exact va_up_ne _ _ (by omega)).trans a158_100
                    refine lv_goto (tgt := 319) hx hb d_M_change_159 (by decide) ?_
                    refine lv_aload_n hx hb d_M_change_319 rfl (lv_at hl 0 rfl) ?_
                    refine lv_iload_n hx hb d_M_change_320 rfl (lv_at hl 1 rfl) ?_
                    refine pw_calli hw (va_runV (As := [.int (iI ((uto : Int)))]) (rest := []) ⟨hx, hb, hml, hown, hq⟩ (c_M_lay l D ty ad M F158 H.size hM (0) ((nS g : Int)) (pS g) hO_at_158 (uto) (((Int.natAbs (zS g ua) : Nat) : Int)) (((bS g ua : Nat) : Int)) (g) (by omega) (by omega) N32 N33_at_158 hRn_at_158 (hmx) (hmb)) (cwV 1 hq (gV ml_M_89 im_M_lay se_M_lay in_M m_M_lay) rfl rfl rfl (by decide +kernel) ⟨Nat.le_of_ble_eq_true rfl, Nat.le_of_ble_eq_true rfl⟩) (pw_preV hw (by omega) hO_at_158 rfl) rfl rfl hl.1 rfl (lv_room (Nat.le_of_ble_eq_true rfl)) d_M_change_321 ⟨Nat.le_of_ble_eq_true rfl, Nat.le_of_ble_eq_true rfl⟩) (fun r321 F321 H locs q321 hw => ?_)
                    obtain ⟨er321, hRn, hf321⟩ := q321
                    have hO_at_321 : F321 (98) = .inr (6, [.int (iI (0)), .ref (ad (99)), .ref (ad (100)), .ref (ad (101)), .ref (ad (102)), .int (iI ((nS g : Int))), .int (iI (pS g)), .ref (ad (103))]) := (hf321 (98) (by omega) (by omega) (by omega)).trans hO_at_158
                    have h102_at_321 : F321 (102) = .inl (ty 0, 1400, .inl (tt)) := (hf321 (102) (by omega) (by omega) (by omega)).trans h102_at_158
                    have h103_at_321 : F321 (103) = .inl (ty 0, 700, .inl (dd)) := (hf321 (103) (by omega) (by omega) (by omega)).trans h103_at_158
                    rw [← hQ]
                    exact pw_iret hx hb hr hlocks hw (by
                      rw [o_change_ok ⟨hRto, hRa⟩ ⟨by omega, by omega⟩ hd9 (u := uto) (x := ua) (by omega) (by omega), show kd = 1 by omega, ch_1]
                      rw [flz_n (by omega)] at er321 hRn
                      exact ⟨er321, Mo.mk' (s_lay_t ..) hO_at_321 hRn h102_at_321 htt h103_at_321, fun y9 h1 => ((hf321 (y9) (by omega) (by omega) (by omega)).trans ((show F158 (y9) = F73 (y9) from by rw [eF158]; exact va_up_ne _ _ (by omega)).trans ((hf73 (y9) (by omega) (by omega) (by omega)).trans (hf63 (y9) (by omega) (by omega) (by omega))))).trans (hfr y9 (by omega))⟩) d_M_change_324
                  · skip
                    by_cases c77_2 : kd = 2
                    · refine wz_tabIn (k := 2) (off := 85) (tgt := 162) hx hb d_M_change_77 c77_2 (by omega) (by omega) (by decide) rfl (by decide) ?_
                      refine lv_aload_n hx hb d_M_change_162 rfl (lv_at hl 0 rfl) ?_
                      refine wz_bipush (n := 32) hx hb d_M_change_163 (by decide) ?_
                      refine lv_iload_n hx hb d_M_change_165 rfl (lv_at hl 3 rfl) ?_
                      refine pw_calli hw (va_runS (As := [.int (iI ((ua : Int)))]) (rest := [.int (iI (32)), .ref (ad (98))]) ⟨hx, hb, hml, hown, hq⟩ (c_M_below l D ty ad M F73 H.size (ua) (by omega)) (va_cwS 1 hq (gS ml_M_82 st_M_below in_M m_M_below) rfl rfl rfl (by decide +kernel) ⟨Nat.le_of_ble_eq_true rfl, Nat.le_of_ble_eq_true rfl⟩) (pw_preS hw) rfl rfl hl.1 rfl (lv_room (Nat.le_of_ble_eq_true rfl)) d_M_change_166 ⟨Nat.le_of_ble_eq_true rfl, Nat.le_of_ble_eq_true rfl⟩) (fun r166 F166 H locs q166 hw => ?_)
                      obtain ⟨er166, eF166⟩ := q166
                      rw [eF166] at hw
                      clear eF166
                      subst er166
                      refine pw_callv hw (va_runV (As := [.int (iI (32)), .int (iI (((16 + ua : Nat) : Int)))]) (rest := []) ⟨hx, hb, hml, hown, hq⟩ (c_M_copy l D ty ad M F73 H.size hM (0) ((nS g : Int)) (pS g) hO_at_73 (32) (16 + ua) (by omega) (by omega) (by omega) (((bS g ua : Nat) : Int)) N16ua_at_73) (cwV 2 hq (gV ml_M_55 im_M_copy se_M_copy in_M m_M_copy) rfl rfl rfl (by decide +kernel) ⟨Nat.le_of_ble_eq_true rfl, Nat.le_of_ble_eq_true rfl⟩) (pw_preV hw (by omega) hO_at_73 rfl) rfl rfl hl.1 rfl (lv_room (Nat.le_of_ble_eq_true rfl)) d_M_change_169 ⟨Nat.le_of_ble_eq_true rfl, Nat.le_of_ble_eq_true rfl⟩) (fun F169 H locs q169 hw => ?_)
                      obtain ⟨N32, hk169, hf169⟩ := q169
                      have hO_at_169 : F169 (98) = .inr (6, [.int (iI (0)), .ref (ad (99)), .ref (ad (100)), .ref (ad (101)), .ref (ad (102)), .int (iI ((nS g : Int))), .int (iI (pS g)), .ref (ad (103))]) := (hf169 (98) (by omega) (by omega) (by omega)).trans hO_at_73
                      have hRn_at_169 : Rn ty F169 (g) := hRn_at_73.kq hk169 (fun c9 h8 h9 => by first | omega | (dsimp only at h9; omega))
                      have Nua_at_169 : Nm ty F169 (ua) (zS g ua) := hk169 _ _ (by omega) (by first | omega | (dsimp only; omega)) Nua_at_73
                      have N16ua_at_169 : Nm ty F169 (16 + ua) (((bS g ua : Nat) : Int)) := hk169 _ _ (by omega) (by first | omega | (dsimp only; omega)) N16ua_at_73
                      have h102_at_169 : F169 (102) = .inl (ty 0, 1400, .inl (tt)) := (hf169 (102) (by omega) (by omega) (by omega)).trans h102_at_73
                      have h103_at_169 : F169 (103) = .inl (ty 0, 700, .inl (dd)) := (hf169 (103) (by omega) (by omega) (by omega)).trans h103_at_73
                      have N33_at_169 : Nm ty F169 (33) (((bS g ua : Nat) : Int)) := hk169 _ _ (by omega) (by first | omega | (dsimp only; omega)) N33
                      refine lv_aload_n hx hb d_M_change_172 rfl (lv_at hl 0 rfl) ?_
                      refine wz_bipush (n := 33) hx hb d_M_change_173 (by decide) ?_
                      refine lv_iload_n hx hb d_M_change_175 rfl (lv_at hl 3 rfl) ?_
                      refine pw_callv hw (va_runV (As := [.int (iI (33)), .int (iI ((ua : Int)))]) (rest := []) ⟨hx, hb, hml, hown, hq⟩ (c_M_copy l D ty ad M F169 H.size hM (0) ((nS g : Int)) (pS g) hO_at_169 (33) (ua) (by omega) (by omega) (by omega) (zS g ua) Nua_at_169) (cwV 2 hq (gV ml_M_55 im_M_copy se_M_copy in_M m_M_copy) rfl rfl rfl (by decide +kernel) ⟨Nat.le_of_ble_eq_true rfl, Nat.le_of_ble_eq_true rfl⟩) (pw_preV hw (by omega) hO_at_169 rfl) rfl rfl hl.1 rfl (lv_room (Nat.le_of_ble_eq_true rfl)) d_M_change_176 ⟨Nat.le_of_ble_eq_true rfl, Nat.le_of_ble_eq_true rfl⟩) (fun F176 H locs q176 hw => ?_)
                      obtain ⟨N33, hk176, hf176⟩ := q176
                      have hO_at_176 : F176 (98) = .inr (6, [.int (iI (0)), .ref (ad (99)), .ref (ad (100)), .ref (ad (101)), .ref (ad (102)), .int (iI ((nS g : Int))), .int (iI (pS g)), .ref (ad (103))]) := (hf176 (98) (by omega) (by omega) (by omega)).trans hO_at_169
                      have hRn_at_176 : Rn ty F176 (g) := hRn_at_169.kq hk176 (fun c9 h8 h9 => by first | omega | (dsimp only at h9; omega))
                      have Nua_at_176 : Nm ty F176 (ua) (zS g ua) := hk176 _ _ (by omega) (by first | omega | (dsimp only; omega)) Nua_at_169
                      have N16ua_at_176 : Nm ty F176 (16 + ua) (((bS g ua : Nat) : Int)) := hk176 _ _ (by omega) (by first | omega | (dsimp only; omega)) N16ua_at_169
                      have h102_at_176 : F176 (102) = .inl (ty 0, 1400, .inl (tt)) := (hf176 (102) (by omega) (by omega) (by omega)).trans h102_at_169
                      have h103_at_176 : F176 (103) = .inl (ty 0, 700, .inl (dd)) := (hf176 (103) (by omega) (by omega) (by omega)).trans h103_at_169
                      have N32_at_176 : Nm ty F176 (32) (((bS g ua : Nat) : Int)) := hk176 _ _ (by omega) (by first | omega | (dsimp only; omega)) N32
                      refine lv_goto (tgt := 319) hx hb d_M_change_179 (by decide) ?_
                      refine lv_aload_n hx hb d_M_change_319 rfl (lv_at hl 0 rfl) ?_
                      refine lv_iload_n hx hb d_M_change_320 rfl (lv_at hl 1 rfl) ?_
                      refine pw_calli hw (va_runV (As := [.int (iI ((uto : Int)))]) (rest := []) ⟨hx, hb, hml, hown, hq⟩ (c_M_lay l D ty ad M F176 H.size hM (0) ((nS g : Int)) (pS g) hO_at_176 (uto) (((bS g ua : Nat) : Int)) (zS g ua) (g) (by omega) (by omega) N32_at_176 N33 hRn_at_176 (hmb) (hmx)) (cwV 1 hq (gV ml_M_89 im_M_lay se_M_lay in_M m_M_lay) rfl rfl rfl (by decide +kernel) ⟨Nat.le_of_ble_eq_true rfl, Nat.le_of_ble_eq_true rfl⟩) (pw_preV hw (by omega) hO_at_176 rfl) rfl rfl hl.1 rfl (lv_room (Nat.le_of_ble_eq_true rfl)) d_M_change_321 ⟨Nat.le_of_ble_eq_true rfl, Nat.le_of_ble_eq_true rfl⟩) (fun r321 F321 H locs q321 hw => ?_)
                      obtain ⟨er321, hRn, hf321⟩ := q321
                      have hO_at_321 : F321 (98) = .inr (6, [.int (iI (0)), .ref (ad (99)), .ref (ad (100)), .ref (ad (101)), .ref (ad (102)), .int (iI ((nS g : Int))), .int (iI (pS g)), .ref (ad (103))]) := (hf321 (98) (by omega) (by omega) (by omega)).trans hO_at_176
                      have h102_at_321 : F321 (102) = .inl (ty 0, 1400, .inl (tt)) := (hf321 (102) (by omega) (by omega) (by omega)).trans h102_at_176
                      have h103_at_321 : F321 (103) = .inl (ty 0, 700, .inl (dd)) := (hf321 (103) (by omega) (by omega) (by omega)).trans h103_at_176
                      rw [← hQ]
                      exact pw_iret hx hb hr hlocks hw (by
                        rw [o_change_ok ⟨hRto, hRa⟩ ⟨by omega, by omega⟩ hd9 (u := uto) (x := ua) (by omega) (by omega), show kd = 2 by omega, ch_2]
                        exact ⟨er321, Mo.mk' (s_lay_t ..) hO_at_321 hRn h102_at_321 htt h103_at_321, fun y9 h1 => ((hf321 (y9) (by omega) (by omega) (by omega)).trans ((hf176 (y9) (by omega) (by omega) (by omega)).trans ((hf169 (y9) (by omega) (by omega) (by omega)).trans ((hf73 (y9) (by omega) (by omega) (by omega)).trans (hf63 (y9) (by omega) (by omega) (by omega)))))).trans (hfr y9 (by omega))⟩) d_M_change_324
                    · skip
                      by_cases c77_3 : kd = 3
                      · refine wz_tabIn (k := 3) (off := 105) (tgt := 182) hx hb d_M_change_77 c77_3 (by omega) (by omega) (by decide) rfl (by decide) ?_
                        refine lv_aload_n hx hb d_M_change_182 rfl (lv_at hl 0 rfl) ?_
                        refine pw_get (ci := 6) (C := R_M) (T := T_M) (N := 8) hx hb hq i_M hown hw (by omega) hO_at_73 rfl 3 (by decide) (hq _ fl_M_16) (fun _ h9 => h9) rfl d_M_change_183 ?_
                        refine wz_bipush (n := 32) hx hb d_M_change_186 (by decide) ?_
                        refine lv_aload_n hx hb d_M_change_188 rfl (lv_at hl 0 rfl) ?_
                        refine pw_get (ci := 6) (C := R_M) (T := T_M) (N := 8) hx hb hq i_M hown hw (by omega) hO_at_73 rfl 3 (by decide) (hq _ fl_M_16) (fun _ h9 => h9) rfl d_M_change_189 ?_
                        refine wz_bipush (n := 32) hx hb d_M_change_192 (by decide) ?_
                        obtain ⟨P194, S194, G194, ⟨a194_99, a194_100, a194_101⟩, ⟨n194, hS194, h3194, hD194, ht194, hv194⟩, hG194⟩ := id N32_at_73
                        have hs194 := sB_c (zS g ua)
                        refine pw_zald (k := 32) hx hb hw 4 (by omega) a194_101 rfl (iI_in (by omega) (by omega) (by omega)) ((iI_cl (by omega) (by omega)).trans (by omega)) d_M_change_194 ?_
                        refine lv_topi (fun x194 ex194 => ?_)
                        obtain rfl : x194 = iI ((sB (zS g ua) : Int)) := ex194.trans (hG194)
                        refine lv_iload_n hx hb d_M_change_195 rfl (lv_at hl 2 rfl) ?_
                        refine wz_iconst (n := 4) hx hb d_M_change_196 ?_
                        refine wz_icmp_ne (tgt := 204) hx hb d_M_change_197 (by decide) (by omega) (by omega) (by omega) (by omega) (fun c197 => ?_) (fun c197 => ?_)
                        · refine wz_iconst (n := 0) hx hb d_M_change_204 ?_
                          refine wz_icmp_eq (tgt := 222) hx hb d_M_change_205 (by decide) (by omega) (by omega) (by omega) (by omega) (fun c205 => ?_) (fun c205 => ?_)
                          · refine wz_iconst (n := 0) hx hb d_M_change_222 ?_
                            refine pw_zast (k := 32) hx hb hw 4 (by omega) a194_101 rfl (iI_in (by omega) (by omega) (by omega)) ((iI_cl (by omega) (by omega)).trans (by omega)) (y := iI (0)) (by decide) d_M_change_223 (fun F223 H locs eF223 hw => ?_)
                            have m223_101 : F223 (101) = .inl (ty 4, 43, .inl (upd G194 (32) (iI (0)))) := by rw [eF223]; exact va_up_self ..
                            obtain ⟨N32, hk223⟩ := Nm_sign (t := 32) (z' := zS g ua) ⟨a194_99, a194_100, a194_101⟩ ⟨(show F223 (99) = F73 (99) from by rw [eF223]; exact va_up_ne _ _ (by omega)).trans a194_99, (show F223 (100) = F73 (100) from by rw [eF223]; exact va_up_ne _ _ (by omega)).trans a194_100, m223_101⟩ N32_at_73 (by omega) (by rw [zB_0 (by omega)]; rfl)
                            have hO_at_223 : F223 (98) = .inr (6, [.int (iI (0)), .ref (ad (99)), .ref (ad (100)), .ref (ad (101)), .ref (ad (102)), .int (iI ((nS g : Int))), .int (iI (pS g)), .ref (ad (103))]) := (show F223 (98) = F73 (98) from by rw [eF223]; exact va_up_ne _ _ (by omega)).trans hO_at_73
                            have hRn_at_223 : Rn ty F223 (g) := hRn_at_73.kq hk223 (fun c9 h8 h9 => by first | omega | (dsimp only at h9; omega))
                            have Nua_at_223 : Nm ty F223 (ua) (zS g ua) := hk223 _ _ (by omega) (by first | omega | (dsimp only; omega)) Nua_at_73
                            have N16ua_at_223 : Nm ty F223 (16 + ua) (((bS g ua : Nat) : Int)) := hk223 _ _ (by omega) (by first | omega | (dsimp only; omega)) N16ua_at_73
                            have h102_at_223 : F223 (102) = .inl (ty 0, 1400, .inl (tt)) := (show F223 (102) = F73 (102) from by rw [eF223]; exact va_up_ne _ _ (by omega)).trans h102_at_73
                            have h103_at_223 : F223 (103) = .inl (ty 0, 700, .inl (dd)) := (show F223 (103) = F73 (103) from by rw [eF223]; exact va_up_ne _ _ (by omega)).trans h103_at_73
                            have N33_at_223 : Nm ty F223 (33) (((bS g ua : Nat) : Int)) := hk223 _ _ (by omega) (by first | omega | (dsimp only; omega)) N33
                            have a194_99_at_223 : F223 (99) = .inl (ty 0, 12900, .inl (P194)) := (show F223 (99) = F73 (99) from by rw [eF223]; exact va_up_ne _ _ (by omega)).trans a194_99
                            have a194_100_at_223 : F223 (100) = .inl (ty 0, 43, .inl (S194)) := (show F223 (100) = F73 (100) from by rw [eF223]; exact va_up_ne _ _ (by omega)).trans a194_100
                            refine lv_aload_n hx hb d_M_change_224 rfl (lv_at hl 0 rfl) ?_
                            refine wz_bipush (n := 32) hx hb d_M_change_225 (by decide) ?_
                            refine wz_bipush (n := 33) hx hb d_M_change_227 (by decide) ?_
                            refine pw_callv hw (va_runV (As := [.int (iI (32)), .int (iI (33))]) (rest := []) ⟨hx, hb, hml, hown, hq⟩ (c_M_floor l D ty ad M F223 H.size hM (0) ((nS g : Int)) (pS g) hO_at_223 (32) (33) (zS g ua) (((bS g ua : Nat) : Int)) (by omega) (by omega) (by omega) (by omega) (by omega) N32 N33_at_223 (hmx) (hmb)) (cwV 2 hq (gV ml_M_95 im_M_floor se_M_floor in_M m_M_floor) rfl rfl rfl (by decide +kernel) ⟨Nat.le_of_ble_eq_true rfl, Nat.le_of_ble_eq_true rfl⟩) (pw_preV hw (by omega) hO_at_223 rfl) rfl rfl hl.1 rfl (lv_room (Nat.le_of_ble_eq_true rfl)) d_M_change_229 ⟨Nat.le_of_ble_eq_true rfl, Nat.le_of_ble_eq_true rfl⟩) (fun F229 H locs q229 hw => ?_)
                            obtain ⟨N41, hk229, hf229⟩ := q229
                            have hO_at_229 : F229 (98) = .inr (6, [.int (iI (0)), .ref (ad (99)), .ref (ad (100)), .ref (ad (101)), .ref (ad (102)), .int (iI ((nS g : Int))), .int (iI (pS g)), .ref (ad (103))]) := (hf229 (98) (by omega) (by omega) (by omega)).trans hO_at_223
                            have hRn_at_229 : Rn ty F229 (g) := hRn_at_223.kq hk229 (fun c9 h8 h9 => by first | omega | (dsimp only at h9; omega))
                            have Nua_at_229 : Nm ty F229 (ua) (zS g ua) := hk229 _ _ (by omega) (by first | omega | (dsimp only; omega)) Nua_at_223
                            have N16ua_at_229 : Nm ty F229 (16 + ua) (((bS g ua : Nat) : Int)) := hk229 _ _ (by omega) (by first | omega | (dsimp only; omega)) N16ua_at_223
                            have h102_at_229 : F229 (102) = .inl (ty 0, 1400, .inl (tt)) := (hf229 (102) (by omega) (by omega) (by omega)).trans h102_at_223
                            have h103_at_229 : F229 (103) = .inl (ty 0, 700, .inl (dd)) := (hf229 (103) (by omega) (by omega) (by omega)).trans h103_at_223
                            have N33_at_229 : Nm ty F229 (33) (((bS g ua : Nat) : Int)) := hk229 _ _ (by omega) (by first | omega | (dsimp only; omega)) N33_at_223
                            have N32_at_229 : Nm ty F229 (32) (zS g ua) := hk229 _ _ (by omega) (by first | omega | (dsimp only; omega)) N32
                            refine lv_aload_n hx hb d_M_change_232 rfl (lv_at hl 0 rfl) ?_
                            refine wz_bipush (n := 32) hx hb d_M_change_233 (by decide) ?_
                            refine wz_bipush (n := 41) hx hb d_M_change_235 (by decide) ?_
                            refine pw_callv hw (va_runV (As := [.int (iI (32)), .int (iI (41))]) (rest := []) ⟨hx, hb, hml, hown, hq⟩ (c_M_copy l D ty ad M F229 H.size hM (0) ((nS g : Int)) (pS g) hO_at_229 (32) (41) (by omega) (by omega) (by omega) ((zS g ua) / ((bS g ua : Nat) : Int)) N41) (cwV 2 hq (gV ml_M_55 im_M_copy se_M_copy in_M m_M_copy) rfl rfl rfl (by decide +kernel) ⟨Nat.le_of_ble_eq_true rfl, Nat.le_of_ble_eq_true rfl⟩) (pw_preV hw (by omega) hO_at_229 rfl) rfl rfl hl.1 rfl (lv_room (Nat.le_of_ble_eq_true rfl)) d_M_change_237 ⟨Nat.le_of_ble_eq_true rfl, Nat.le_of_ble_eq_true rfl⟩) (fun F237 H locs q237 hw => ?_)
                            obtain ⟨N32, hk237, hf237⟩ := q237
                            have hO_at_237 : F237 (98) = .inr (6, [.int (iI (0)), .ref (ad (99)), .ref (ad (100)), .ref (ad (101)), .ref (ad (102)), .int (iI ((nS g : Int))), .int (iI (pS g)), .ref (ad (103))]) := (hf237 (98) (by omega) (by omega) (by omega)).trans hO_at_229
                            have hRn_at_237 : Rn ty F237 (g) := hRn_at_229.kq hk237 (fun c9 h8 h9 => by first | omega | (dsimp only at h9; omega))
                            have Nua_at_237 : Nm ty F237 (ua) (zS g ua) := hk237 _ _ (by omega) (by first | omega | (dsimp only; omega)) Nua_at_229
                            have N16ua_at_237 : Nm ty F237 (16 + ua) (((bS g ua : Nat) : Int)) := hk237 _ _ (by omega) (by first | omega | (dsimp only; omega)) N16ua_at_229
                            have h102_at_237 : F237 (102) = .inl (ty 0, 1400, .inl (tt)) := (hf237 (102) (by omega) (by omega) (by omega)).trans h102_at_229
                            have h103_at_237 : F237 (103) = .inl (ty 0, 700, .inl (dd)) := (hf237 (103) (by omega) (by omega) (by omega)).trans h103_at_229
                            have N33_at_237 : Nm ty F237 (33) (((bS g ua : Nat) : Int)) := hk237 _ _ (by omega) (by first | omega | (dsimp only; omega)) N33_at_229
                            have N41_at_237 : Nm ty F237 (41) ((zS g ua) / ((bS g ua : Nat) : Int)) := hk237 _ _ (by omega) (by first | omega | (dsimp only; omega)) N41
                            refine lv_aload_n hx hb d_M_change_240 rfl (lv_at hl 0 rfl) ?_
                            refine pw_get (ci := 6) (C := R_M) (T := T_M) (N := 8) hx hb hq i_M hown hw (by omega) hO_at_237 rfl 3 (by decide) (hq _ fl_M_16) (fun _ h9 => h9) rfl d_M_change_241 ?_
                            refine wz_bipush (n := 32) hx hb d_M_change_244 (by decide) ?_
                            refine lv_aload_n hx hb d_M_change_246 rfl (lv_at hl 0 rfl) ?_
                            refine pw_get (ci := 6) (C := R_M) (T := T_M) (N := 8) hx hb hq i_M hown hw (by omega) hO_at_237 rfl 3 (by decide) (hq _ fl_M_16) (fun _ h9 => h9) rfl d_M_change_247 ?_
                            refine wz_bipush (n := 32) hx hb d_M_change_250 (by decide) ?_
                            obtain ⟨P252, S252, G252, ⟨a252_99, a252_100, a252_101⟩, ⟨n252, hS252, h3252, hD252, ht252, hv252⟩, hG252⟩ := id N32
                            have hs252 := sB_c ((zS g ua) / ((bS g ua : Nat) : Int))
                            refine pw_zald (k := 32) hx hb hw 4 (by omega) a252_101 rfl (iI_in (by omega) (by omega) (by omega)) ((iI_cl (by omega) (by omega)).trans (by omega)) d_M_change_252 ?_
                            refine lv_topi (fun x252 ex252 => ?_)
                            obtain rfl : x252 = iI ((sB ((zS g ua) / ((bS g ua : Nat) : Int)) : Int)) := ex252.trans (hG252)
                            refine lv_iload_n hx hb d_M_change_253 rfl (lv_at hl 2 rfl) ?_
                            refine wz_iconst (n := 4) hx hb d_M_change_254 ?_
                            refine wz_icmp_ne (tgt := 262) hx hb d_M_change_255 (by decide) (by omega) (by omega) (by omega) (by omega) (fun c255 => ?_) (fun c255 => ?_)
                            · refine wz_iconst (n := 0) hx hb d_M_change_262 ?_
                              refine wz_icmp_eq (tgt := 280) hx hb d_M_change_263 (by decide) (by omega) (by omega) (by omega) (by omega) (fun c263 => ?_) (fun c263 => ?_)
                              · refine wz_iconst (n := 0) hx hb d_M_change_280 ?_
                                refine pw_zast (k := 32) hx hb hw 4 (by omega) a252_101 rfl (iI_in (by omega) (by omega) (by omega)) ((iI_cl (by omega) (by omega)).trans (by omega)) (y := iI (0)) (by decide) d_M_change_281 (fun F281 H locs eF281 hw => ?_)
                                have m281_101 : F281 (101) = .inl (ty 4, 43, .inl (upd G252 (32) (iI (0)))) := by rw [eF281]; exact va_up_self ..
                                obtain ⟨N32, hk281⟩ := Nm_sign (t := 32) (z' := (zS g ua) / ((bS g ua : Nat) : Int)) ⟨a252_99, a252_100, a252_101⟩ ⟨(show F281 (99) = F237 (99) from by rw [eF281]; exact va_up_ne _ _ (by omega)).trans a252_99, (show F281 (100) = F237 (100) from by rw [eF281]; exact va_up_ne _ _ (by omega)).trans a252_100, m281_101⟩ N32 (by omega) (by rw [zB_0 (by omega)]; rfl)
                                have hO_at_281 : F281 (98) = .inr (6, [.int (iI (0)), .ref (ad (99)), .ref (ad (100)), .ref (ad (101)), .ref (ad (102)), .int (iI ((nS g : Int))), .int (iI (pS g)), .ref (ad (103))]) := (show F281 (98) = F237 (98) from by rw [eF281]; exact va_up_ne _ _ (by omega)).trans hO_at_237
                                have hRn_at_281 : Rn ty F281 (g) := hRn_at_237.kq hk281 (fun c9 h8 h9 => by first | omega | (dsimp only at h9; omega))
                                have Nua_at_281 : Nm ty F281 (ua) (zS g ua) := hk281 _ _ (by omega) (by first | omega | (dsimp only; omega)) Nua_at_237
                                have N16ua_at_281 : Nm ty F281 (16 + ua) (((bS g ua : Nat) : Int)) := hk281 _ _ (by omega) (by first | omega | (dsimp only; omega)) N16ua_at_237
                                have h102_at_281 : F281 (102) = .inl (ty 0, 1400, .inl (tt)) := (show F281 (102) = F237 (102) from by rw [eF281]; exact va_up_ne _ _ (by omega)).trans h102_at_237
                                have h103_at_281 : F281 (103) = .inl (ty 0, 700, .inl (dd)) := (show F281 (103) = F237 (103) from by rw [eF281]; exact va_up_ne _ _ (by omega)).trans h103_at_237
                                have N33_at_281 : Nm ty F281 (33) (((bS g ua : Nat) : Int)) := hk281 _ _ (by omega) (by first | omega | (dsimp only; omega)) N33_at_237
                                have N41_at_281 : Nm ty F281 (41) ((zS g ua) / ((bS g ua : Nat) : Int)) := hk281 _ _ (by omega) (by first | omega | (dsimp only; omega)) N41_at_237
                                have a252_99_at_281 : F281 (99) = .inl (ty 0, 12900, .inl (P252)) := (show F281 (99) = F237 (99) from by rw [eF281]; exact va_up_ne _ _ (by omega)).trans a252_99
                                have a252_100_at_281 : F281 (100) = .inl (ty 0, 43, .inl (S252)) := (show F281 (100) = F237 (100) from by rw [eF281]; exact va_up_ne _ _ (by omega)).trans a252_100
                                refine lv_aload_n hx hb d_M_change_282 rfl (lv_at hl 0 rfl) ?_
                                refine wz_bipush (n := 33) hx hb d_M_change_283 (by decide) ?_
                                refine lv_lconst (v := iL 1) hx hb d_M_change_285 (by decide) ?_
                                obtain ⟨_, _, _, hA286⟩ := (N32).ma
                                refine pw_callv hw (va_runV (As := [.int (iI (33)), .long (iL (1))]) (rest := []) ⟨hx, hb, hml, hown, hq⟩ (c_M_setLong l D ty ad M F281 H.size hM (0) ((nS g : Int)) (pS g) hO_at_281 _ _ _ hA286 (33) (by omega) (1) (by omega)) (cwV 2 hq (gV ml_M_30 im_M_setLong se_M_setLong in_M m_M_setLong) rfl rfl rfl (by decide +kernel) ⟨Nat.le_of_ble_eq_true rfl, Nat.le_of_ble_eq_true rfl⟩) (pw_preV hw (by omega) hO_at_281 rfl) rfl rfl hl.1 rfl (lv_room (Nat.le_of_ble_eq_true rfl)) d_M_change_286 ⟨Nat.le_of_ble_eq_true rfl, Nat.le_of_ble_eq_true rfl⟩) (fun F286 H locs q286 hw => ?_)
                                obtain ⟨N33, hk286, hf286⟩ := q286
                                have hO_at_286 : F286 (98) = .inr (6, [.int (iI (0)), .ref (ad (99)), .ref (ad (100)), .ref (ad (101)), .ref (ad (102)), .int (iI ((nS g : Int))), .int (iI (pS g)), .ref (ad (103))]) := (hf286 (98) (by omega) (by omega) (by omega)).trans hO_at_281
                                have hRn_at_286 : Rn ty F286 (g) := hRn_at_281.kq hk286 (fun c9 h8 h9 => by first | omega | (dsimp only at h9; omega))
                                have Nua_at_286 : Nm ty F286 (ua) (zS g ua) := hk286 _ _ (by omega) (by first | omega | (dsimp only; omega)) Nua_at_281
                                have N16ua_at_286 : Nm ty F286 (16 + ua) (((bS g ua : Nat) : Int)) := hk286 _ _ (by omega) (by first | omega | (dsimp only; omega)) N16ua_at_281
                                have h102_at_286 : F286 (102) = .inl (ty 0, 1400, .inl (tt)) := (hf286 (102) (by omega) (by omega) (by omega)).trans h102_at_281
                                have h103_at_286 : F286 (103) = .inl (ty 0, 700, .inl (dd)) := (hf286 (103) (by omega) (by omega) (by omega)).trans h103_at_281
                                have N41_at_286 : Nm ty F286 (41) ((zS g ua) / ((bS g ua : Nat) : Int)) := hk286 _ _ (by omega) (by first | omega | (dsimp only; omega)) N41_at_281
                                have N32_at_286 : Nm ty F286 (32) ((zS g ua) / ((bS g ua : Nat) : Int)) := hk286 _ _ (by omega) (by first | omega | (dsimp only; omega)) N32
                                refine lv_goto (tgt := 319) hx hb d_M_change_289 (by decide) ?_
                                refine lv_aload_n hx hb d_M_change_319 rfl (lv_at hl 0 rfl) ?_
                                refine lv_iload_n hx hb d_M_change_320 rfl (lv_at hl 1 rfl) ?_
                                refine pw_calli hw (va_runV (As := [.int (iI ((uto : Int)))]) (rest := []) ⟨hx, hb, hml, hown, hq⟩ (c_M_lay l D ty ad M F286 H.size hM (0) ((nS g : Int)) (pS g) hO_at_286 (uto) ((zS g ua) / ((bS g ua : Nat) : Int)) (1) (g) (by omega) (by omega) N32_at_286 N33 hRn_at_286 (fl_md1 hmx) (md_1)) (cwV 1 hq (gV ml_M_89 im_M_lay se_M_lay in_M m_M_lay) rfl rfl rfl (by decide +kernel) ⟨Nat.le_of_ble_eq_true rfl, Nat.le_of_ble_eq_true rfl⟩) (pw_preV hw (by omega) hO_at_286 rfl) rfl rfl hl.1 rfl (lv_room (Nat.le_of_ble_eq_true rfl)) d_M_change_321 ⟨Nat.le_of_ble_eq_true rfl, Nat.le_of_ble_eq_true rfl⟩) (fun r321 F321 H locs q321 hw => ?_)
                                obtain ⟨er321, hRn, hf321⟩ := q321
                                have hO_at_321 : F321 (98) = .inr (6, [.int (iI (0)), .ref (ad (99)), .ref (ad (100)), .ref (ad (101)), .ref (ad (102)), .int (iI ((nS g : Int))), .int (iI (pS g)), .ref (ad (103))]) := (hf321 (98) (by omega) (by omega) (by omega)).trans hO_at_286
                                have h102_at_321 : F321 (102) = .inl (ty 0, 1400, .inl (tt)) := (hf321 (102) (by omega) (by omega) (by omega)).trans h102_at_286
                                have h103_at_321 : F321 (103) = .inl (ty 0, 700, .inl (dd)) := (hf321 (103) (by omega) (by omega) (by omega)).trans h103_at_286
                                rw [← hQ]
                                exact pw_iret hx hb hr hlocks hw (by
                                  rw [o_change_ok ⟨hRto, hRa⟩ ⟨by omega, by omega⟩ hd9 (u := uto) (x := ua) (by omega) (by omega), show kd = 3 by omega, ch_3]
                                  rw [flz_n (by omega)] at er321 hRn
                                  exact ⟨er321, Mo.mk' (s_lay_t ..) hO_at_321 hRn h102_at_321 htt h103_at_321, fun y9 h1 => ((hf321 (y9) (by omega) (by omega) (by omega)).trans ((hf286 (y9) (by omega) (by omega) (by omega)).trans ((show F281 (y9) = F237 (y9) from by rw [eF281]; exact va_up_ne _ _ (by omega)).trans ((hf237 (y9) (by omega) (by omega) (by omega)).trans ((hf229 (y9) (by omega) (by omega) (by omega)).trans ((show F223 (y9) = F73 (y9) from by rw [eF223]; exact va_up_ne _ _ (by omega)).trans ((hf73 (y9) (by omega) (by omega) (by omega)).trans (hf63 (y9) (by omega) (by omega) (by omega))))))))).trans (hfr y9 (by omega))⟩) d_M_change_324
                              · refine lv_aload_n hx hb d_M_change_266 rfl (lv_at hl 0 rfl) ?_
                                refine pw_get (ci := 6) (C := R_M) (T := T_M) (N := 8) hx hb hq i_M hown hw (by omega) hO_at_237 rfl 2 (by decide) (hq _ fl_M_13) (fun _ h9 => h9) rfl d_M_change_267 ?_
                                refine wz_bipush (n := 32) hx hb d_M_change_270 (by decide) ?_
                                obtain ⟨P272, S272, G272, ⟨a272_99, a272_100, a272_101⟩, ⟨nv, hS272, h3272, hD272, ht272, hv272⟩, hG272⟩ := id N32
                                have hz272 := bvP_z ht272
                                rw [hv272] at hz272
                                refine pw_iald (k := 32) hx hb hw 0 (by omega) a272_100 rfl (iI_in (by omega) (by omega) (by omega)) ((iI_cl (by omega) (by omega)).trans (by omega)) d_M_change_272 ?_
                                refine lv_topi (fun x272 ex272 => ?_)
                                obtain rfl : x272 = iI ((nv : Int)) := ex272.trans (hS272)
                                refine wz_if_le (tgt := 280) hx hb d_M_change_273 (by decide) (by omega) (by omega) (fun c273 => ?_) (fun c273 => ?_)
                                · refine wz_iconst (n := 0) hx hb d_M_change_280 ?_
                                  refine pw_zast (k := 32) hx hb hw 4 (by omega) a272_101 rfl (iI_in (by omega) (by omega) (by omega)) ((iI_cl (by omega) (by omega)).trans (by omega)) (y := iI (0)) (by decide) d_M_change_281 (fun F281 H locs eF281 hw => ?_)
                                  have m281_101 : F281 (101) = .inl (ty 4, 43, .inl (upd G272 (32) (iI (0)))) := by rw [eF281]; exact va_up_self ..
                                  obtain ⟨N32, hk281⟩ := Nm_sign (t := 32) (z' := (zS g ua) / ((bS g ua : Nat) : Int)) ⟨a272_99, a272_100, a272_101⟩ ⟨(show F281 (99) = F237 (99) from by rw [eF281]; exact va_up_ne _ _ (by omega)).trans a272_99, (show F281 (100) = F237 (100) from by rw [eF281]; exact va_up_ne _ _ (by omega)).trans a272_100, m281_101⟩ N32 (by omega) (by rw [zB_0 (by omega)]; rfl)
                                  have hO_at_281 : F281 (98) = .inr (6, [.int (iI (0)), .ref (ad (99)), .ref (ad (100)), .ref (ad (101)), .ref (ad (102)), .int (iI ((nS g : Int))), .int (iI (pS g)), .ref (ad (103))]) := (show F281 (98) = F237 (98) from by rw [eF281]; exact va_up_ne _ _ (by omega)).trans hO_at_237
                                  have hRn_at_281 : Rn ty F281 (g) := hRn_at_237.kq hk281 (fun c9 h8 h9 => by first | omega | (dsimp only at h9; omega))
                                  have Nua_at_281 : Nm ty F281 (ua) (zS g ua) := hk281 _ _ (by omega) (by first | omega | (dsimp only; omega)) Nua_at_237
                                  have N16ua_at_281 : Nm ty F281 (16 + ua) (((bS g ua : Nat) : Int)) := hk281 _ _ (by omega) (by first | omega | (dsimp only; omega)) N16ua_at_237
                                  have h102_at_281 : F281 (102) = .inl (ty 0, 1400, .inl (tt)) := (show F281 (102) = F237 (102) from by rw [eF281]; exact va_up_ne _ _ (by omega)).trans h102_at_237
                                  have h103_at_281 : F281 (103) = .inl (ty 0, 700, .inl (dd)) := (show F281 (103) = F237 (103) from by rw [eF281]; exact va_up_ne _ _ (by omega)).trans h103_at_237
                                  have N33_at_281 : Nm ty F281 (33) (((bS g ua : Nat) : Int)) := hk281 _ _ (by omega) (by first | omega | (dsimp only; omega)) N33_at_237
                                  have N41_at_281 : Nm ty F281 (41) ((zS g ua) / ((bS g ua : Nat) : Int)) := hk281 _ _ (by omega) (by first | omega | (dsimp only; omega)) N41_at_237
                                  have a272_99_at_281 : F281 (99) = .inl (ty 0, 12900, .inl (P272)) := (show F281 (99) = F237 (99) from by rw [eF281]; exact va_up_ne _ _ (by omega)).trans a272_99
                                  have a272_100_at_281 : F281 (100) = .inl (ty 0, 43, .inl (S272)) := (show F281 (100) = F237 (100) from by rw [eF281]; exact va_up_ne _ _ (by omega)).trans a272_100
                                  refine lv_aload_n hx hb d_M_change_282 rfl (lv_at hl 0 rfl) ?_
                                  refine wz_bipush (n := 33) hx hb d_M_change_283 (by decide) ?_
                                  refine lv_lconst (v := iL 1) hx hb d_M_change_285 (by decide) ?_
                                  obtain ⟨_, _, _, hA286⟩ := (N32).ma
                                  refine pw_callv hw (va_runV (As := [.int (iI (33)), .long (iL (1))]) (rest := []) ⟨hx, hb, hml, hown, hq⟩ (c_M_setLong l D ty ad M F281 H.size hM (0) ((nS g : Int)) (pS g) hO_at_281 _ _ _ hA286 (33) (by omega) (1) (by omega)) (cwV 2 hq (gV ml_M_30 im_M_setLong se_M_setLong in_M m_M_setLong) rfl rfl rfl (by decide +kernel) ⟨Nat.le_of_ble_eq_true rfl, Nat.le_of_ble_eq_true rfl⟩) (pw_preV hw (by omega) hO_at_281 rfl) rfl rfl hl.1 rfl (lv_room (Nat.le_of_ble_eq_true rfl)) d_M_change_286 ⟨Nat.le_of_ble_eq_true rfl, Nat.le_of_ble_eq_true rfl⟩) (fun F286 H locs q286 hw => ?_)
                                  obtain ⟨N33, hk286, hf286⟩ := q286
                                  have hO_at_286 : F286 (98) = .inr (6, [.int (iI (0)), .ref (ad (99)), .ref (ad (100)), .ref (ad (101)), .ref (ad (102)), .int (iI ((nS g : Int))), .int (iI (pS g)), .ref (ad (103))]) := (hf286 (98) (by omega) (by omega) (by omega)).trans hO_at_281
                                  have hRn_at_286 : Rn ty F286 (g) := hRn_at_281.kq hk286 (fun c9 h8 h9 => by first | omega | (dsimp only at h9; omega))
                                  have Nua_at_286 : Nm ty F286 (ua) (zS g ua) := hk286 _ _ (by omega) (by first | omega | (dsimp only; omega)) Nua_at_281
                                  have N16ua_at_286 : Nm ty F286 (16 + ua) (((bS g ua : Nat) : Int)) := hk286 _ _ (by omega) (by first | omega | (dsimp only; omega)) N16ua_at_281
                                  have h102_at_286 : F286 (102) = .inl (ty 0, 1400, .inl (tt)) := (hf286 (102) (by omega) (by omega) (by omega)).trans h102_at_281
                                  have h103_at_286 : F286 (103) = .inl (ty 0, 700, .inl (dd)) := (hf286 (103) (by omega) (by omega) (by omega)).trans h103_at_281
                                  have N41_at_286 : Nm ty F286 (41) ((zS g ua) / ((bS g ua : Nat) : Int)) := hk286 _ _ (by omega) (by first | omega | (dsimp only; omega)) N41_at_281
                                  have N32_at_286 : Nm ty F286 (32) ((zS g ua) / ((bS g ua : Nat) : Int)) := hk286 _ _ (by omega) (by first | omega | (dsimp only; omega)) N32
                                  refine lv_goto (tgt := 319) hx hb d_M_change_289 (by decide) ?_
                                  refine lv_aload_n hx hb d_M_change_319 rfl (lv_at hl 0 rfl) ?_
                                  refine lv_iload_n hx hb d_M_change_320 rfl (lv_at hl 1 rfl) ?_
                                  refine pw_calli hw (va_runV (As := [.int (iI ((uto : Int)))]) (rest := []) ⟨hx, hb, hml, hown, hq⟩ (c_M_lay l D ty ad M F286 H.size hM (0) ((nS g : Int)) (pS g) hO_at_286 (uto) ((zS g ua) / ((bS g ua : Nat) : Int)) (1) (g) (by omega) (by omega) N32_at_286 N33 hRn_at_286 (fl_md1 hmx) (md_1)) (cwV 1 hq (gV ml_M_89 im_M_lay se_M_lay in_M m_M_lay) rfl rfl rfl (by decide +kernel) ⟨Nat.le_of_ble_eq_true rfl, Nat.le_of_ble_eq_true rfl⟩) (pw_preV hw (by omega) hO_at_286 rfl) rfl rfl hl.1 rfl (lv_room (Nat.le_of_ble_eq_true rfl)) d_M_change_321 ⟨Nat.le_of_ble_eq_true rfl, Nat.le_of_ble_eq_true rfl⟩) (fun r321 F321 H locs q321 hw => ?_)
                                  obtain ⟨er321, hRn, hf321⟩ := q321
                                  have hO_at_321 : F321 (98) = .inr (6, [.int (iI (0)), .ref (ad (99)), .ref (ad (100)), .ref (ad (101)), .ref (ad (102)), .int (iI ((nS g : Int))), .int (iI (pS g)), .ref (ad (103))]) := (hf321 (98) (by omega) (by omega) (by omega)).trans hO_at_286
                                  have h102_at_321 : F321 (102) = .inl (ty 0, 1400, .inl (tt)) := (hf321 (102) (by omega) (by omega) (by omega)).trans h102_at_286
                                  have h103_at_321 : F321 (103) = .inl (ty 0, 700, .inl (dd)) := (hf321 (103) (by omega) (by omega) (by omega)).trans h103_at_286
                                  rw [← hQ]
                                  exact pw_iret hx hb hr hlocks hw (by
                                    rw [o_change_ok ⟨hRto, hRa⟩ ⟨by omega, by omega⟩ hd9 (u := uto) (x := ua) (by omega) (by omega), show kd = 3 by omega, ch_3]
                                    rw [flz_n (by omega)] at er321 hRn
                                    exact ⟨er321, Mo.mk' (s_lay_t ..) hO_at_321 hRn h102_at_321 htt h103_at_321, fun y9 h1 => ((hf321 (y9) (by omega) (by omega) (by omega)).trans ((hf286 (y9) (by omega) (by omega) (by omega)).trans ((show F281 (y9) = F237 (y9) from by rw [eF281]; exact va_up_ne _ _ (by omega)).trans ((hf237 (y9) (by omega) (by omega) (by omega)).trans ((hf229 (y9) (by omega) (by omega) (by omega)).trans ((show F223 (y9) = F73 (y9) from by rw [eF223]; exact va_up_ne _ _ (by omega)).trans ((hf73 (y9) (by omega) (by omega) (by omega)).trans (hf63 (y9) (by omega) (by omega) (by omega))))))))).trans (hfr y9 (by omega))⟩) d_M_change_324
                                · refine wz_iconst (n := 1) hx hb d_M_change_276 ?_
                                  refine lv_goto (tgt := 281) hx hb d_M_change_277 (by decide) ?_
                                  refine pw_zast (k := 32) hx hb hw 4 (by omega) a272_101 rfl (iI_in (by omega) (by omega) (by omega)) ((iI_cl (by omega) (by omega)).trans (by omega)) (y := iI (1)) (by decide) d_M_change_281 (fun F281 H locs eF281 hw => ?_)
                                  have m281_101 : F281 (101) = .inl (ty 4, 43, .inl (upd G272 (32) (iI (1)))) := by rw [eF281]; exact va_up_self ..
                                  obtain ⟨N32, hk281⟩ := Nm_sign (t := 32) (z' := (zS g ua) / ((bS g ua : Nat) : Int)) ⟨a272_99, a272_100, a272_101⟩ ⟨(show F281 (99) = F237 (99) from by rw [eF281]; exact va_up_ne _ _ (by omega)).trans a272_99, (show F281 (100) = F237 (100) from by rw [eF281]; exact va_up_ne _ _ (by omega)).trans a272_100, m281_101⟩ N32 (by omega) (by rw [zB_1 (by omega)]; rfl)
                                  have hO_at_281 : F281 (98) = .inr (6, [.int (iI (0)), .ref (ad (99)), .ref (ad (100)), .ref (ad (101)), .ref (ad (102)), .int (iI ((nS g : Int))), .int (iI (pS g)), .ref (ad (103))]) := (show F281 (98) = F237 (98) from by rw [eF281]; exact va_up_ne _ _ (by omega)).trans hO_at_237
                                  have hRn_at_281 : Rn ty F281 (g) := hRn_at_237.kq hk281 (fun c9 h8 h9 => by first | omega | (dsimp only at h9; omega))
                                  have Nua_at_281 : Nm ty F281 (ua) (zS g ua) := hk281 _ _ (by omega) (by first | omega | (dsimp only; omega)) Nua_at_237
                                  have N16ua_at_281 : Nm ty F281 (16 + ua) (((bS g ua : Nat) : Int)) := hk281 _ _ (by omega) (by first | omega | (dsimp only; omega)) N16ua_at_237
                                  have h102_at_281 : F281 (102) = .inl (ty 0, 1400, .inl (tt)) := (show F281 (102) = F237 (102) from by rw [eF281]; exact va_up_ne _ _ (by omega)).trans h102_at_237
                                  have h103_at_281 : F281 (103) = .inl (ty 0, 700, .inl (dd)) := (show F281 (103) = F237 (103) from by rw [eF281]; exact va_up_ne _ _ (by omega)).trans h103_at_237
                                  have N33_at_281 : Nm ty F281 (33) (((bS g ua : Nat) : Int)) := hk281 _ _ (by omega) (by first | omega | (dsimp only; omega)) N33_at_237
                                  have N41_at_281 : Nm ty F281 (41) ((zS g ua) / ((bS g ua : Nat) : Int)) := hk281 _ _ (by omega) (by first | omega | (dsimp only; omega)) N41_at_237
                                  have a272_99_at_281 : F281 (99) = .inl (ty 0, 12900, .inl (P272)) := (show F281 (99) = F237 (99) from by rw [eF281]; exact va_up_ne _ _ (by omega)).trans a272_99
                                  have a272_100_at_281 : F281 (100) = .inl (ty 0, 43, .inl (S272)) := (show F281 (100) = F237 (100) from by rw [eF281]; exact va_up_ne _ _ (by omega)).trans a272_100
                                  refine lv_aload_n hx hb d_M_change_282 rfl (lv_at hl 0 rfl) ?_
                                  refine wz_bipush (n := 33) hx hb d_M_change_283 (by decide) ?_
                                  refine lv_lconst (v := iL 1) hx hb d_M_change_285 (by decide) ?_
                                  obtain ⟨_, _, _, hA286⟩ := (N32).ma
                                  refine pw_callv hw (va_runV (As := [.int (iI (33)), .long (iL (1))]) (rest := []) ⟨hx, hb, hml, hown, hq⟩ (c_M_setLong l D ty ad M F281 H.size hM (0) ((nS g : Int)) (pS g) hO_at_281 _ _ _ hA286 (33) (by omega) (1) (by omega)) (cwV 2 hq (gV ml_M_30 im_M_setLong se_M_setLong in_M m_M_setLong) rfl rfl rfl (by decide +kernel) ⟨Nat.le_of_ble_eq_true rfl, Nat.le_of_ble_eq_true rfl⟩) (pw_preV hw (by omega) hO_at_281 rfl) rfl rfl hl.1 rfl (lv_room (Nat.le_of_ble_eq_true rfl)) d_M_change_286 ⟨Nat.le_of_ble_eq_true rfl, Nat.le_of_ble_eq_true rfl⟩) (fun F286 H locs q286 hw => ?_)
                                  obtain ⟨N33, hk286, hf286⟩ := q286
                                  have hO_at_286 : F286 (98) = .inr (6, [.int (iI (0)), .ref (ad (99)), .ref (ad (100)), .ref (ad (101)), .ref (ad (102)), .int (iI ((nS g : Int))), .int (iI (pS g)), .ref (ad (103))]) := (hf286 (98) (by omega) (by omega) (by omega)).trans hO_at_281
                                  have hRn_at_286 : Rn ty F286 (g) := hRn_at_281.kq hk286 (fun c9 h8 h9 => by first | omega | (dsimp only at h9; omega))
                                  have Nua_at_286 : Nm ty F286 (ua) (zS g ua) := hk286 _ _ (by omega) (by first | omega | (dsimp only; omega)) Nua_at_281
                                  have N16ua_at_286 : Nm ty F286 (16 + ua) (((bS g ua : Nat) : Int)) := hk286 _ _ (by omega) (by first | omega | (dsimp only; omega)) N16ua_at_281
                                  have h102_at_286 : F286 (102) = .inl (ty 0, 1400, .inl (tt)) := (hf286 (102) (by omega) (by omega) (by omega)).trans h102_at_281
                                  have h103_at_286 : F286 (103) = .inl (ty 0, 700, .inl (dd)) := (hf286 (103) (by omega) (by omega) (by omega)).trans h103_at_281
                                  have N41_at_286 : Nm ty F286 (41) ((zS g ua) / ((bS g ua : Nat) : Int)) := hk286 _ _ (by omega) (by first | omega | (dsimp only; omega)) N41_at_281
                                  have N32_at_286 : Nm ty F286 (32) ((zS g ua) / ((bS g ua : Nat) : Int)) := hk286 _ _ (by omega) (by first | omega | (dsimp only; omega)) N32
                                  refine lv_goto (tgt := 319) hx hb d_M_change_289 (by decide) ?_
                                  refine lv_aload_n hx hb d_M_change_319 rfl (lv_at hl 0 rfl) ?_
                                  refine lv_iload_n hx hb d_M_change_320 rfl (lv_at hl 1 rfl) ?_
                                  refine pw_calli hw (va_runV (As := [.int (iI ((uto : Int)))]) (rest := []) ⟨hx, hb, hml, hown, hq⟩ (c_M_lay l D ty ad M F286 H.size hM (0) ((nS g : Int)) (pS g) hO_at_286 (uto) ((zS g ua) / ((bS g ua : Nat) : Int)) (1) (g) (by omega) (by omega) N32_at_286 N33 hRn_at_286 (fl_md1 hmx) (md_1)) (cwV 1 hq (gV ml_M_89 im_M_lay se_M_lay in_M m_M_lay) rfl rfl rfl (by decide +kernel) ⟨Nat.le_of_ble_eq_true rfl, Nat.le_of_ble_eq_true rfl⟩) (pw_preV hw (by omega) hO_at_286 rfl) rfl rfl hl.1 rfl (lv_room (Nat.le_of_ble_eq_true rfl)) d_M_change_321 ⟨Nat.le_of_ble_eq_true rfl, Nat.le_of_ble_eq_true rfl⟩) (fun r321 F321 H locs q321 hw => ?_)
                                  obtain ⟨er321, hRn, hf321⟩ := q321
                                  have hO_at_321 : F321 (98) = .inr (6, [.int (iI (0)), .ref (ad (99)), .ref (ad (100)), .ref (ad (101)), .ref (ad (102)), .int (iI ((nS g : Int))), .int (iI (pS g)), .ref (ad (103))]) := (hf321 (98) (by omega) (by omega) (by omega)).trans hO_at_286
                                  have h102_at_321 : F321 (102) = .inl (ty 0, 1400, .inl (tt)) := (hf321 (102) (by omega) (by omega) (by omega)).trans h102_at_286
                                  have h103_at_321 : F321 (103) = .inl (ty 0, 700, .inl (dd)) := (hf321 (103) (by omega) (by omega) (by omega)).trans h103_at_286
                                  rw [← hQ]
                                  exact pw_iret hx hb hr hlocks hw (by
                                    rw [o_change_ok ⟨hRto, hRa⟩ ⟨by omega, by omega⟩ hd9 (u := uto) (x := ua) (by omega) (by omega), show kd = 3 by omega, ch_3]
                                    rw [flz_n (by omega)] at er321 hRn
                                    exact ⟨er321, Mo.mk' (s_lay_t ..) hO_at_321 hRn h102_at_321 htt h103_at_321, fun y9 h1 => ((hf321 (y9) (by omega) (by omega) (by omega)).trans ((hf286 (y9) (by omega) (by omega) (by omega)).trans ((show F281 (y9) = F237 (y9) from by rw [eF281]; exact va_up_ne _ _ (by omega)).trans ((hf237 (y9) (by omega) (by omega) (by omega)).trans ((hf229 (y9) (by omega) (by omega) (by omega)).trans ((show F223 (y9) = F73 (y9) from by rw [eF223]; exact va_up_ne _ _ (by omega)).trans ((hf73 (y9) (by omega) (by omega) (by omega)).trans (hf63 (y9) (by omega) (by omega) (by omega))))))))).trans (hfr y9 (by omega))⟩) d_M_change_324
                            · exact absurd c255 (by omega)
                          · refine lv_aload_n hx hb d_M_change_208 rfl (lv_at hl 0 rfl) ?_
                            refine pw_get (ci := 6) (C := R_M) (T := T_M) (N := 8) hx hb hq i_M hown hw (by omega) hO_at_73 rfl 2 (by decide) (hq _ fl_M_13) (fun _ h9 => h9) rfl d_M_change_209 ?_
                            refine wz_bipush (n := 32) hx hb d_M_change_212 (by decide) ?_
                            obtain ⟨P214, S214, G214, ⟨a214_99, a214_100, a214_101⟩, ⟨nt, hS214, h3214, hD214, ht214, hv214⟩, hG214⟩ := id N32_at_73
                            have hz214 := bvP_z ht214
                            rw [hv214] at hz214
                            refine pw_iald (k := 32) hx hb hw 0 (by omega) a214_100 rfl (iI_in (by omega) (by omega) (by omega)) ((iI_cl (by omega) (by omega)).trans (by omega)) d_M_change_214 ?_
                            refine lv_topi (fun x214 ex214 => ?_)
                            obtain rfl : x214 = iI ((nt : Int)) := ex214.trans (hS214)
                            refine wz_if_le (tgt := 222) hx hb d_M_change_215 (by decide) (by omega) (by omega) (fun c215 => ?_) (fun c215 => ?_)
                            · refine wz_iconst (n := 0) hx hb d_M_change_222 ?_
                              refine pw_zast (k := 32) hx hb hw 4 (by omega) a214_101 rfl (iI_in (by omega) (by omega) (by omega)) ((iI_cl (by omega) (by omega)).trans (by omega)) (y := iI (0)) (by decide) d_M_change_223 (fun F223 H locs eF223 hw => ?_)
                              have m223_101 : F223 (101) = .inl (ty 4, 43, .inl (upd G214 (32) (iI (0)))) := by rw [eF223]; exact va_up_self ..
                              obtain ⟨N32, hk223⟩ := Nm_sign (t := 32) (z' := zS g ua) ⟨a214_99, a214_100, a214_101⟩ ⟨(show F223 (99) = F73 (99) from by rw [eF223]; exact va_up_ne _ _ (by omega)).trans a214_99, (show F223 (100) = F73 (100) from by rw [eF223]; exact va_up_ne _ _ (by omega)).trans a214_100, m223_101⟩ N32_at_73 (by omega) (by rw [zB_0 (by omega)]; rfl)
                              have hO_at_223 : F223 (98) = .inr (6, [.int (iI (0)), .ref (ad (99)), .ref (ad (100)), .ref (ad (101)), .ref (ad (102)), .int (iI ((nS g : Int))), .int (iI (pS g)), .ref (ad (103))]) := (show F223 (98) = F73 (98) from by rw [eF223]; exact va_up_ne _ _ (by omega)).trans hO_at_73
                              have hRn_at_223 : Rn ty F223 (g) := hRn_at_73.kq hk223 (fun c9 h8 h9 => by first | omega | (dsimp only at h9; omega))
                              have Nua_at_223 : Nm ty F223 (ua) (zS g ua) := hk223 _ _ (by omega) (by first | omega | (dsimp only; omega)) Nua_at_73
                              have N16ua_at_223 : Nm ty F223 (16 + ua) (((bS g ua : Nat) : Int)) := hk223 _ _ (by omega) (by first | omega | (dsimp only; omega)) N16ua_at_73
                              have h102_at_223 : F223 (102) = .inl (ty 0, 1400, .inl (tt)) := (show F223 (102) = F73 (102) from by rw [eF223]; exact va_up_ne _ _ (by omega)).trans h102_at_73
                              have h103_at_223 : F223 (103) = .inl (ty 0, 700, .inl (dd)) := (show F223 (103) = F73 (103) from by rw [eF223]; exact va_up_ne _ _ (by omega)).trans h103_at_73
                              have N33_at_223 : Nm ty F223 (33) (((bS g ua : Nat) : Int)) := hk223 _ _ (by omega) (by first | omega | (dsimp only; omega)) N33
                              have a214_99_at_223 : F223 (99) = .inl (ty 0, 12900, .inl (P214)) := (show F223 (99) = F73 (99) from by rw [eF223]; exact va_up_ne _ _ (by omega)).trans a214_99
                              have a214_100_at_223 : F223 (100) = .inl (ty 0, 43, .inl (S214)) := (show F223 (100) = F73 (100) from by rw [eF223]; exact va_up_ne _ _ (by omega)).trans a214_100
                              refine lv_aload_n hx hb d_M_change_224 rfl (lv_at hl 0 rfl) ?_
                              refine wz_bipush (n := 32) hx hb d_M_change_225 (by decide) ?_
                              refine wz_bipush (n := 33) hx hb d_M_change_227 (by decide) ?_
                              refine pw_callv hw (va_runV (As := [.int (iI (32)), .int (iI (33))]) (rest := []) ⟨hx, hb, hml, hown, hq⟩ (c_M_floor l D ty ad M F223 H.size hM (0) ((nS g : Int)) (pS g) hO_at_223 (32) (33) (zS g ua) (((bS g ua : Nat) : Int)) (by omega) (by omega) (by omega) (by omega) (by omega) N32 N33_at_223 (hmx) (hmb)) (cwV 2 hq (gV ml_M_95 im_M_floor se_M_floor in_M m_M_floor) rfl rfl rfl (by decide +kernel) ⟨Nat.le_of_ble_eq_true rfl, Nat.le_of_ble_eq_true rfl⟩) (pw_preV hw (by omega) hO_at_223 rfl) rfl rfl hl.1 rfl (lv_room (Nat.le_of_ble_eq_true rfl)) d_M_change_229 ⟨Nat.le_of_ble_eq_true rfl, Nat.le_of_ble_eq_true rfl⟩) (fun F229 H locs q229 hw => ?_)
                              obtain ⟨N41, hk229, hf229⟩ := q229
                              have hO_at_229 : F229 (98) = .inr (6, [.int (iI (0)), .ref (ad (99)), .ref (ad (100)), .ref (ad (101)), .ref (ad (102)), .int (iI ((nS g : Int))), .int (iI (pS g)), .ref (ad (103))]) := (hf229 (98) (by omega) (by omega) (by omega)).trans hO_at_223
                              have hRn_at_229 : Rn ty F229 (g) := hRn_at_223.kq hk229 (fun c9 h8 h9 => by first | omega | (dsimp only at h9; omega))
                              have Nua_at_229 : Nm ty F229 (ua) (zS g ua) := hk229 _ _ (by omega) (by first | omega | (dsimp only; omega)) Nua_at_223
                              have N16ua_at_229 : Nm ty F229 (16 + ua) (((bS g ua : Nat) : Int)) := hk229 _ _ (by omega) (by first | omega | (dsimp only; omega)) N16ua_at_223
                              have h102_at_229 : F229 (102) = .inl (ty 0, 1400, .inl (tt)) := (hf229 (102) (by omega) (by omega) (by omega)).trans h102_at_223
                              have h103_at_229 : F229 (103) = .inl (ty 0, 700, .inl (dd)) := (hf229 (103) (by omega) (by omega) (by omega)).trans h103_at_223
                              have N33_at_229 : Nm ty F229 (33) (((bS g ua : Nat) : Int)) := hk229 _ _ (by omega) (by first | omega | (dsimp only; omega)) N33_at_223
                              have N32_at_229 : Nm ty F229 (32) (zS g ua) := hk229 _ _ (by omega) (by first | omega | (dsimp only; omega)) N32
                              refine lv_aload_n hx hb d_M_change_232 rfl (lv_at hl 0 rfl) ?_
                              refine wz_bipush (n := 32) hx hb d_M_change_233 (by decide) ?_
                              refine wz_bipush (n := 41) hx hb d_M_change_235 (by decide) ?_
                              refine pw_callv hw (va_runV (As := [.int (iI (32)), .int (iI (41))]) (rest := []) ⟨hx, hb, hml, hown, hq⟩ (c_M_copy l D ty ad M F229 H.size hM (0) ((nS g : Int)) (pS g) hO_at_229 (32) (41) (by omega) (by omega) (by omega) ((zS g ua) / ((bS g ua : Nat) : Int)) N41) (cwV 2 hq (gV ml_M_55 im_M_copy se_M_copy in_M m_M_copy) rfl rfl rfl (by decide +kernel) ⟨Nat.le_of_ble_eq_true rfl, Nat.le_of_ble_eq_true rfl⟩) (pw_preV hw (by omega) hO_at_229 rfl) rfl rfl hl.1 rfl (lv_room (Nat.le_of_ble_eq_true rfl)) d_M_change_237 ⟨Nat.le_of_ble_eq_true rfl, Nat.le_of_ble_eq_true rfl⟩) (fun F237 H locs q237 hw => ?_)
                              obtain ⟨N32, hk237, hf237⟩ := q237
                              have hO_at_237 : F237 (98) = .inr (6, [.int (iI (0)), .ref (ad (99)), .ref (ad (100)), .ref (ad (101)), .ref (ad (102)), .int (iI ((nS g : Int))), .int (iI (pS g)), .ref (ad (103))]) := (hf237 (98) (by omega) (by omega) (by omega)).trans hO_at_229
                              have hRn_at_237 : Rn ty F237 (g) := hRn_at_229.kq hk237 (fun c9 h8 h9 => by first | omega | (dsimp only at h9; omega))
                              have Nua_at_237 : Nm ty F237 (ua) (zS g ua) := hk237 _ _ (by omega) (by first | omega | (dsimp only; omega)) Nua_at_229
                              have N16ua_at_237 : Nm ty F237 (16 + ua) (((bS g ua : Nat) : Int)) := hk237 _ _ (by omega) (by first | omega | (dsimp only; omega)) N16ua_at_229
                              have h102_at_237 : F237 (102) = .inl (ty 0, 1400, .inl (tt)) := (hf237 (102) (by omega) (by omega) (by omega)).trans h102_at_229
                              have h103_at_237 : F237 (103) = .inl (ty 0, 700, .inl (dd)) := (hf237 (103) (by omega) (by omega) (by omega)).trans h103_at_229
                              have N33_at_237 : Nm ty F237 (33) (((bS g ua : Nat) : Int)) := hk237 _ _ (by omega) (by first | omega | (dsimp only; omega)) N33_at_229
                              have N41_at_237 : Nm ty F237 (41) ((zS g ua) / ((bS g ua : Nat) : Int)) := hk237 _ _ (by omega) (by first | omega | (dsimp only; omega)) N41
                              refine lv_aload_n hx hb d_M_change_240 rfl (lv_at hl 0 rfl) ?_
                              refine pw_get (ci := 6) (C := R_M) (T := T_M) (N := 8) hx hb hq i_M hown hw (by omega) hO_at_237 rfl 3 (by decide) (hq _ fl_M_16) (fun _ h9 => h9) rfl d_M_change_241 ?_
                              refine wz_bipush (n := 32) hx hb d_M_change_244 (by decide) ?_
                              refine lv_aload_n hx hb d_M_change_246 rfl (lv_at hl 0 rfl) ?_
                              refine pw_get (ci := 6) (C := R_M) (T := T_M) (N := 8) hx hb hq i_M hown hw (by omega) hO_at_237 rfl 3 (by decide) (hq _ fl_M_16) (fun _ h9 => h9) rfl d_M_change_247 ?_
                              refine wz_bipush (n := 32) hx hb d_M_change_250 (by decide) ?_
                              obtain ⟨P252, S252, G252, ⟨a252_99, a252_100, a252_101⟩, ⟨n252, hS252, h3252, hD252, ht252, hv252⟩, hG252⟩ := id N32
                              have hs252 := sB_c ((zS g ua) / ((bS g ua : Nat) : Int))
                              refine pw_zald (k := 32) hx hb hw 4 (by omega) a252_101 rfl (iI_in (by omega) (by omega) (by omega)) ((iI_cl (by omega) (by omega)).trans (by omega)) d_M_change_252 ?_
                              refine lv_topi (fun x252 ex252 => ?_)
                              obtain rfl : x252 = iI ((sB ((zS g ua) / ((bS g ua : Nat) : Int)) : Int)) := ex252.trans (hG252)
                              refine lv_iload_n hx hb d_M_change_253 rfl (lv_at hl 2 rfl) ?_
                              refine wz_iconst (n := 4) hx hb d_M_change_254 ?_
                              refine wz_icmp_ne (tgt := 262) hx hb d_M_change_255 (by decide) (by omega) (by omega) (by omega) (by omega) (fun c255 => ?_) (fun c255 => ?_)
                              · refine wz_iconst (n := 0) hx hb d_M_change_262 ?_
                                refine wz_icmp_eq (tgt := 280) hx hb d_M_change_263 (by decide) (by omega) (by omega) (by omega) (by omega) (fun c263 => ?_) (fun c263 => ?_)
                                · refine wz_iconst (n := 0) hx hb d_M_change_280 ?_
                                  refine pw_zast (k := 32) hx hb hw 4 (by omega) a252_101 rfl (iI_in (by omega) (by omega) (by omega)) ((iI_cl (by omega) (by omega)).trans (by omega)) (y := iI (0)) (by decide) d_M_change_281 (fun F281 H locs eF281 hw => ?_)
                                  have m281_101 : F281 (101) = .inl (ty 4, 43, .inl (upd G252 (32) (iI (0)))) := by rw [eF281]; exact va_up_self ..
                                  obtain ⟨N32, hk281⟩ := Nm_sign (t := 32) (z' := (zS g ua) / ((bS g ua : Nat) : Int)) ⟨a252_99, a252_100, a252_101⟩ ⟨(show F281 (99) = F237 (99) from by rw [eF281]; exact va_up_ne _ _ (by omega)).trans a252_99, (show F281 (100) = F237 (100) from by rw [eF281]; exact va_up_ne _ _ (by omega)).trans a252_100, m281_101⟩ N32 (by omega) (by rw [zB_0 (by omega)]; rfl)
                                  have hO_at_281 : F281 (98) = .inr (6, [.int (iI (0)), .ref (ad (99)), .ref (ad (100)), .ref (ad (101)), .ref (ad (102)), .int (iI ((nS g : Int))), .int (iI (pS g)), .ref (ad (103))]) := (show F281 (98) = F237 (98) from by rw [eF281]; exact va_up_ne _ _ (by omega)).trans hO_at_237
                                  have hRn_at_281 : Rn ty F281 (g) := hRn_at_237.kq hk281 (fun c9 h8 h9 => by first | omega | (dsimp only at h9; omega))
                                  have Nua_at_281 : Nm ty F281 (ua) (zS g ua) := hk281 _ _ (by omega) (by first | omega | (dsimp only; omega)) Nua_at_237
                                  have N16ua_at_281 : Nm ty F281 (16 + ua) (((bS g ua : Nat) : Int)) := hk281 _ _ (by omega) (by first | omega | (dsimp only; omega)) N16ua_at_237
                                  have h102_at_281 : F281 (102) = .inl (ty 0, 1400, .inl (tt)) := (show F281 (102) = F237 (102) from by rw [eF281]; exact va_up_ne _ _ (by omega)).trans h102_at_237
                                  have h103_at_281 : F281 (103) = .inl (ty 0, 700, .inl (dd)) := (show F281 (103) = F237 (103) from by rw [eF281]; exact va_up_ne _ _ (by omega)).trans h103_at_237
                                  have N33_at_281 : Nm ty F281 (33) (((bS g ua : Nat) : Int)) := hk281 _ _ (by omega) (by first | omega | (dsimp only; omega)) N33_at_237
                                  have N41_at_281 : Nm ty F281 (41) ((zS g ua) / ((bS g ua : Nat) : Int)) := hk281 _ _ (by omega) (by first | omega | (dsimp only; omega)) N41_at_237
                                  have a252_99_at_281 : F281 (99) = .inl (ty 0, 12900, .inl (P252)) := (show F281 (99) = F237 (99) from by rw [eF281]; exact va_up_ne _ _ (by omega)).trans a252_99
                                  have a252_100_at_281 : F281 (100) = .inl (ty 0, 43, .inl (S252)) := (show F281 (100) = F237 (100) from by rw [eF281]; exact va_up_ne _ _ (by omega)).trans a252_100
                                  refine lv_aload_n hx hb d_M_change_282 rfl (lv_at hl 0 rfl) ?_
                                  refine wz_bipush (n := 33) hx hb d_M_change_283 (by decide) ?_
                                  refine lv_lconst (v := iL 1) hx hb d_M_change_285 (by decide) ?_
                                  obtain ⟨_, _, _, hA286⟩ := (N32).ma
                                  refine pw_callv hw (va_runV (As := [.int (iI (33)), .long (iL (1))]) (rest := []) ⟨hx, hb, hml, hown, hq⟩ (c_M_setLong l D ty ad M F281 H.size hM (0) ((nS g : Int)) (pS g) hO_at_281 _ _ _ hA286 (33) (by omega) (1) (by omega)) (cwV 2 hq (gV ml_M_30 im_M_setLong se_M_setLong in_M m_M_setLong) rfl rfl rfl (by decide +kernel) ⟨Nat.le_of_ble_eq_true rfl, Nat.le_of_ble_eq_true rfl⟩) (pw_preV hw (by omega) hO_at_281 rfl) rfl rfl hl.1 rfl (lv_room (Nat.le_of_ble_eq_true rfl)) d_M_change_286 ⟨Nat.le_of_ble_eq_true rfl, Nat.le_of_ble_eq_true rfl⟩) (fun F286 H locs q286 hw => ?_)
                                  obtain ⟨N33, hk286, hf286⟩ := q286
                                  have hO_at_286 : F286 (98) = .inr (6, [.int (iI (0)), .ref (ad (99)), .ref (ad (100)), .ref (ad (101)), .ref (ad (102)), .int (iI ((nS g : Int))), .int (iI (pS g)), .ref (ad (103))]) := (hf286 (98) (by omega) (by omega) (by omega)).trans hO_at_281
                                  have hRn_at_286 : Rn ty F286 (g) := hRn_at_281.kq hk286 (fun c9 h8 h9 => by first | omega | (dsimp only at h9; omega))
                                  have Nua_at_286 : Nm ty F286 (ua) (zS g ua) := hk286 _ _ (by omega) (by first | omega | (dsimp only; omega)) Nua_at_281
                                  have N16ua_at_286 : Nm ty F286 (16 + ua) (((bS g ua : Nat) : Int)) := hk286 _ _ (by omega) (by first | omega | (dsimp only; omega)) N16ua_at_281
                                  have h102_at_286 : F286 (102) = .inl (ty 0, 1400, .inl (tt)) := (hf286 (102) (by omega) (by omega) (by omega)).trans h102_at_281
                                  have h103_at_286 : F286 (103) = .inl (ty 0, 700, .inl (dd)) := (hf286 (103) (by omega) (by omega) (by omega)).trans h103_at_281
                                  have N41_at_286 : Nm ty F286 (41) ((zS g ua) / ((bS g ua : Nat) : Int)) := hk286 _ _ (by omega) (by first | omega | (dsimp only; omega)) N41_at_281
                                  have N32_at_286 : Nm ty F286 (32) ((zS g ua) / ((bS g ua : Nat) : Int)) := hk286 _ _ (by omega) (by first | omega | (dsimp only; omega)) N32
                                  refine lv_goto (tgt := 319) hx hb d_M_change_289 (by decide) ?_
                                  refine lv_aload_n hx hb d_M_change_319 rfl (lv_at hl 0 rfl) ?_
                                  refine lv_iload_n hx hb d_M_change_320 rfl (lv_at hl 1 rfl) ?_
                                  refine pw_calli hw (va_runV (As := [.int (iI ((uto : Int)))]) (rest := []) ⟨hx, hb, hml, hown, hq⟩ (c_M_lay l D ty ad M F286 H.size hM (0) ((nS g : Int)) (pS g) hO_at_286 (uto) ((zS g ua) / ((bS g ua : Nat) : Int)) (1) (g) (by omega) (by omega) N32_at_286 N33 hRn_at_286 (fl_md1 hmx) (md_1)) (cwV 1 hq (gV ml_M_89 im_M_lay se_M_lay in_M m_M_lay) rfl rfl rfl (by decide +kernel) ⟨Nat.le_of_ble_eq_true rfl, Nat.le_of_ble_eq_true rfl⟩) (pw_preV hw (by omega) hO_at_286 rfl) rfl rfl hl.1 rfl (lv_room (Nat.le_of_ble_eq_true rfl)) d_M_change_321 ⟨Nat.le_of_ble_eq_true rfl, Nat.le_of_ble_eq_true rfl⟩) (fun r321 F321 H locs q321 hw => ?_)
                                  obtain ⟨er321, hRn, hf321⟩ := q321
                                  have hO_at_321 : F321 (98) = .inr (6, [.int (iI (0)), .ref (ad (99)), .ref (ad (100)), .ref (ad (101)), .ref (ad (102)), .int (iI ((nS g : Int))), .int (iI (pS g)), .ref (ad (103))]) := (hf321 (98) (by omega) (by omega) (by omega)).trans hO_at_286
                                  have h102_at_321 : F321 (102) = .inl (ty 0, 1400, .inl (tt)) := (hf321 (102) (by omega) (by omega) (by omega)).trans h102_at_286
                                  have h103_at_321 : F321 (103) = .inl (ty 0, 700, .inl (dd)) := (hf321 (103) (by omega) (by omega) (by omega)).trans h103_at_286
                                  rw [← hQ]
                                  exact pw_iret hx hb hr hlocks hw (by
                                    rw [o_change_ok ⟨hRto, hRa⟩ ⟨by omega, by omega⟩ hd9 (u := uto) (x := ua) (by omega) (by omega), show kd = 3 by omega, ch_3]
                                    rw [flz_n (by omega)] at er321 hRn
                                    exact ⟨er321, Mo.mk' (s_lay_t ..) hO_at_321 hRn h102_at_321 htt h103_at_321, fun y9 h1 => ((hf321 (y9) (by omega) (by omega) (by omega)).trans ((hf286 (y9) (by omega) (by omega) (by omega)).trans ((show F281 (y9) = F237 (y9) from by rw [eF281]; exact va_up_ne _ _ (by omega)).trans ((hf237 (y9) (by omega) (by omega) (by omega)).trans ((hf229 (y9) (by omega) (by omega) (by omega)).trans ((show F223 (y9) = F73 (y9) from by rw [eF223]; exact va_up_ne _ _ (by omega)).trans ((hf73 (y9) (by omega) (by omega) (by omega)).trans (hf63 (y9) (by omega) (by omega) (by omega))))))))).trans (hfr y9 (by omega))⟩) d_M_change_324
                                · refine lv_aload_n hx hb d_M_change_266 rfl (lv_at hl 0 rfl) ?_
                                  refine pw_get (ci := 6) (C := R_M) (T := T_M) (N := 8) hx hb hq i_M hown hw (by omega) hO_at_237 rfl 2 (by decide) (hq _ fl_M_13) (fun _ h9 => h9) rfl d_M_change_267 ?_
                                  refine wz_bipush (n := 32) hx hb d_M_change_270 (by decide) ?_
                                  obtain ⟨P272, S272, G272, ⟨a272_99, a272_100, a272_101⟩, ⟨nv, hS272, h3272, hD272, ht272, hv272⟩, hG272⟩ := id N32
                                  have hz272 := bvP_z ht272
                                  rw [hv272] at hz272
                                  refine pw_iald (k := 32) hx hb hw 0 (by omega) a272_100 rfl (iI_in (by omega) (by omega) (by omega)) ((iI_cl (by omega) (by omega)).trans (by omega)) d_M_change_272 ?_
                                  refine lv_topi (fun x272 ex272 => ?_)
                                  obtain rfl : x272 = iI ((nv : Int)) := ex272.trans (hS272)
                                  refine wz_if_le (tgt := 280) hx hb d_M_change_273 (by decide) (by omega) (by omega) (fun c273 => ?_) (fun c273 => ?_)
                                  · refine wz_iconst (n := 0) hx hb d_M_change_280 ?_
                                    refine pw_zast (k := 32) hx hb hw 4 (by omega) a272_101 rfl (iI_in (by omega) (by omega) (by omega)) ((iI_cl (by omega) (by omega)).trans (by omega)) (y := iI (0)) (by decide) d_M_change_281 (fun F281 H locs eF281 hw => ?_)
                                    have m281_101 : F281 (101) = .inl (ty 4, 43, .inl (upd G272 (32) (iI (0)))) := by rw [eF281]; exact va_up_self ..
                                    obtain ⟨N32, hk281⟩ := Nm_sign (t := 32) (z' := (zS g ua) / ((bS g ua : Nat) : Int)) ⟨a272_99, a272_100, a272_101⟩ ⟨(show F281 (99) = F237 (99) from by rw [eF281]; exact va_up_ne _ _ (by omega)).trans a272_99, (show F281 (100) = F237 (100) from by rw [eF281]; exact va_up_ne _ _ (by omega)).trans a272_100, m281_101⟩ N32 (by omega) (by rw [zB_0 (by omega)]; rfl)
                                    have hO_at_281 : F281 (98) = .inr (6, [.int (iI (0)), .ref (ad (99)), .ref (ad (100)), .ref (ad (101)), .ref (ad (102)), .int (iI ((nS g : Int))), .int (iI (pS g)), .ref (ad (103))]) := (show F281 (98) = F237 (98) from by rw [eF281]; exact va_up_ne _ _ (by omega)).trans hO_at_237
                                    have hRn_at_281 : Rn ty F281 (g) := hRn_at_237.kq hk281 (fun c9 h8 h9 => by first | omega | (dsimp only at h9; omega))
                                    have Nua_at_281 : Nm ty F281 (ua) (zS g ua) := hk281 _ _ (by omega) (by first | omega | (dsimp only; omega)) Nua_at_237
                                    have N16ua_at_281 : Nm ty F281 (16 + ua) (((bS g ua : Nat) : Int)) := hk281 _ _ (by omega) (by first | omega | (dsimp only; omega)) N16ua_at_237
                                    have h102_at_281 : F281 (102) = .inl (ty 0, 1400, .inl (tt)) := (show F281 (102) = F237 (102) from by rw [eF281]; exact va_up_ne _ _ (by omega)).trans h102_at_237
                                    have h103_at_281 : F281 (103) = .inl (ty 0, 700, .inl (dd)) := (show F281 (103) = F237 (103) from by rw [eF281]; exact va_up_ne _ _ (by omega)).trans h103_at_237
                                    have N33_at_281 : Nm ty F281 (33) (((bS g ua : Nat) : Int)) := hk281 _ _ (by omega) (by first | omega | (dsimp only; omega)) N33_at_237
                                    have N41_at_281 : Nm ty F281 (41) ((zS g ua) / ((bS g ua : Nat) : Int)) := hk281 _ _ (by omega) (by first | omega | (dsimp only; omega)) N41_at_237
                                    have a272_99_at_281 : F281 (99) = .inl (ty 0, 12900, .inl (P272)) := (show F281 (99) = F237 (99) from by rw [eF281]; exact va_up_ne _ _ (by omega)).trans a272_99
                                    have a272_100_at_281 : F281 (100) = .inl (ty 0, 43, .inl (S272)) := (show F281 (100) = F237 (100) from by rw [eF281]; exact va_up_ne _ _ (by omega)).trans a272_100
                                    refine lv_aload_n hx hb d_M_change_282 rfl (lv_at hl 0 rfl) ?_
                                    refine wz_bipush (n := 33) hx hb d_M_change_283 (by decide) ?_
                                    refine lv_lconst (v := iL 1) hx hb d_M_change_285 (by decide) ?_
                                    obtain ⟨_, _, _, hA286⟩ := (N32).ma
                                    refine pw_callv hw (va_runV (As := [.int (iI (33)), .long (iL (1))]) (rest := []) ⟨hx, hb, hml, hown, hq⟩ (c_M_setLong l D ty ad M F281 H.size hM (0) ((nS g : Int)) (pS g) hO_at_281 _ _ _ hA286 (33) (by omega) (1) (by omega)) (cwV 2 hq (gV ml_M_30 im_M_setLong se_M_setLong in_M m_M_setLong) rfl rfl rfl (by decide +kernel) ⟨Nat.le_of_ble_eq_true rfl, Nat.le_of_ble_eq_true rfl⟩) (pw_preV hw (by omega) hO_at_281 rfl) rfl rfl hl.1 rfl (lv_room (Nat.le_of_ble_eq_true rfl)) d_M_change_286 ⟨Nat.le_of_ble_eq_true rfl, Nat.le_of_ble_eq_true rfl⟩) (fun F286 H locs q286 hw => ?_)
                                    obtain ⟨N33, hk286, hf286⟩ := q286
                                    have hO_at_286 : F286 (98) = .inr (6, [.int (iI (0)), .ref (ad (99)), .ref (ad (100)), .ref (ad (101)), .ref (ad (102)), .int (iI ((nS g : Int))), .int (iI (pS g)), .ref (ad (103))]) := (hf286 (98) (by omega) (by omega) (by omega)).trans hO_at_281
                                    have hRn_at_286 : Rn ty F286 (g) := hRn_at_281.kq hk286 (fun c9 h8 h9 => by first | omega | (dsimp only at h9; omega))
                                    have Nua_at_286 : Nm ty F286 (ua) (zS g ua) := hk286 _ _ (by omega) (by first | omega | (dsimp only; omega)) Nua_at_281
                                    have N16ua_at_286 : Nm ty F286 (16 + ua) (((bS g ua : Nat) : Int)) := hk286 _ _ (by omega) (by first | omega | (dsimp only; omega)) N16ua_at_281
                                    have h102_at_286 : F286 (102) = .inl (ty 0, 1400, .inl (tt)) := (hf286 (102) (by omega) (by omega) (by omega)).trans h102_at_281
                                    have h103_at_286 : F286 (103) = .inl (ty 0, 700, .inl (dd)) := (hf286 (103) (by omega) (by omega) (by omega)).trans h103_at_281
                                    have N41_at_286 : Nm ty F286 (41) ((zS g ua) / ((bS g ua : Nat) : Int)) := hk286 _ _ (by omega) (by first | omega | (dsimp only; omega)) N41_at_281
                                    have N32_at_286 : Nm ty F286 (32) ((zS g ua) / ((bS g ua : Nat) : Int)) := hk286 _ _ (by omega) (by first | omega | (dsimp only; omega)) N32
                                    refine lv_goto (tgt := 319) hx hb d_M_change_289 (by decide) ?_
                                    refine lv_aload_n hx hb d_M_change_319 rfl (lv_at hl 0 rfl) ?_
                                    refine lv_iload_n hx hb d_M_change_320 rfl (lv_at hl 1 rfl) ?_
                                    refine pw_calli hw (va_runV (As := [.int (iI ((uto : Int)))]) (rest := []) ⟨hx, hb, hml, hown, hq⟩ (c_M_lay l D ty ad M F286 H.size hM (0) ((nS g : Int)) (pS g) hO_at_286 (uto) ((zS g ua) / ((bS g ua : Nat) : Int)) (1) (g) (by omega) (by omega) N32_at_286 N33 hRn_at_286 (fl_md1 hmx) (md_1)) (cwV 1 hq (gV ml_M_89 im_M_lay se_M_lay in_M m_M_lay) rfl rfl rfl (by decide +kernel) ⟨Nat.le_of_ble_eq_true rfl, Nat.le_of_ble_eq_true rfl⟩) (pw_preV hw (by omega) hO_at_286 rfl) rfl rfl hl.1 rfl (lv_room (Nat.le_of_ble_eq_true rfl)) d_M_change_321 ⟨Nat.le_of_ble_eq_true rfl, Nat.le_of_ble_eq_true rfl⟩) (fun r321 F321 H locs q321 hw => ?_)
                                    obtain ⟨er321, hRn, hf321⟩ := q321
                                    have hO_at_321 : F321 (98) = .inr (6, [.int (iI (0)), .ref (ad (99)), .ref (ad (100)), .ref (ad (101)), .ref (ad (102)), .int (iI ((nS g : Int))), .int (iI (pS g)), .ref (ad (103))]) := (hf321 (98) (by omega) (by omega) (by omega)).trans hO_at_286
                                    have h102_at_321 : F321 (102) = .inl (ty 0, 1400, .inl (tt)) := (hf321 (102) (by omega) (by omega) (by omega)).trans h102_at_286
                                    have h103_at_321 : F321 (103) = .inl (ty 0, 700, .inl (dd)) := (hf321 (103) (by omega) (by omega) (by omega)).trans h103_at_286
                                    rw [← hQ]
                                    exact pw_iret hx hb hr hlocks hw (by
                                      rw [o_change_ok ⟨hRto, hRa⟩ ⟨by omega, by omega⟩ hd9 (u := uto) (x := ua) (by omega) (by omega), show kd = 3 by omega, ch_3]
                                      rw [flz_n (by omega)] at er321 hRn
                                      exact ⟨er321, Mo.mk' (s_lay_t ..) hO_at_321 hRn h102_at_321 htt h103_at_321, fun y9 h1 => ((hf321 (y9) (by omega) (by omega) (by omega)).trans ((hf286 (y9) (by omega) (by omega) (by omega)).trans ((show F281 (y9) = F237 (y9) from by rw [eF281]; exact va_up_ne _ _ (by omega)).trans ((hf237 (y9) (by omega) (by omega) (by omega)).trans ((hf229 (y9) (by omega) (by omega) (by omega)).trans ((show F223 (y9) = F73 (y9) from by rw [eF223]; exact va_up_ne _ _ (by omega)).trans ((hf73 (y9) (by omega) (by omega) (by omega)).trans (hf63 (y9) (by omega) (by omega) (by omega))))))))).trans (hfr y9 (by omega))⟩) d_M_change_324
                                  · refine wz_iconst (n := 1) hx hb d_M_change_276 ?_
                                    refine lv_goto (tgt := 281) hx hb d_M_change_277 (by decide) ?_
                                    refine pw_zast (k := 32) hx hb hw 4 (by omega) a272_101 rfl (iI_in (by omega) (by omega) (by omega)) ((iI_cl (by omega) (by omega)).trans (by omega)) (y := iI (1)) (by decide) d_M_change_281 (fun F281 H locs eF281 hw => ?_)
                                    have m281_101 : F281 (101) = .inl (ty 4, 43, .inl (upd G272 (32) (iI (1)))) := by rw [eF281]; exact va_up_self ..
                                    obtain ⟨N32, hk281⟩ := Nm_sign (t := 32) (z' := (zS g ua) / ((bS g ua : Nat) : Int)) ⟨a272_99, a272_100, a272_101⟩ ⟨(show F281 (99) = F237 (99) from by rw [eF281]; exact va_up_ne _ _ (by omega)).trans a272_99, (show F281 (100) = F237 (100) from by rw [eF281]; exact va_up_ne _ _ (by omega)).trans a272_100, m281_101⟩ N32 (by omega) (by rw [zB_1 (by omega)]; rfl)
                                    have hO_at_281 : F281 (98) = .inr (6, [.int (iI (0)), .ref (ad (99)), .ref (ad (100)), .ref (ad (101)), .ref (ad (102)), .int (iI ((nS g : Int))), .int (iI (pS g)), .ref (ad (103))]) := (show F281 (98) = F237 (98) from by rw [eF281]; exact va_up_ne _ _ (by omega)).trans hO_at_237
                                    have hRn_at_281 : Rn ty F281 (g) := hRn_at_237.kq hk281 (fun c9 h8 h9 => by first | omega | (dsimp only at h9; omega))
                                    have Nua_at_281 : Nm ty F281 (ua) (zS g ua) := hk281 _ _ (by omega) (by first | omega | (dsimp only; omega)) Nua_at_237
                                    have N16ua_at_281 : Nm ty F281 (16 + ua) (((bS g ua : Nat) : Int)) := hk281 _ _ (by omega) (by first | omega | (dsimp only; omega)) N16ua_at_237
                                    have h102_at_281 : F281 (102) = .inl (ty 0, 1400, .inl (tt)) := (show F281 (102) = F237 (102) from by rw [eF281]; exact va_up_ne _ _ (by omega)).trans h102_at_237
                                    have h103_at_281 : F281 (103) = .inl (ty 0, 700, .inl (dd)) := (show F281 (103) = F237 (103) from by rw [eF281]; exact va_up_ne _ _ (by omega)).trans h103_at_237
                                    have N33_at_281 : Nm ty F281 (33) (((bS g ua : Nat) : Int)) := hk281 _ _ (by omega) (by first | omega | (dsimp only; omega)) N33_at_237
                                    have N41_at_281 : Nm ty F281 (41) ((zS g ua) / ((bS g ua : Nat) : Int)) := hk281 _ _ (by omega) (by first | omega | (dsimp only; omega)) N41_at_237
                                    have a272_99_at_281 : F281 (99) = .inl (ty 0, 12900, .inl (P272)) := (show F281 (99) = F237 (99) from by rw [eF281]; exact va_up_ne _ _ (by omega)).trans a272_99
                                    have a272_100_at_281 : F281 (100) = .inl (ty 0, 43, .inl (S272)) := (show F281 (100) = F237 (100) from by rw [eF281]; exact va_up_ne _ _ (by omega)).trans a272_100
                                    refine lv_aload_n hx hb d_M_change_282 rfl (lv_at hl 0 rfl) ?_
                                    refine wz_bipush (n := 33) hx hb d_M_change_283 (by decide) ?_
                                    refine lv_lconst (v := iL 1) hx hb d_M_change_285 (by decide) ?_
                                    obtain ⟨_, _, _, hA286⟩ := (N32).ma
                                    refine pw_callv hw (va_runV (As := [.int (iI (33)), .long (iL (1))]) (rest := []) ⟨hx, hb, hml, hown, hq⟩ (c_M_setLong l D ty ad M F281 H.size hM (0) ((nS g : Int)) (pS g) hO_at_281 _ _ _ hA286 (33) (by omega) (1) (by omega)) (cwV 2 hq (gV ml_M_30 im_M_setLong se_M_setLong in_M m_M_setLong) rfl rfl rfl (by decide +kernel) ⟨Nat.le_of_ble_eq_true rfl, Nat.le_of_ble_eq_true rfl⟩) (pw_preV hw (by omega) hO_at_281 rfl) rfl rfl hl.1 rfl (lv_room (Nat.le_of_ble_eq_true rfl)) d_M_change_286 ⟨Nat.le_of_ble_eq_true rfl, Nat.le_of_ble_eq_true rfl⟩) (fun F286 H locs q286 hw => ?_)
                                    obtain ⟨N33, hk286, hf286⟩ := q286
                                    have hO_at_286 : F286 (98) = .inr (6, [.int (iI (0)), .ref (ad (99)), .ref (ad (100)), .ref (ad (101)), .ref (ad (102)), .int (iI ((nS g : Int))), .int (iI (pS g)), .ref (ad (103))]) := (hf286 (98) (by omega) (by omega) (by omega)).trans hO_at_281
                                    have hRn_at_286 : Rn ty F286 (g) := hRn_at_281.kq hk286 (fun c9 h8 h9 => by first | omega | (dsimp only at h9; omega))
                                    have Nua_at_286 : Nm ty F286 (ua) (zS g ua) := hk286 _ _ (by omega) (by first | omega | (dsimp only; omega)) Nua_at_281
                                    have N16ua_at_286 : Nm ty F286 (16 + ua) (((bS g ua : Nat) : Int)) := hk286 _ _ (by omega) (by first | omega | (dsimp only; omega)) N16ua_at_281
                                    have h102_at_286 : F286 (102) = .inl (ty 0, 1400, .inl (tt)) := (hf286 (102) (by omega) (by omega) (by omega)).trans h102_at_281
                                    have h103_at_286 : F286 (103) = .inl (ty 0, 700, .inl (dd)) := (hf286 (103) (by omega) (by omega) (by omega)).trans h103_at_281
                                    have N41_at_286 : Nm ty F286 (41) ((zS g ua) / ((bS g ua : Nat) : Int)) := hk286 _ _ (by omega) (by first | omega | (dsimp only; omega)) N41_at_281
                                    have N32_at_286 : Nm ty F286 (32) ((zS g ua) / ((bS g ua : Nat) : Int)) := hk286 _ _ (by omega) (by first | omega | (dsimp only; omega)) N32
                                    refine lv_goto (tgt := 319) hx hb d_M_change_289 (by decide) ?_
                                    refine lv_aload_n hx hb d_M_change_319 rfl (lv_at hl 0 rfl) ?_
                                    refine lv_iload_n hx hb d_M_change_320 rfl (lv_at hl 1 rfl) ?_
                                    refine pw_calli hw (va_runV (As := [.int (iI ((uto : Int)))]) (rest := []) ⟨hx, hb, hml, hown, hq⟩ (c_M_lay l D ty ad M F286 H.size hM (0) ((nS g : Int)) (pS g) hO_at_286 (uto) ((zS g ua) / ((bS g ua : Nat) : Int)) (1) (g) (by omega) (by omega) N32_at_286 N33 hRn_at_286 (fl_md1 hmx) (md_1)) (cwV 1 hq (gV ml_M_89 im_M_lay se_M_lay in_M m_M_lay) rfl rfl rfl (by decide +kernel) ⟨Nat.le_of_ble_eq_true rfl, Nat.le_of_ble_eq_true rfl⟩) (pw_preV hw (by omega) hO_at_286 rfl) rfl rfl hl.1 rfl (lv_room (Nat.le_of_ble_eq_true rfl)) d_M_change_321 ⟨Nat.le_of_ble_eq_true rfl, Nat.le_of_ble_eq_true rfl⟩) (fun r321 F321 H locs q321 hw => ?_)
                                    obtain ⟨er321, hRn, hf321⟩ := q321
                                    have hO_at_321 : F321 (98) = .inr (6, [.int (iI (0)), .ref (ad (99)), .ref (ad (100)), .ref (ad (101)), .ref (ad (102)), .int (iI ((nS g : Int))), .int (iI (pS g)), .ref (ad (103))]) := (hf321 (98) (by omega) (by omega) (by omega)).trans hO_at_286
                                    have h102_at_321 : F321 (102) = .inl (ty 0, 1400, .inl (tt)) := (hf321 (102) (by omega) (by omega) (by omega)).trans h102_at_286
                                    have h103_at_321 : F321 (103) = .inl (ty 0, 700, .inl (dd)) := (hf321 (103) (by omega) (by omega) (by omega)).trans h103_at_286
                                    rw [← hQ]
                                    exact pw_iret hx hb hr hlocks hw (by
                                      rw [o_change_ok ⟨hRto, hRa⟩ ⟨by omega, by omega⟩ hd9 (u := uto) (x := ua) (by omega) (by omega), show kd = 3 by omega, ch_3]
                                      rw [flz_n (by omega)] at er321 hRn
                                      exact ⟨er321, Mo.mk' (s_lay_t ..) hO_at_321 hRn h102_at_321 htt h103_at_321, fun y9 h1 => ((hf321 (y9) (by omega) (by omega) (by omega)).trans ((hf286 (y9) (by omega) (by omega) (by omega)).trans ((show F281 (y9) = F237 (y9) from by rw [eF281]; exact va_up_ne _ _ (by omega)).trans ((hf237 (y9) (by omega) (by omega) (by omega)).trans ((hf229 (y9) (by omega) (by omega) (by omega)).trans ((show F223 (y9) = F73 (y9) from by rw [eF223]; exact va_up_ne _ _ (by omega)).trans ((hf73 (y9) (by omega) (by omega) (by omega)).trans (hf63 (y9) (by omega) (by omega) (by omega))))))))).trans (hfr y9 (by omega))⟩) d_M_change_324
                              · exact absurd c255 (by omega)
                            · refine wz_iconst (n := 1) hx hb d_M_change_218 ?_
                              refine lv_goto (tgt := 223) hx hb d_M_change_219 (by decide) ?_
                              refine pw_zast (k := 32) hx hb hw 4 (by omega) a214_101 rfl (iI_in (by omega) (by omega) (by omega)) ((iI_cl (by omega) (by omega)).trans (by omega)) (y := iI (1)) (by decide) d_M_change_223 (fun F223 H locs eF223 hw => ?_)
                              have m223_101 : F223 (101) = .inl (ty 4, 43, .inl (upd G214 (32) (iI (1)))) := by rw [eF223]; exact va_up_self ..
                              obtain ⟨N32, hk223⟩ := Nm_sign (t := 32) (z' := zS g ua) ⟨a214_99, a214_100, a214_101⟩ ⟨(show F223 (99) = F73 (99) from by rw [eF223]; exact va_up_ne _ _ (by omega)).trans a214_99, (show F223 (100) = F73 (100) from by rw [eF223]; exact va_up_ne _ _ (by omega)).trans a214_100, m223_101⟩ N32_at_73 (by omega) (by rw [zB_1 (by omega)]; rfl)
                              have hO_at_223 : F223 (98) = .inr (6, [.int (iI (0)), .ref (ad (99)), .ref (ad (100)), .ref (ad (101)), .ref (ad (102)), .int (iI ((nS g : Int))), .int (iI (pS g)), .ref (ad (103))]) := (show F223 (98) = F73 (98) from by rw [eF223]; exact va_up_ne _ _ (by omega)).trans hO_at_73
                              have hRn_at_223 : Rn ty F223 (g) := hRn_at_73.kq hk223 (fun c9 h8 h9 => by first | omega | (dsimp only at h9; omega))
                              have Nua_at_223 : Nm ty F223 (ua) (zS g ua) := hk223 _ _ (by omega) (by first | omega | (dsimp only; omega)) Nua_at_73
                              have N16ua_at_223 : Nm ty F223 (16 + ua) (((bS g ua : Nat) : Int)) := hk223 _ _ (by omega) (by first | omega | (dsimp only; omega)) N16ua_at_73
                              have h102_at_223 : F223 (102) = .inl (ty 0, 1400, .inl (tt)) := (show F223 (102) = F73 (102) from by rw [eF223]; exact va_up_ne _ _ (by omega)).trans h102_at_73
                              have h103_at_223 : F223 (103) = .inl (ty 0, 700, .inl (dd)) := (show F223 (103) = F73 (103) from by rw [eF223]; exact va_up_ne _ _ (by omega)).trans h103_at_73
                              have N33_at_223 : Nm ty F223 (33) (((bS g ua : Nat) : Int)) := hk223 _ _ (by omega) (by first | omega | (dsimp only; omega)) N33
                              have a214_99_at_223 : F223 (99) = .inl (ty 0, 12900, .inl (P214)) := (show F223 (99) = F73 (99) from by rw [eF223]; exact va_up_ne _ _ (by omega)).trans a214_99
                              have a214_100_at_223 : F223 (100) = .inl (ty 0, 43, .inl (S214)) := (show F223 (100) = F73 (100) from by rw [eF223]; exact va_up_ne _ _ (by omega)).trans a214_100
                              refine lv_aload_n hx hb d_M_change_224 rfl (lv_at hl 0 rfl) ?_
                              refine wz_bipush (n := 32) hx hb d_M_change_225 (by decide) ?_
                              refine wz_bipush (n := 33) hx hb d_M_change_227 (by decide) ?_
                              refine pw_callv hw (va_runV (As := [.int (iI (32)), .int (iI (33))]) (rest := []) ⟨hx, hb, hml, hown, hq⟩ (c_M_floor l D ty ad M F223 H.size hM (0) ((nS g : Int)) (pS g) hO_at_223 (32) (33) (zS g ua) (((bS g ua : Nat) : Int)) (by omega) (by omega) (by omega) (by omega) (by omega) N32 N33_at_223 (hmx) (hmb)) (cwV 2 hq (gV ml_M_95 im_M_floor se_M_floor in_M m_M_floor) rfl rfl rfl (by decide +kernel) ⟨Nat.le_of_ble_eq_true rfl, Nat.le_of_ble_eq_true rfl⟩) (pw_preV hw (by omega) hO_at_223 rfl) rfl rfl hl.1 rfl (lv_room (Nat.le_of_ble_eq_true rfl)) d_M_change_229 ⟨Nat.le_of_ble_eq_true rfl, Nat.le_of_ble_eq_true rfl⟩) (fun F229 H locs q229 hw => ?_)
                              obtain ⟨N41, hk229, hf229⟩ := q229
                              have hO_at_229 : F229 (98) = .inr (6, [.int (iI (0)), .ref (ad (99)), .ref (ad (100)), .ref (ad (101)), .ref (ad (102)), .int (iI ((nS g : Int))), .int (iI (pS g)), .ref (ad (103))]) := (hf229 (98) (by omega) (by omega) (by omega)).trans hO_at_223
                              have hRn_at_229 : Rn ty F229 (g) := hRn_at_223.kq hk229 (fun c9 h8 h9 => by first | omega | (dsimp only at h9; omega))
                              have Nua_at_229 : Nm ty F229 (ua) (zS g ua) := hk229 _ _ (by omega) (by first | omega | (dsimp only; omega)) Nua_at_223
                              have N16ua_at_229 : Nm ty F229 (16 + ua) (((bS g ua : Nat) : Int)) := hk229 _ _ (by omega) (by first | omega | (dsimp only; omega)) N16ua_at_223
                              have h102_at_229 : F229 (102) = .inl (ty 0, 1400, .inl (tt)) := (hf229 (102) (by omega) (by omega) (by omega)).trans h102_at_223
                              have h103_at_229 : F229 (103) = .inl (ty 0, 700, .inl (dd)) := (hf229 (103) (by omega) (by omega) (by omega)).trans h103_at_223
                              have N33_at_229 : Nm ty F229 (33) (((bS g ua : Nat) : Int)) := hk229 _ _ (by omega) (by first | omega | (dsimp only; omega)) N33_at_223
                              have N32_at_229 : Nm ty F229 (32) (zS g ua) := hk229 _ _ (by omega) (by first | omega | (dsimp only; omega)) N32
                              refine lv_aload_n hx hb d_M_change_232 rfl (lv_at hl 0 rfl) ?_
                              refine wz_bipush (n := 32) hx hb d_M_change_233 (by decide) ?_
                              refine wz_bipush (n := 41) hx hb d_M_change_235 (by decide) ?_
                              refine pw_callv hw (va_runV (As := [.int (iI (32)), .int (iI (41))]) (rest := []) ⟨hx, hb, hml, hown, hq⟩ (c_M_copy l D ty ad M F229 H.size hM (0) ((nS g : Int)) (pS g) hO_at_229 (32) (41) (by omega) (by omega) (by omega) ((zS g ua) / ((bS g ua : Nat) : Int)) N41) (cwV 2 hq (gV ml_M_55 im_M_copy se_M_copy in_M m_M_copy) rfl rfl rfl (by decide +kernel) ⟨Nat.le_of_ble_eq_true rfl, Nat.le_of_ble_eq_true rfl⟩) (pw_preV hw (by omega) hO_at_229 rfl) rfl rfl hl.1 rfl (lv_room (Nat.le_of_ble_eq_true rfl)) d_M_change_237 ⟨Nat.le_of_ble_eq_true rfl, Nat.le_of_ble_eq_true rfl⟩) (fun F237 H locs q237 hw => ?_)
                              obtain ⟨N32, hk237, hf237⟩ := q237
                              have hO_at_237 : F237 (98) = .inr (6, [.int (iI (0)), .ref (ad (99)), .ref (ad (100)), .ref (ad (101)), .ref (ad (102)), .int (iI ((nS g : Int))), .int (iI (pS g)), .ref (ad (103))]) := (hf237 (98) (by omega) (by omega) (by omega)).trans hO_at_229
                              have hRn_at_237 : Rn ty F237 (g) := hRn_at_229.kq hk237 (fun c9 h8 h9 => by first | omega | (dsimp only at h9; omega))
                              have Nua_at_237 : Nm ty F237 (ua) (zS g ua) := hk237 _ _ (by omega) (by first | omega | (dsimp only; omega)) Nua_at_229
                              have N16ua_at_237 : Nm ty F237 (16 + ua) (((bS g ua : Nat) : Int)) := hk237 _ _ (by omega) (by first | omega | (dsimp only; omega)) N16ua_at_229
                              have h102_at_237 : F237 (102) = .inl (ty 0, 1400, .inl (tt)) := (hf237 (102) (by omega) (by omega) (by omega)).trans h102_at_229
                              have h103_at_237 : F237 (103) = .inl (ty 0, 700, .inl (dd)) := (hf237 (103) (by omega) (by omega) (by omega)).trans h103_at_229
                              have N33_at_237 : Nm ty F237 (33) (((bS g ua : Nat) : Int)) := hk237 _ _ (by omega) (by first | omega | (dsimp only; omega)) N33_at_229
                              have N41_at_237 : Nm ty F237 (41) ((zS g ua) / ((bS g ua : Nat) : Int)) := hk237 _ _ (by omega) (by first | omega | (dsimp only; omega)) N41
                              refine lv_aload_n hx hb d_M_change_240 rfl (lv_at hl 0 rfl) ?_
                              refine pw_get (ci := 6) (C := R_M) (T := T_M) (N := 8) hx hb hq i_M hown hw (by omega) hO_at_237 rfl 3 (by decide) (hq _ fl_M_16) (fun _ h9 => h9) rfl d_M_change_241 ?_
                              refine wz_bipush (n := 32) hx hb d_M_change_244 (by decide) ?_
                              refine lv_aload_n hx hb d_M_change_246 rfl (lv_at hl 0 rfl) ?_
                              refine pw_get (ci := 6) (C := R_M) (T := T_M) (N := 8) hx hb hq i_M hown hw (by omega) hO_at_237 rfl 3 (by decide) (hq _ fl_M_16) (fun _ h9 => h9) rfl d_M_change_247 ?_
                              refine wz_bipush (n := 32) hx hb d_M_change_250 (by decide) ?_
                              obtain ⟨P252, S252, G252, ⟨a252_99, a252_100, a252_101⟩, ⟨n252, hS252, h3252, hD252, ht252, hv252⟩, hG252⟩ := id N32
                              have hs252 := sB_c ((zS g ua) / ((bS g ua : Nat) : Int))
                              refine pw_zald (k := 32) hx hb hw 4 (by omega) a252_101 rfl (iI_in (by omega) (by omega) (by omega)) ((iI_cl (by omega) (by omega)).trans (by omega)) d_M_change_252 ?_
                              refine lv_topi (fun x252 ex252 => ?_)
                              obtain rfl : x252 = iI ((sB ((zS g ua) / ((bS g ua : Nat) : Int)) : Int)) := ex252.trans (hG252)
                              refine lv_iload_n hx hb d_M_change_253 rfl (lv_at hl 2 rfl) ?_
                              refine wz_iconst (n := 4) hx hb d_M_change_254 ?_
                              refine wz_icmp_ne (tgt := 262) hx hb d_M_change_255 (by decide) (by omega) (by omega) (by omega) (by omega) (fun c255 => ?_) (fun c255 => ?_)
                              · refine wz_iconst (n := 0) hx hb d_M_change_262 ?_
                                refine wz_icmp_eq (tgt := 280) hx hb d_M_change_263 (by decide) (by omega) (by omega) (by omega) (by omega) (fun c263 => ?_) (fun c263 => ?_)
                                · refine wz_iconst (n := 0) hx hb d_M_change_280 ?_
                                  refine pw_zast (k := 32) hx hb hw 4 (by omega) a252_101 rfl (iI_in (by omega) (by omega) (by omega)) ((iI_cl (by omega) (by omega)).trans (by omega)) (y := iI (0)) (by decide) d_M_change_281 (fun F281 H locs eF281 hw => ?_)
                                  have m281_101 : F281 (101) = .inl (ty 4, 43, .inl (upd G252 (32) (iI (0)))) := by rw [eF281]; exact va_up_self ..
                                  obtain ⟨N32, hk281⟩ := Nm_sign (t := 32) (z' := (zS g ua) / ((bS g ua : Nat) : Int)) ⟨a252_99, a252_100, a252_101⟩ ⟨(show F281 (99) = F237 (99) from by rw [eF281]; exact va_up_ne _ _ (by omega)).trans a252_99, (show F281 (100) = F237 (100) from by rw [eF281]; exact va_up_ne _ _ (by omega)).trans a252_100, m281_101⟩ N32 (by omega) (by rw [zB_0 (by omega)]; rfl)
                                  have hO_at_281 : F281 (98) = .inr (6, [.int (iI (0)), .ref (ad (99)), .ref (ad (100)), .ref (ad (101)), .ref (ad (102)), .int (iI ((nS g : Int))), .int (iI (pS g)), .ref (ad (103))]) := (show F281 (98) = F237 (98) from by rw [eF281]; exact va_up_ne _ _ (by omega)).trans hO_at_237
                                  have hRn_at_281 : Rn ty F281 (g) := hRn_at_237.kq hk281 (fun c9 h8 h9 => by first | omega | (dsimp only at h9; omega))
                                  have Nua_at_281 : Nm ty F281 (ua) (zS g ua) := hk281 _ _ (by omega) (by first | omega | (dsimp only; omega)) Nua_at_237
                                  have N16ua_at_281 : Nm ty F281 (16 + ua) (((bS g ua : Nat) : Int)) := hk281 _ _ (by omega) (by first | omega | (dsimp only; omega)) N16ua_at_237
                                  have h102_at_281 : F281 (102) = .inl (ty 0, 1400, .inl (tt)) := (show F281 (102) = F237 (102) from by rw [eF281]; exact va_up_ne _ _ (by omega)).trans h102_at_237
                                  have h103_at_281 : F281 (103) = .inl (ty 0, 700, .inl (dd)) := (show F281 (103) = F237 (103) from by rw [eF281]; exact va_up_ne _ _ (by omega)).trans h103_at_237
                                  have N33_at_281 : Nm ty F281 (33) (((bS g ua : Nat) : Int)) := hk281 _ _ (by omega) (by first | omega | (dsimp only; omega)) N33_at_237
                                  have N41_at_281 : Nm ty F281 (41) ((zS g ua) / ((bS g ua : Nat) : Int)) := hk281 _ _ (by omega) (by first | omega | (dsimp only; omega)) N41_at_237
                                  have a252_99_at_281 : F281 (99) = .inl (ty 0, 12900, .inl (P252)) := (show F281 (99) = F237 (99) from by rw [eF281]; exact va_up_ne _ _ (by omega)).trans a252_99
                                  have a252_100_at_281 : F281 (100) = .inl (ty 0, 43, .inl (S252)) := (show F281 (100) = F237 (100) from by rw [eF281]; exact va_up_ne _ _ (by omega)).trans a252_100
                                  refine lv_aload_n hx hb d_M_change_282 rfl (lv_at hl 0 rfl) ?_
                                  refine wz_bipush (n := 33) hx hb d_M_change_283 (by decide) ?_
                                  refine lv_lconst (v := iL 1) hx hb d_M_change_285 (by decide) ?_
                                  obtain ⟨_, _, _, hA286⟩ := (N32).ma
                                  refine pw_callv hw (va_runV (As := [.int (iI (33)), .long (iL (1))]) (rest := []) ⟨hx, hb, hml, hown, hq⟩ (c_M_setLong l D ty ad M F281 H.size hM (0) ((nS g : Int)) (pS g) hO_at_281 _ _ _ hA286 (33) (by omega) (1) (by omega)) (cwV 2 hq (gV ml_M_30 im_M_setLong se_M_setLong in_M m_M_setLong) rfl rfl rfl (by decide +kernel) ⟨Nat.le_of_ble_eq_true rfl, Nat.le_of_ble_eq_true rfl⟩) (pw_preV hw (by omega) hO_at_281 rfl) rfl rfl hl.1 rfl (lv_room (Nat.le_of_ble_eq_true rfl)) d_M_change_286 ⟨Nat.le_of_ble_eq_true rfl, Nat.le_of_ble_eq_true rfl⟩) (fun F286 H locs q286 hw => ?_)
                                  obtain ⟨N33, hk286, hf286⟩ := q286
                                  have hO_at_286 : F286 (98) = .inr (6, [.int (iI (0)), .ref (ad (99)), .ref (ad (100)), .ref (ad (101)), .ref (ad (102)), .int (iI ((nS g : Int))), .int (iI (pS g)), .ref (ad (103))]) := (hf286 (98) (by omega) (by omega) (by omega)).trans hO_at_281
                                  have hRn_at_286 : Rn ty F286 (g) := hRn_at_281.kq hk286 (fun c9 h8 h9 => by first | omega | (dsimp only at h9; omega))
                                  have Nua_at_286 : Nm ty F286 (ua) (zS g ua) := hk286 _ _ (by omega) (by first | omega | (dsimp only; omega)) Nua_at_281
                                  have N16ua_at_286 : Nm ty F286 (16 + ua) (((bS g ua : Nat) : Int)) := hk286 _ _ (by omega) (by first | omega | (dsimp only; omega)) N16ua_at_281
                                  have h102_at_286 : F286 (102) = .inl (ty 0, 1400, .inl (tt)) := (hf286 (102) (by omega) (by omega) (by omega)).trans h102_at_281
                                  have h103_at_286 : F286 (103) = .inl (ty 0, 700, .inl (dd)) := (hf286 (103) (by omega) (by omega) (by omega)).trans h103_at_281
                                  have N41_at_286 : Nm ty F286 (41) ((zS g ua) / ((bS g ua : Nat) : Int)) := hk286 _ _ (by omega) (by first | omega | (dsimp only; omega)) N41_at_281
                                  have N32_at_286 : Nm ty F286 (32) ((zS g ua) / ((bS g ua : Nat) : Int)) := hk286 _ _ (by omega) (by first | omega | (dsimp only; omega)) N32
                                  refine lv_goto (tgt := 319) hx hb d_M_change_289 (by decide) ?_
                                  refine lv_aload_n hx hb d_M_change_319 rfl (lv_at hl 0 rfl) ?_
                                  refine lv_iload_n hx hb d_M_change_320 rfl (lv_at hl 1 rfl) ?_
                                  refine pw_calli hw (va_runV (As := [.int (iI ((uto : Int)))]) (rest := []) ⟨hx, hb, hml, hown, hq⟩ (c_M_lay l D ty ad M F286 H.size hM (0) ((nS g : Int)) (pS g) hO_at_286 (uto) ((zS g ua) / ((bS g ua : Nat) : Int)) (1) (g) (by omega) (by omega) N32_at_286 N33 hRn_at_286 (fl_md1 hmx) (md_1)) (cwV 1 hq (gV ml_M_89 im_M_lay se_M_lay in_M m_M_lay) rfl rfl rfl (by decide +kernel) ⟨Nat.le_of_ble_eq_true rfl, Nat.le_of_ble_eq_true rfl⟩) (pw_preV hw (by omega) hO_at_286 rfl) rfl rfl hl.1 rfl (lv_room (Nat.le_of_ble_eq_true rfl)) d_M_change_321 ⟨Nat.le_of_ble_eq_true rfl, Nat.le_of_ble_eq_true rfl⟩) (fun r321 F321 H locs q321 hw => ?_)
                                  obtain ⟨er321, hRn, hf321⟩ := q321
                                  have hO_at_321 : F321 (98) = .inr (6, [.int (iI (0)), .ref (ad (99)), .ref (ad (100)), .ref (ad (101)), .ref (ad (102)), .int (iI ((nS g : Int))), .int (iI (pS g)), .ref (ad (103))]) := (hf321 (98) (by omega) (by omega) (by omega)).trans hO_at_286
                                  have h102_at_321 : F321 (102) = .inl (ty 0, 1400, .inl (tt)) := (hf321 (102) (by omega) (by omega) (by omega)).trans h102_at_286
                                  have h103_at_321 : F321 (103) = .inl (ty 0, 700, .inl (dd)) := (hf321 (103) (by omega) (by omega) (by omega)).trans h103_at_286
                                  rw [← hQ]
                                  exact pw_iret hx hb hr hlocks hw (by
                                    rw [o_change_ok ⟨hRto, hRa⟩ ⟨by omega, by omega⟩ hd9 (u := uto) (x := ua) (by omega) (by omega), show kd = 3 by omega, ch_3]
                                    rw [flz_n (by omega)] at er321 hRn
                                    exact ⟨er321, Mo.mk' (s_lay_t ..) hO_at_321 hRn h102_at_321 htt h103_at_321, fun y9 h1 => ((hf321 (y9) (by omega) (by omega) (by omega)).trans ((hf286 (y9) (by omega) (by omega) (by omega)).trans ((show F281 (y9) = F237 (y9) from by rw [eF281]; exact va_up_ne _ _ (by omega)).trans ((hf237 (y9) (by omega) (by omega) (by omega)).trans ((hf229 (y9) (by omega) (by omega) (by omega)).trans ((show F223 (y9) = F73 (y9) from by rw [eF223]; exact va_up_ne _ _ (by omega)).trans ((hf73 (y9) (by omega) (by omega) (by omega)).trans (hf63 (y9) (by omega) (by omega) (by omega))))))))).trans (hfr y9 (by omega))⟩) d_M_change_324
                                · refine lv_aload_n hx hb d_M_change_266 rfl (lv_at hl 0 rfl) ?_
                                  refine pw_get (ci := 6) (C := R_M) (T := T_M) (N := 8) hx hb hq i_M hown hw (by omega) hO_at_237 rfl 2 (by decide) (hq _ fl_M_13) (fun _ h9 => h9) rfl d_M_change_267 ?_
                                  refine wz_bipush (n := 32) hx hb d_M_change_270 (by decide) ?_
                                  obtain ⟨P272, S272, G272, ⟨a272_99, a272_100, a272_101⟩, ⟨nv, hS272, h3272, hD272, ht272, hv272⟩, hG272⟩ := id N32
                                  have hz272 := bvP_z ht272
                                  rw [hv272] at hz272
                                  refine pw_iald (k := 32) hx hb hw 0 (by omega) a272_100 rfl (iI_in (by omega) (by omega) (by omega)) ((iI_cl (by omega) (by omega)).trans (by omega)) d_M_change_272 ?_
                                  refine lv_topi (fun x272 ex272 => ?_)
                                  obtain rfl : x272 = iI ((nv : Int)) := ex272.trans (hS272)
                                  refine wz_if_le (tgt := 280) hx hb d_M_change_273 (by decide) (by omega) (by omega) (fun c273 => ?_) (fun c273 => ?_)
                                  · refine wz_iconst (n := 0) hx hb d_M_change_280 ?_
                                    refine pw_zast (k := 32) hx hb hw 4 (by omega) a272_101 rfl (iI_in (by omega) (by omega) (by omega)) ((iI_cl (by omega) (by omega)).trans (by omega)) (y := iI (0)) (by decide) d_M_change_281 (fun F281 H locs eF281 hw => ?_)
                                    have m281_101 : F281 (101) = .inl (ty 4, 43, .inl (upd G272 (32) (iI (0)))) := by rw [eF281]; exact va_up_self ..
                                    obtain ⟨N32, hk281⟩ := Nm_sign (t := 32) (z' := (zS g ua) / ((bS g ua : Nat) : Int)) ⟨a272_99, a272_100, a272_101⟩ ⟨(show F281 (99) = F237 (99) from by rw [eF281]; exact va_up_ne _ _ (by omega)).trans a272_99, (show F281 (100) = F237 (100) from by rw [eF281]; exact va_up_ne _ _ (by omega)).trans a272_100, m281_101⟩ N32 (by omega) (by rw [zB_0 (by omega)]; rfl)
                                    have hO_at_281 : F281 (98) = .inr (6, [.int (iI (0)), .ref (ad (99)), .ref (ad (100)), .ref (ad (101)), .ref (ad (102)), .int (iI ((nS g : Int))), .int (iI (pS g)), .ref (ad (103))]) := (show F281 (98) = F237 (98) from by rw [eF281]; exact va_up_ne _ _ (by omega)).trans hO_at_237
                                    have hRn_at_281 : Rn ty F281 (g) := hRn_at_237.kq hk281 (fun c9 h8 h9 => by first | omega | (dsimp only at h9; omega))
                                    have Nua_at_281 : Nm ty F281 (ua) (zS g ua) := hk281 _ _ (by omega) (by first | omega | (dsimp only; omega)) Nua_at_237
                                    have N16ua_at_281 : Nm ty F281 (16 + ua) (((bS g ua : Nat) : Int)) := hk281 _ _ (by omega) (by first | omega | (dsimp only; omega)) N16ua_at_237
                                    have h102_at_281 : F281 (102) = .inl (ty 0, 1400, .inl (tt)) := (show F281 (102) = F237 (102) from by rw [eF281]; exact va_up_ne _ _ (by omega)).trans h102_at_237
                                    have h103_at_281 : F281 (103) = .inl (ty 0, 700, .inl (dd)) := (show F281 (103) = F237 (103) from by rw [eF281]; exact va_up_ne _ _ (by omega)).trans h103_at_237
                                    have N33_at_281 : Nm ty F281 (33) (((bS g ua : Nat) : Int)) := hk281 _ _ (by omega) (by first | omega | (dsimp only; omega)) N33_at_237
                                    have N41_at_281 : Nm ty F281 (41) ((zS g ua) / ((bS g ua : Nat) : Int)) := hk281 _ _ (by omega) (by first | omega | (dsimp only; omega)) N41_at_237
                                    have a272_99_at_281 : F281 (99) = .inl (ty 0, 12900, .inl (P272)) := (show F281 (99) = F237 (99) from by rw [eF281]; exact va_up_ne _ _ (by omega)).trans a272_99
                                    have a272_100_at_281 : F281 (100) = .inl (ty 0, 43, .inl (S272)) := (show F281 (100) = F237 (100) from by rw [eF281]; exact va_up_ne _ _ (by omega)).trans a272_100
                                    refine lv_aload_n hx hb d_M_change_282 rfl (lv_at hl 0 rfl) ?_
                                    refine wz_bipush (n := 33) hx hb d_M_change_283 (by decide) ?_
                                    refine lv_lconst (v := iL 1) hx hb d_M_change_285 (by decide) ?_
                                    obtain ⟨_, _, _, hA286⟩ := (N32).ma
                                    refine pw_callv hw (va_runV (As := [.int (iI (33)), .long (iL (1))]) (rest := []) ⟨hx, hb, hml, hown, hq⟩ (c_M_setLong l D ty ad M F281 H.size hM (0) ((nS g : Int)) (pS g) hO_at_281 _ _ _ hA286 (33) (by omega) (1) (by omega)) (cwV 2 hq (gV ml_M_30 im_M_setLong se_M_setLong in_M m_M_setLong) rfl rfl rfl (by decide +kernel) ⟨Nat.le_of_ble_eq_true rfl, Nat.le_of_ble_eq_true rfl⟩) (pw_preV hw (by omega) hO_at_281 rfl) rfl rfl hl.1 rfl (lv_room (Nat.le_of_ble_eq_true rfl)) d_M_change_286 ⟨Nat.le_of_ble_eq_true rfl, Nat.le_of_ble_eq_true rfl⟩) (fun F286 H locs q286 hw => ?_)
                                    obtain ⟨N33, hk286, hf286⟩ := q286
                                    have hO_at_286 : F286 (98) = .inr (6, [.int (iI (0)), .ref (ad (99)), .ref (ad (100)), .ref (ad (101)), .ref (ad (102)), .int (iI ((nS g : Int))), .int (iI (pS g)), .ref (ad (103))]) := (hf286 (98) (by omega) (by omega) (by omega)).trans hO_at_281
                                    have hRn_at_286 : Rn ty F286 (g) := hRn_at_281.kq hk286 (fun c9 h8 h9 => by first | omega | (dsimp only at h9; omega))
                                    have Nua_at_286 : Nm ty F286 (ua) (zS g ua) := hk286 _ _ (by omega) (by first | omega | (dsimp only; omega)) Nua_at_281
                                    have N16ua_at_286 : Nm ty F286 (16 + ua) (((bS g ua : Nat) : Int)) := hk286 _ _ (by omega) (by first | omega | (dsimp only; omega)) N16ua_at_281
                                    have h102_at_286 : F286 (102) = .inl (ty 0, 1400, .inl (tt)) := (hf286 (102) (by omega) (by omega) (by omega)).trans h102_at_281
                                    have h103_at_286 : F286 (103) = .inl (ty 0, 700, .inl (dd)) := (hf286 (103) (by omega) (by omega) (by omega)).trans h103_at_281
                                    have N41_at_286 : Nm ty F286 (41) ((zS g ua) / ((bS g ua : Nat) : Int)) := hk286 _ _ (by omega) (by first | omega | (dsimp only; omega)) N41_at_281
                                    have N32_at_286 : Nm ty F286 (32) ((zS g ua) / ((bS g ua : Nat) : Int)) := hk286 _ _ (by omega) (by first | omega | (dsimp only; omega)) N32
                                    refine lv_goto (tgt := 319) hx hb d_M_change_289 (by decide) ?_
                                    refine lv_aload_n hx hb d_M_change_319 rfl (lv_at hl 0 rfl) ?_
                                    refine lv_iload_n hx hb d_M_change_320 rfl (lv_at hl 1 rfl) ?_
                                    refine pw_calli hw (va_runV (As := [.int (iI ((uto : Int)))]) (rest := []) ⟨hx, hb, hml, hown, hq⟩ (c_M_lay l D ty ad M F286 H.size hM (0) ((nS g : Int)) (pS g) hO_at_286 (uto) ((zS g ua) / ((bS g ua : Nat) : Int)) (1) (g) (by omega) (by omega) N32_at_286 N33 hRn_at_286 (fl_md1 hmx) (md_1)) (cwV 1 hq (gV ml_M_89 im_M_lay se_M_lay in_M m_M_lay) rfl rfl rfl (by decide +kernel) ⟨Nat.le_of_ble_eq_true rfl, Nat.le_of_ble_eq_true rfl⟩) (pw_preV hw (by omega) hO_at_286 rfl) rfl rfl hl.1 rfl (lv_room (Nat.le_of_ble_eq_true rfl)) d_M_change_321 ⟨Nat.le_of_ble_eq_true rfl, Nat.le_of_ble_eq_true rfl⟩) (fun r321 F321 H locs q321 hw => ?_)
                                    obtain ⟨er321, hRn, hf321⟩ := q321
                                    have hO_at_321 : F321 (98) = .inr (6, [.int (iI (0)), .ref (ad (99)), .ref (ad (100)), .ref (ad (101)), .ref (ad (102)), .int (iI ((nS g : Int))), .int (iI (pS g)), .ref (ad (103))]) := (hf321 (98) (by omega) (by omega) (by omega)).trans hO_at_286
                                    have h102_at_321 : F321 (102) = .inl (ty 0, 1400, .inl (tt)) := (hf321 (102) (by omega) (by omega) (by omega)).trans h102_at_286
                                    have h103_at_321 : F321 (103) = .inl (ty 0, 700, .inl (dd)) := (hf321 (103) (by omega) (by omega) (by omega)).trans h103_at_286
                                    rw [← hQ]
                                    exact pw_iret hx hb hr hlocks hw (by
                                      rw [o_change_ok ⟨hRto, hRa⟩ ⟨by omega, by omega⟩ hd9 (u := uto) (x := ua) (by omega) (by omega), show kd = 3 by omega, ch_3]
                                      rw [flz_n (by omega)] at er321 hRn
                                      exact ⟨er321, Mo.mk' (s_lay_t ..) hO_at_321 hRn h102_at_321 htt h103_at_321, fun y9 h1 => ((hf321 (y9) (by omega) (by omega) (by omega)).trans ((hf286 (y9) (by omega) (by omega) (by omega)).trans ((show F281 (y9) = F237 (y9) from by rw [eF281]; exact va_up_ne _ _ (by omega)).trans ((hf237 (y9) (by omega) (by omega) (by omega)).trans ((hf229 (y9) (by omega) (by omega) (by omega)).trans ((show F223 (y9) = F73 (y9) from by rw [eF223]; exact va_up_ne _ _ (by omega)).trans ((hf73 (y9) (by omega) (by omega) (by omega)).trans (hf63 (y9) (by omega) (by omega) (by omega))))))))).trans (hfr y9 (by omega))⟩) d_M_change_324
                                  · refine wz_iconst (n := 1) hx hb d_M_change_276 ?_
                                    refine lv_goto (tgt := 281) hx hb d_M_change_277 (by decide) ?_
                                    refine pw_zast (k := 32) hx hb hw 4 (by omega) a272_101 rfl (iI_in (by omega) (by omega) (by omega)) ((iI_cl (by omega) (by omega)).trans (by omega)) (y := iI (1)) (by decide) d_M_change_281 (fun F281 H locs eF281 hw => ?_)
                                    have m281_101 : F281 (101) = .inl (ty 4, 43, .inl (upd G272 (32) (iI (1)))) := by rw [eF281]; exact va_up_self ..
                                    obtain ⟨N32, hk281⟩ := Nm_sign (t := 32) (z' := (zS g ua) / ((bS g ua : Nat) : Int)) ⟨a272_99, a272_100, a272_101⟩ ⟨(show F281 (99) = F237 (99) from by rw [eF281]; exact va_up_ne _ _ (by omega)).trans a272_99, (show F281 (100) = F237 (100) from by rw [eF281]; exact va_up_ne _ _ (by omega)).trans a272_100, m281_101⟩ N32 (by omega) (by rw [zB_1 (by omega)]; rfl)
                                    have hO_at_281 : F281 (98) = .inr (6, [.int (iI (0)), .ref (ad (99)), .ref (ad (100)), .ref (ad (101)), .ref (ad (102)), .int (iI ((nS g : Int))), .int (iI (pS g)), .ref (ad (103))]) := (show F281 (98) = F237 (98) from by rw [eF281]; exact va_up_ne _ _ (by omega)).trans hO_at_237
                                    have hRn_at_281 : Rn ty F281 (g) := hRn_at_237.kq hk281 (fun c9 h8 h9 => by first | omega | (dsimp only at h9; omega))
                                    have Nua_at_281 : Nm ty F281 (ua) (zS g ua) := hk281 _ _ (by omega) (by first | omega | (dsimp only; omega)) Nua_at_237
                                    have N16ua_at_281 : Nm ty F281 (16 + ua) (((bS g ua : Nat) : Int)) := hk281 _ _ (by omega) (by first | omega | (dsimp only; omega)) N16ua_at_237
                                    have h102_at_281 : F281 (102) = .inl (ty 0, 1400, .inl (tt)) := (show F281 (102) = F237 (102) from by rw [eF281]; exact va_up_ne _ _ (by omega)).trans h102_at_237
                                    have h103_at_281 : F281 (103) = .inl (ty 0, 700, .inl (dd)) := (show F281 (103) = F237 (103) from by rw [eF281]; exact va_up_ne _ _ (by omega)).trans h103_at_237
                                    have N33_at_281 : Nm ty F281 (33) (((bS g ua : Nat) : Int)) := hk281 _ _ (by omega) (by first | omega | (dsimp only; omega)) N33_at_237
                                    have N41_at_281 : Nm ty F281 (41) ((zS g ua) / ((bS g ua : Nat) : Int)) := hk281 _ _ (by omega) (by first | omega | (dsimp only; omega)) N41_at_237
                                    have a272_99_at_281 : F281 (99) = .inl (ty 0, 12900, .inl (P272)) := (show F281 (99) = F237 (99) from by rw [eF281]; exact va_up_ne _ _ (by omega)).trans a272_99
                                    have a272_100_at_281 : F281 (100) = .inl (ty 0, 43, .inl (S272)) := (show F281 (100) = F237 (100) from by rw [eF281]; exact va_up_ne _ _ (by omega)).trans a272_100
                                    refine lv_aload_n hx hb d_M_change_282 rfl (lv_at hl 0 rfl) ?_
                                    refine wz_bipush (n := 33) hx hb d_M_change_283 (by decide) ?_
                                    refine lv_lconst (v := iL 1) hx hb d_M_change_285 (by decide) ?_
                                    obtain ⟨_, _, _, hA286⟩ := (N32).ma
                                    refine pw_callv hw (va_runV (As := [.int (iI (33)), .long (iL (1))]) (rest := []) ⟨hx, hb, hml, hown, hq⟩ (c_M_setLong l D ty ad M F281 H.size hM (0) ((nS g : Int)) (pS g) hO_at_281 _ _ _ hA286 (33) (by omega) (1) (by omega)) (cwV 2 hq (gV ml_M_30 im_M_setLong se_M_setLong in_M m_M_setLong) rfl rfl rfl (by decide +kernel) ⟨Nat.le_of_ble_eq_true rfl, Nat.le_of_ble_eq_true rfl⟩) (pw_preV hw (by omega) hO_at_281 rfl) rfl rfl hl.1 rfl (lv_room (Nat.le_of_ble_eq_true rfl)) d_M_change_286 ⟨Nat.le_of_ble_eq_true rfl, Nat.le_of_ble_eq_true rfl⟩) (fun F286 H locs q286 hw => ?_)
                                    obtain ⟨N33, hk286, hf286⟩ := q286
                                    have hO_at_286 : F286 (98) = .inr (6, [.int (iI (0)), .ref (ad (99)), .ref (ad (100)), .ref (ad (101)), .ref (ad (102)), .int (iI ((nS g : Int))), .int (iI (pS g)), .ref (ad (103))]) := (hf286 (98) (by omega) (by omega) (by omega)).trans hO_at_281
                                    have hRn_at_286 : Rn ty F286 (g) := hRn_at_281.kq hk286 (fun c9 h8 h9 => by first | omega | (dsimp only at h9; omega))
                                    have Nua_at_286 : Nm ty F286 (ua) (zS g ua) := hk286 _ _ (by omega) (by first | omega | (dsimp only; omega)) Nua_at_281
                                    have N16ua_at_286 : Nm ty F286 (16 + ua) (((bS g ua : Nat) : Int)) := hk286 _ _ (by omega) (by first | omega | (dsimp only; omega)) N16ua_at_281
                                    have h102_at_286 : F286 (102) = .inl (ty 0, 1400, .inl (tt)) := (hf286 (102) (by omega) (by omega) (by omega)).trans h102_at_281
                                    have h103_at_286 : F286 (103) = .inl (ty 0, 700, .inl (dd)) := (hf286 (103) (by omega) (by omega) (by omega)).trans h103_at_281
                                    have N41_at_286 : Nm ty F286 (41) ((zS g ua) / ((bS g ua : Nat) : Int)) := hk286 _ _ (by omega) (by first | omega | (dsimp only; omega)) N41_at_281
                                    have N32_at_286 : Nm ty F286 (32) ((zS g ua) / ((bS g ua : Nat) : Int)) := hk286 _ _ (by omega) (by first | omega | (dsimp only; omega)) N32
                                    refine lv_goto (tgt := 319) hx hb d_M_change_289 (by decide) ?_
                                    refine lv_aload_n hx hb d_M_change_319 rfl (lv_at hl 0 rfl) ?_
                                    refine lv_iload_n hx hb d_M_change_320 rfl (lv_at hl 1 rfl) ?_
                                    refine pw_calli hw (va_runV (As := [.int (iI ((uto : Int)))]) (rest := []) ⟨hx, hb, hml, hown, hq⟩ (c_M_lay l D ty ad M F286 H.size hM (0) ((nS g : Int)) (pS g) hO_at_286 (uto) ((zS g ua) / ((bS g ua : Nat) : Int)) (1) (g) (by omega) (by omega) N32_at_286 N33 hRn_at_286 (fl_md1 hmx) (md_1)) (cwV 1 hq (gV ml_M_89 im_M_lay se_M_lay in_M m_M_lay) rfl rfl rfl (by decide +kernel) ⟨Nat.le_of_ble_eq_true rfl, Nat.le_of_ble_eq_true rfl⟩) (pw_preV hw (by omega) hO_at_286 rfl) rfl rfl hl.1 rfl (lv_room (Nat.le_of_ble_eq_true rfl)) d_M_change_321 ⟨Nat.le_of_ble_eq_true rfl, Nat.le_of_ble_eq_true rfl⟩) (fun r321 F321 H locs q321 hw => ?_)
                                    obtain ⟨er321, hRn, hf321⟩ := q321
                                    have hO_at_321 : F321 (98) = .inr (6, [.int (iI (0)), .ref (ad (99)), .ref (ad (100)), .ref (ad (101)), .ref (ad (102)), .int (iI ((nS g : Int))), .int (iI (pS g)), .ref (ad (103))]) := (hf321 (98) (by omega) (by omega) (by omega)).trans hO_at_286
                                    have h102_at_321 : F321 (102) = .inl (ty 0, 1400, .inl (tt)) := (hf321 (102) (by omega) (by omega) (by omega)).trans h102_at_286
                                    have h103_at_321 : F321 (103) = .inl (ty 0, 700, .inl (dd)) := (hf321 (103) (by omega) (by omega) (by omega)).trans h103_at_286
                                    rw [← hQ]
                                    exact pw_iret hx hb hr hlocks hw (by
                                      rw [o_change_ok ⟨hRto, hRa⟩ ⟨by omega, by omega⟩ hd9 (u := uto) (x := ua) (by omega) (by omega), show kd = 3 by omega, ch_3]
                                      rw [flz_n (by omega)] at er321 hRn
                                      exact ⟨er321, Mo.mk' (s_lay_t ..) hO_at_321 hRn h102_at_321 htt h103_at_321, fun y9 h1 => ((hf321 (y9) (by omega) (by omega) (by omega)).trans ((hf286 (y9) (by omega) (by omega) (by omega)).trans ((show F281 (y9) = F237 (y9) from by rw [eF281]; exact va_up_ne _ _ (by omega)).trans ((hf237 (y9) (by omega) (by omega) (by omega)).trans ((hf229 (y9) (by omega) (by omega) (by omega)).trans ((show F223 (y9) = F73 (y9) from by rw [eF223]; exact va_up_ne _ _ (by omega)).trans ((hf73 (y9) (by omega) (by omega) (by omega)).trans (hf63 (y9) (by omega) (by omega) (by omega))))))))).trans (hfr y9 (by omega))⟩) d_M_change_324
                              · exact absurd c255 (by omega)
                        · exact absurd c197 (by omega)
                      · skip
                        by_cases c77_4 : kd = 4
                        · refine wz_tabIn (k := 4) (off := 105) (tgt := 182) hx hb d_M_change_77 c77_4 (by omega) (by omega) (by decide) rfl (by decide) ?_
                          refine lv_aload_n hx hb d_M_change_182 rfl (lv_at hl 0 rfl) ?_
                          refine pw_get (ci := 6) (C := R_M) (T := T_M) (N := 8) hx hb hq i_M hown hw (by omega) hO_at_73 rfl 3 (by decide) (hq _ fl_M_16) (fun _ h9 => h9) rfl d_M_change_183 ?_
                          refine wz_bipush (n := 32) hx hb d_M_change_186 (by decide) ?_
                          refine lv_aload_n hx hb d_M_change_188 rfl (lv_at hl 0 rfl) ?_
                          refine pw_get (ci := 6) (C := R_M) (T := T_M) (N := 8) hx hb hq i_M hown hw (by omega) hO_at_73 rfl 3 (by decide) (hq _ fl_M_16) (fun _ h9 => h9) rfl d_M_change_189 ?_
                          refine wz_bipush (n := 32) hx hb d_M_change_192 (by decide) ?_
                          obtain ⟨P194, S194, G194, ⟨a194_99, a194_100, a194_101⟩, ⟨n194, hS194, h3194, hD194, ht194, hv194⟩, hG194⟩ := id N32_at_73
                          have hs194 := sB_c (zS g ua)
                          refine pw_zald (k := 32) hx hb hw 4 (by omega) a194_101 rfl (iI_in (by omega) (by omega) (by omega)) ((iI_cl (by omega) (by omega)).trans (by omega)) d_M_change_194 ?_
                          refine lv_topi (fun x194 ex194 => ?_)
                          obtain rfl : x194 = iI ((sB (zS g ua) : Int)) := ex194.trans (hG194)
                          refine lv_iload_n hx hb d_M_change_195 rfl (lv_at hl 2 rfl) ?_
                          refine wz_iconst (n := 4) hx hb d_M_change_196 ?_
                          refine wz_icmp_ne (tgt := 204) hx hb d_M_change_197 (by decide) (by omega) (by omega) (by omega) (by omega) (fun c197 => ?_) (fun c197 => ?_)
                          · exact absurd c197 (by omega)
                          · refine wz_iconst (n := 1) hx hb d_M_change_200 ?_
                            refine lv_goto (tgt := 205) hx hb d_M_change_201 (by decide) ?_
                            refine wz_icmp_eq (tgt := 222) hx hb d_M_change_205 (by decide) (by omega) (by omega) (by omega) (by omega) (fun c205 => ?_) (fun c205 => ?_)
                            · refine wz_iconst (n := 0) hx hb d_M_change_222 ?_
                              refine pw_zast (k := 32) hx hb hw 4 (by omega) a194_101 rfl (iI_in (by omega) (by omega) (by omega)) ((iI_cl (by omega) (by omega)).trans (by omega)) (y := iI (0)) (by decide) d_M_change_223 (fun F223 H locs eF223 hw => ?_)
                              have m223_101 : F223 (101) = .inl (ty 4, 43, .inl (upd G194 (32) (iI (0)))) := by rw [eF223]; exact va_up_self ..
                              obtain ⟨N32, hk223⟩ := Nm_sign (t := 32) (z' := -(zS g ua)) ⟨a194_99, a194_100, a194_101⟩ ⟨(show F223 (99) = F73 (99) from by rw [eF223]; exact va_up_ne _ _ (by omega)).trans a194_99, (show F223 (100) = F73 (100) from by rw [eF223]; exact va_up_ne _ _ (by omega)).trans a194_100, m223_101⟩ N32_at_73 (by omega) (by rw [zB_0 (by omega)]; rfl)
                              have hO_at_223 : F223 (98) = .inr (6, [.int (iI (0)), .ref (ad (99)), .ref (ad (100)), .ref (ad (101)), .ref (ad (102)), .int (iI ((nS g : Int))), .int (iI (pS g)), .ref (ad (103))]) := (show F223 (98) = F73 (98) from by rw [eF223]; exact va_up_ne _ _ (by omega)).trans hO_at_73
                              have hRn_at_223 : Rn ty F223 (g) := hRn_at_73.kq hk223 (fun c9 h8 h9 => by first | omega | (dsimp only at h9; omega))
                              have Nua_at_223 : Nm ty F223 (ua) (zS g ua) := hk223 _ _ (by omega) (by first | omega | (dsimp only; omega)) Nua_at_73
                              have N16ua_at_223 : Nm ty F223 (16 + ua) (((bS g ua : Nat) : Int)) := hk223 _ _ (by omega) (by first | omega | (dsimp only; omega)) N16ua_at_73
                              have h102_at_223 : F223 (102) = .inl (ty 0, 1400, .inl (tt)) := (show F223 (102) = F73 (102) from by rw [eF223]; exact va_up_ne _ _ (by omega)).trans h102_at_73
                              have h103_at_223 : F223 (103) = .inl (ty 0, 700, .inl (dd)) := (show F223 (103) = F73 (103) from by rw [eF223]; exact va_up_ne _ _ (by omega)).trans h103_at_73
                              have N33_at_223 : Nm ty F223 (33) (((bS g ua : Nat) : Int)) := hk223 _ _ (by omega) (by first | omega | (dsimp only; omega)) N33
                              have a194_99_at_223 : F223 (99) = .inl (ty 0, 12900, .inl (P194)) := (show F223 (99) = F73 (99) from by rw [eF223]; exact va_up_ne _ _ (by omega)).trans a194_99
                              have a194_100_at_223 : F223 (100) = .inl (ty 0, 43, .inl (S194)) := (show F223 (100) = F73 (100) from by rw [eF223]; exact va_up_ne _ _ (by omega)).trans a194_100
                              refine lv_aload_n hx hb d_M_change_224 rfl (lv_at hl 0 rfl) ?_
                              refine wz_bipush (n := 32) hx hb d_M_change_225 (by decide) ?_
                              refine wz_bipush (n := 33) hx hb d_M_change_227 (by decide) ?_
                              refine pw_callv hw (va_runV (As := [.int (iI (32)), .int (iI (33))]) (rest := []) ⟨hx, hb, hml, hown, hq⟩ (c_M_floor l D ty ad M F223 H.size hM (0) ((nS g : Int)) (pS g) hO_at_223 (32) (33) (-(zS g ua)) (((bS g ua : Nat) : Int)) (by omega) (by omega) (by omega) (by omega) (by omega) N32 N33_at_223 (by rw [Int.natAbs_neg]; exact hmx) (hmb)) (cwV 2 hq (gV ml_M_95 im_M_floor se_M_floor in_M m_M_floor) rfl rfl rfl (by decide +kernel) ⟨Nat.le_of_ble_eq_true rfl, Nat.le_of_ble_eq_true rfl⟩) (pw_preV hw (by omega) hO_at_223 rfl) rfl rfl hl.1 rfl (lv_room (Nat.le_of_ble_eq_true rfl)) d_M_change_229 ⟨Nat.le_of_ble_eq_true rfl, Nat.le_of_ble_eq_true rfl⟩) (fun F229 H locs q229 hw => ?_)
                              obtain ⟨N41, hk229, hf229⟩ := q229
                              have hO_at_229 : F229 (98) = .inr (6, [.int (iI (0)), .ref (ad (99)), .ref (ad (100)), .ref (ad (101)), .ref (ad (102)), .int (iI ((nS g : Int))), .int (iI (pS g)), .ref (ad (103))]) := (hf229 (98) (by omega) (by omega) (by omega)).trans hO_at_223
                              have hRn_at_229 : Rn ty F229 (g) := hRn_at_223.kq hk229 (fun c9 h8 h9 => by first | omega | (dsimp only at h9; omega))
                              have Nua_at_229 : Nm ty F229 (ua) (zS g ua) := hk229 _ _ (by omega) (by first | omega | (dsimp only; omega)) Nua_at_223
                              have N16ua_at_229 : Nm ty F229 (16 + ua) (((bS g ua : Nat) : Int)) := hk229 _ _ (by omega) (by first | omega | (dsimp only; omega)) N16ua_at_223
                              have h102_at_229 : F229 (102) = .inl (ty 0, 1400, .inl (tt)) := (hf229 (102) (by omega) (by omega) (by omega)).trans h102_at_223
                              have h103_at_229 : F229 (103) = .inl (ty 0, 700, .inl (dd)) := (hf229 (103) (by omega) (by omega) (by omega)).trans h103_at_223
                              have N33_at_229 : Nm ty F229 (33) (((bS g ua : Nat) : Int)) := hk229 _ _ (by omega) (by first | omega | (dsimp only; omega)) N33_at_223
                              have N32_at_229 : Nm ty F229 (32) (-(zS g ua)) := hk229 _ _ (by omega) (by first | omega | (dsimp only; omega)) N32
                              refine lv_aload_n hx hb d_M_change_232 rfl (lv_at hl 0 rfl) ?_
                              refine wz_bipush (n := 32) hx hb d_M_change_233 (by decide) ?_
                              refine wz_bipush (n := 41) hx hb d_M_change_235 (by decide) ?_
                              refine pw_callv hw (va_runV (As := [.int (iI (32)), .int (iI (41))]) (rest := []) ⟨hx, hb, hml, hown, hq⟩ (c_M_copy l D ty ad M F229 H.size hM (0) ((nS g : Int)) (pS g) hO_at_229 (32) (41) (by omega) (by omega) (by omega) ((-(zS g ua)) / ((bS g ua : Nat) : Int)) N41) (cwV 2 hq (gV ml_M_55 im_M_copy se_M_copy in_M m_M_copy) rfl rfl rfl (by decide +kernel) ⟨Nat.le_of_ble_eq_true rfl, Nat.le_of_ble_eq_true rfl⟩) (pw_preV hw (by omega) hO_at_229 rfl) rfl rfl hl.1 rfl (lv_room (Nat.le_of_ble_eq_true rfl)) d_M_change_237 ⟨Nat.le_of_ble_eq_true rfl, Nat.le_of_ble_eq_true rfl⟩) (fun F237 H locs q237 hw => ?_)
                              obtain ⟨N32, hk237, hf237⟩ := q237
                              have hO_at_237 : F237 (98) = .inr (6, [.int (iI (0)), .ref (ad (99)), .ref (ad (100)), .ref (ad (101)), .ref (ad (102)), .int (iI ((nS g : Int))), .int (iI (pS g)), .ref (ad (103))]) := (hf237 (98) (by omega) (by omega) (by omega)).trans hO_at_229
                              have hRn_at_237 : Rn ty F237 (g) := hRn_at_229.kq hk237 (fun c9 h8 h9 => by first | omega | (dsimp only at h9; omega))
                              have Nua_at_237 : Nm ty F237 (ua) (zS g ua) := hk237 _ _ (by omega) (by first | omega | (dsimp only; omega)) Nua_at_229
                              have N16ua_at_237 : Nm ty F237 (16 + ua) (((bS g ua : Nat) : Int)) := hk237 _ _ (by omega) (by first | omega | (dsimp only; omega)) N16ua_at_229
                              have h102_at_237 : F237 (102) = .inl (ty 0, 1400, .inl (tt)) := (hf237 (102) (by omega) (by omega) (by omega)).trans h102_at_229
                              have h103_at_237 : F237 (103) = .inl (ty 0, 700, .inl (dd)) := (hf237 (103) (by omega) (by omega) (by omega)).trans h103_at_229
                              have N33_at_237 : Nm ty F237 (33) (((bS g ua : Nat) : Int)) := hk237 _ _ (by omega) (by first | omega | (dsimp only; omega)) N33_at_229
                              have N41_at_237 : Nm ty F237 (41) ((-(zS g ua)) / ((bS g ua : Nat) : Int)) := hk237 _ _ (by omega) (by first | omega | (dsimp only; omega)) N41
                              refine lv_aload_n hx hb d_M_change_240 rfl (lv_at hl 0 rfl) ?_
                              refine pw_get (ci := 6) (C := R_M) (T := T_M) (N := 8) hx hb hq i_M hown hw (by omega) hO_at_237 rfl 3 (by decide) (hq _ fl_M_16) (fun _ h9 => h9) rfl d_M_change_241 ?_
                              refine wz_bipush (n := 32) hx hb d_M_change_244 (by decide) ?_
                              refine lv_aload_n hx hb d_M_change_246 rfl (lv_at hl 0 rfl) ?_
                              refine pw_get (ci := 6) (C := R_M) (T := T_M) (N := 8) hx hb hq i_M hown hw (by omega) hO_at_237 rfl 3 (by decide) (hq _ fl_M_16) (fun _ h9 => h9) rfl d_M_change_247 ?_
                              refine wz_bipush (n := 32) hx hb d_M_change_250 (by decide) ?_
                              obtain ⟨P252, S252, G252, ⟨a252_99, a252_100, a252_101⟩, ⟨n252, hS252, h3252, hD252, ht252, hv252⟩, hG252⟩ := id N32
                              have hs252 := sB_c ((-(zS g ua)) / ((bS g ua : Nat) : Int))
                              refine pw_zald (k := 32) hx hb hw 4 (by omega) a252_101 rfl (iI_in (by omega) (by omega) (by omega)) ((iI_cl (by omega) (by omega)).trans (by omega)) d_M_change_252 ?_
                              refine lv_topi (fun x252 ex252 => ?_)
                              obtain rfl : x252 = iI ((sB ((-(zS g ua)) / ((bS g ua : Nat) : Int)) : Int)) := ex252.trans (hG252)
                              refine lv_iload_n hx hb d_M_change_253 rfl (lv_at hl 2 rfl) ?_
                              refine wz_iconst (n := 4) hx hb d_M_change_254 ?_
                              refine wz_icmp_ne (tgt := 262) hx hb d_M_change_255 (by decide) (by omega) (by omega) (by omega) (by omega) (fun c255 => ?_) (fun c255 => ?_)
                              · exact absurd c255 (by omega)
                              · refine wz_iconst (n := 1) hx hb d_M_change_258 ?_
                                refine lv_goto (tgt := 263) hx hb d_M_change_259 (by decide) ?_
                                refine wz_icmp_eq (tgt := 280) hx hb d_M_change_263 (by decide) (by omega) (by omega) (by omega) (by omega) (fun c263 => ?_) (fun c263 => ?_)
                                · refine wz_iconst (n := 0) hx hb d_M_change_280 ?_
                                  refine pw_zast (k := 32) hx hb hw 4 (by omega) a252_101 rfl (iI_in (by omega) (by omega) (by omega)) ((iI_cl (by omega) (by omega)).trans (by omega)) (y := iI (0)) (by decide) d_M_change_281 (fun F281 H locs eF281 hw => ?_)
                                  have m281_101 : F281 (101) = .inl (ty 4, 43, .inl (upd G252 (32) (iI (0)))) := by rw [eF281]; exact va_up_self ..
                                  obtain ⟨N32, hk281⟩ := Nm_sign (t := 32) (z' := -((-(zS g ua)) / ((bS g ua : Nat) : Int))) ⟨a252_99, a252_100, a252_101⟩ ⟨(show F281 (99) = F237 (99) from by rw [eF281]; exact va_up_ne _ _ (by omega)).trans a252_99, (show F281 (100) = F237 (100) from by rw [eF281]; exact va_up_ne _ _ (by omega)).trans a252_100, m281_101⟩ N32 (by omega) (by rw [zB_0 (by omega)]; rfl)
                                  have hO_at_281 : F281 (98) = .inr (6, [.int (iI (0)), .ref (ad (99)), .ref (ad (100)), .ref (ad (101)), .ref (ad (102)), .int (iI ((nS g : Int))), .int (iI (pS g)), .ref (ad (103))]) := (show F281 (98) = F237 (98) from by rw [eF281]; exact va_up_ne _ _ (by omega)).trans hO_at_237
                                  have hRn_at_281 : Rn ty F281 (g) := hRn_at_237.kq hk281 (fun c9 h8 h9 => by first | omega | (dsimp only at h9; omega))
                                  have Nua_at_281 : Nm ty F281 (ua) (zS g ua) := hk281 _ _ (by omega) (by first | omega | (dsimp only; omega)) Nua_at_237
                                  have N16ua_at_281 : Nm ty F281 (16 + ua) (((bS g ua : Nat) : Int)) := hk281 _ _ (by omega) (by first | omega | (dsimp only; omega)) N16ua_at_237
                                  have h102_at_281 : F281 (102) = .inl (ty 0, 1400, .inl (tt)) := (show F281 (102) = F237 (102) from by rw [eF281]; exact va_up_ne _ _ (by omega)).trans h102_at_237
                                  have h103_at_281 : F281 (103) = .inl (ty 0, 700, .inl (dd)) := (show F281 (103) = F237 (103) from by rw [eF281]; exact va_up_ne _ _ (by omega)).trans h103_at_237
                                  have N33_at_281 : Nm ty F281 (33) (((bS g ua : Nat) : Int)) := hk281 _ _ (by omega) (by first | omega | (dsimp only; omega)) N33_at_237
                                  have N41_at_281 : Nm ty F281 (41) ((-(zS g ua)) / ((bS g ua : Nat) : Int)) := hk281 _ _ (by omega) (by first | omega | (dsimp only; omega)) N41_at_237
                                  have a252_99_at_281 : F281 (99) = .inl (ty 0, 12900, .inl (P252)) := (show F281 (99) = F237 (99) from by rw [eF281]; exact va_up_ne _ _ (by omega)).trans a252_99
                                  have a252_100_at_281 : F281 (100) = .inl (ty 0, 43, .inl (S252)) := (show F281 (100) = F237 (100) from by rw [eF281]; exact va_up_ne _ _ (by omega)).trans a252_100
                                  refine lv_aload_n hx hb d_M_change_282 rfl (lv_at hl 0 rfl) ?_
                                  refine wz_bipush (n := 33) hx hb d_M_change_283 (by decide) ?_
                                  refine lv_lconst (v := iL 1) hx hb d_M_change_285 (by decide) ?_
                                  obtain ⟨_, _, _, hA286⟩ := (N32).ma
                                  refine pw_callv hw (va_runV (As := [.int (iI (33)), .long (iL (1))]) (rest := []) ⟨hx, hb, hml, hown, hq⟩ (c_M_setLong l D ty ad M F281 H.size hM (0) ((nS g : Int)) (pS g) hO_at_281 _ _ _ hA286 (33) (by omega) (1) (by omega)) (cwV 2 hq (gV ml_M_30 im_M_setLong se_M_setLong in_M m_M_setLong) rfl rfl rfl (by decide +kernel) ⟨Nat.le_of_ble_eq_true rfl, Nat.le_of_ble_eq_true rfl⟩) (pw_preV hw (by omega) hO_at_281 rfl) rfl rfl hl.1 rfl (lv_room (Nat.le_of_ble_eq_true rfl)) d_M_change_286 ⟨Nat.le_of_ble_eq_true rfl, Nat.le_of_ble_eq_true rfl⟩) (fun F286 H locs q286 hw => ?_)
                                  obtain ⟨N33, hk286, hf286⟩ := q286
                                  have hO_at_286 : F286 (98) = .inr (6, [.int (iI (0)), .ref (ad (99)), .ref (ad (100)), .ref (ad (101)), .ref (ad (102)), .int (iI ((nS g : Int))), .int (iI (pS g)), .ref (ad (103))]) := (hf286 (98) (by omega) (by omega) (by omega)).trans hO_at_281
                                  have hRn_at_286 : Rn ty F286 (g) := hRn_at_281.kq hk286 (fun c9 h8 h9 => by first | omega | (dsimp only at h9; omega))
                                  have Nua_at_286 : Nm ty F286 (ua) (zS g ua) := hk286 _ _ (by omega) (by first | omega | (dsimp only; omega)) Nua_at_281
                                  have N16ua_at_286 : Nm ty F286 (16 + ua) (((bS g ua : Nat) : Int)) := hk286 _ _ (by omega) (by first | omega | (dsimp only; omega)) N16ua_at_281
                                  have h102_at_286 : F286 (102) = .inl (ty 0, 1400, .inl (tt)) := (hf286 (102) (by omega) (by omega) (by omega)).trans h102_at_281
                                  have h103_at_286 : F286 (103) = .inl (ty 0, 700, .inl (dd)) := (hf286 (103) (by omega) (by omega) (by omega)).trans h103_at_281
                                  have N41_at_286 : Nm ty F286 (41) ((-(zS g ua)) / ((bS g ua : Nat) : Int)) := hk286 _ _ (by omega) (by first | omega | (dsimp only; omega)) N41_at_281
                                  have N32_at_286 : Nm ty F286 (32) (-((-(zS g ua)) / ((bS g ua : Nat) : Int))) := hk286 _ _ (by omega) (by first | omega | (dsimp only; omega)) N32
                                  refine lv_goto (tgt := 319) hx hb d_M_change_289 (by decide) ?_
                                  refine lv_aload_n hx hb d_M_change_319 rfl (lv_at hl 0 rfl) ?_
                                  refine lv_iload_n hx hb d_M_change_320 rfl (lv_at hl 1 rfl) ?_
                                  refine pw_calli hw (va_runV (As := [.int (iI ((uto : Int)))]) (rest := []) ⟨hx, hb, hml, hown, hq⟩ (c_M_lay l D ty ad M F286 H.size hM (0) ((nS g : Int)) (pS g) hO_at_286 (uto) (-((-(zS g ua)) / ((bS g ua : Nat) : Int))) (1) (g) (by omega) (by omega) N32_at_286 N33 hRn_at_286 (by rw [Int.natAbs_neg]; exact fl_md1 (by rw [Int.natAbs_neg]; exact hmx)) (md_1)) (cwV 1 hq (gV ml_M_89 im_M_lay se_M_lay in_M m_M_lay) rfl rfl rfl (by decide +kernel) ⟨Nat.le_of_ble_eq_true rfl, Nat.le_of_ble_eq_true rfl⟩) (pw_preV hw (by omega) hO_at_286 rfl) rfl rfl hl.1 rfl (lv_room (Nat.le_of_ble_eq_true rfl)) d_M_change_321 ⟨Nat.le_of_ble_eq_true rfl, Nat.le_of_ble_eq_true rfl⟩) (fun r321 F321 H locs q321 hw => ?_)
                                  obtain ⟨er321, hRn, hf321⟩ := q321
                                  have hO_at_321 : F321 (98) = .inr (6, [.int (iI (0)), .ref (ad (99)), .ref (ad (100)), .ref (ad (101)), .ref (ad (102)), .int (iI ((nS g : Int))), .int (iI (pS g)), .ref (ad (103))]) := (hf321 (98) (by omega) (by omega) (by omega)).trans hO_at_286
                                  have h102_at_321 : F321 (102) = .inl (ty 0, 1400, .inl (tt)) := (hf321 (102) (by omega) (by omega) (by omega)).trans h102_at_286
                                  have h103_at_321 : F321 (103) = .inl (ty 0, 700, .inl (dd)) := (hf321 (103) (by omega) (by omega) (by omega)).trans h103_at_286
                                  rw [← hQ]
                                  exact pw_iret hx hb hr hlocks hw (by
                                    rw [o_change_ok ⟨hRto, hRa⟩ ⟨by omega, by omega⟩ hd9 (u := uto) (x := ua) (by omega) (by omega), show kd = 4 by omega, ch_4]
                                    rw [flz_n (by omega)] at er321 hRn
                                    exact ⟨er321, Mo.mk' (s_lay_t ..) hO_at_321 hRn h102_at_321 htt h103_at_321, fun y9 h1 => ((hf321 (y9) (by omega) (by omega) (by omega)).trans ((hf286 (y9) (by omega) (by omega) (by omega)).trans ((show F281 (y9) = F237 (y9) from by rw [eF281]; exact va_up_ne _ _ (by omega)).trans ((hf237 (y9) (by omega) (by omega) (by omega)).trans ((hf229 (y9) (by omega) (by omega) (by omega)).trans ((show F223 (y9) = F73 (y9) from by rw [eF223]; exact va_up_ne _ _ (by omega)).trans ((hf73 (y9) (by omega) (by omega) (by omega)).trans (hf63 (y9) (by omega) (by omega) (by omega))))))))).trans (hfr y9 (by omega))⟩) d_M_change_324
                                · refine lv_aload_n hx hb d_M_change_266 rfl (lv_at hl 0 rfl) ?_
                                  refine pw_get (ci := 6) (C := R_M) (T := T_M) (N := 8) hx hb hq i_M hown hw (by omega) hO_at_237 rfl 2 (by decide) (hq _ fl_M_13) (fun _ h9 => h9) rfl d_M_change_267 ?_
                                  refine wz_bipush (n := 32) hx hb d_M_change_270 (by decide) ?_
                                  obtain ⟨P272, S272, G272, ⟨a272_99, a272_100, a272_101⟩, ⟨nv, hS272, h3272, hD272, ht272, hv272⟩, hG272⟩ := id N32
                                  have hz272 := bvP_z ht272
                                  rw [hv272] at hz272
                                  refine pw_iald (k := 32) hx hb hw 0 (by omega) a272_100 rfl (iI_in (by omega) (by omega) (by omega)) ((iI_cl (by omega) (by omega)).trans (by omega)) d_M_change_272 ?_
                                  refine lv_topi (fun x272 ex272 => ?_)
                                  obtain rfl : x272 = iI ((nv : Int)) := ex272.trans (hS272)
                                  refine wz_if_le (tgt := 280) hx hb d_M_change_273 (by decide) (by omega) (by omega) (fun c273 => ?_) (fun c273 => ?_)
                                  · refine wz_iconst (n := 0) hx hb d_M_change_280 ?_
                                    refine pw_zast (k := 32) hx hb hw 4 (by omega) a272_101 rfl (iI_in (by omega) (by omega) (by omega)) ((iI_cl (by omega) (by omega)).trans (by omega)) (y := iI (0)) (by decide) d_M_change_281 (fun F281 H locs eF281 hw => ?_)
                                    have m281_101 : F281 (101) = .inl (ty 4, 43, .inl (upd G272 (32) (iI (0)))) := by rw [eF281]; exact va_up_self ..
                                    obtain ⟨N32, hk281⟩ := Nm_sign (t := 32) (z' := -((-(zS g ua)) / ((bS g ua : Nat) : Int))) ⟨a272_99, a272_100, a272_101⟩ ⟨(show F281 (99) = F237 (99) from by rw [eF281]; exact va_up_ne _ _ (by omega)).trans a272_99, (show F281 (100) = F237 (100) from by rw [eF281]; exact va_up_ne _ _ (by omega)).trans a272_100, m281_101⟩ N32 (by omega) (by rw [zB_0 (by omega)]; rfl)
                                    have hO_at_281 : F281 (98) = .inr (6, [.int (iI (0)), .ref (ad (99)), .ref (ad (100)), .ref (ad (101)), .ref (ad (102)), .int (iI ((nS g : Int))), .int (iI (pS g)), .ref (ad (103))]) := (show F281 (98) = F237 (98) from by rw [eF281]; exact va_up_ne _ _ (by omega)).trans hO_at_237
                                    have hRn_at_281 : Rn ty F281 (g) := hRn_at_237.kq hk281 (fun c9 h8 h9 => by first | omega | (dsimp only at h9; omega))
                                    have Nua_at_281 : Nm ty F281 (ua) (zS g ua) := hk281 _ _ (by omega) (by first | omega | (dsimp only; omega)) Nua_at_237
                                    have N16ua_at_281 : Nm ty F281 (16 + ua) (((bS g ua : Nat) : Int)) := hk281 _ _ (by omega) (by first | omega | (dsimp only; omega)) N16ua_at_237
                                    have h102_at_281 : F281 (102) = .inl (ty 0, 1400, .inl (tt)) := (show F281 (102) = F237 (102) from by rw [eF281]; exact va_up_ne _ _ (by omega)).trans h102_at_237
                                    have h103_at_281 : F281 (103) = .inl (ty 0, 700, .inl (dd)) := (show F281 (103) = F237 (103) from by rw [eF281]; exact va_up_ne _ _ (by omega)).trans h103_at_237
                                    have N33_at_281 : Nm ty F281 (33) (((bS g ua : Nat) : Int)) := hk281 _ _ (by omega) (by first | omega | (dsimp only; omega)) N33_at_237
                                    have N41_at_281 : Nm ty F281 (41) ((-(zS g ua)) / ((bS g ua : Nat) : Int)) := hk281 _ _ (by omega) (by first | omega | (dsimp only; omega)) N41_at_237
                                    have a272_99_at_281 : F281 (99) = .inl (ty 0, 12900, .inl (P272)) := (show F281 (99) = F237 (99) from by rw [eF281]; exact va_up_ne _ _ (by omega)).trans a272_99
                                    have a272_100_at_281 : F281 (100) = .inl (ty 0, 43, .inl (S272)) := (show F281 (100) = F237 (100) from by rw [eF281]; exact va_up_ne _ _ (by omega)).trans a272_100
                                    refine lv_aload_n hx hb d_M_change_282 rfl (lv_at hl 0 rfl) ?_
                                    refine wz_bipush (n := 33) hx hb d_M_change_283 (by decide) ?_
                                    refine lv_lconst (v := iL 1) hx hb d_M_change_285 (by decide) ?_
                                    obtain ⟨_, _, _, hA286⟩ := (N32).ma
                                    refine pw_callv hw (va_runV (As := [.int (iI (33)), .long (iL (1))]) (rest := []) ⟨hx, hb, hml, hown, hq⟩ (c_M_setLong l D ty ad M F281 H.size hM (0) ((nS g : Int)) (pS g) hO_at_281 _ _ _ hA286 (33) (by omega) (1) (by omega)) (cwV 2 hq (gV ml_M_30 im_M_setLong se_M_setLong in_M m_M_setLong) rfl rfl rfl (by decide +kernel) ⟨Nat.le_of_ble_eq_true rfl, Nat.le_of_ble_eq_true rfl⟩) (pw_preV hw (by omega) hO_at_281 rfl) rfl rfl hl.1 rfl (lv_room (Nat.le_of_ble_eq_true rfl)) d_M_change_286 ⟨Nat.le_of_ble_eq_true rfl, Nat.le_of_ble_eq_true rfl⟩) (fun F286 H locs q286 hw => ?_)
                                    obtain ⟨N33, hk286, hf286⟩ := q286
                                    have hO_at_286 : F286 (98) = .inr (6, [.int (iI (0)), .ref (ad (99)), .ref (ad (100)), .ref (ad (101)), .ref (ad (102)), .int (iI ((nS g : Int))), .int (iI (pS g)), .ref (ad (103))]) := (hf286 (98) (by omega) (by omega) (by omega)).trans hO_at_281
                                    have hRn_at_286 : Rn ty F286 (g) := hRn_at_281.kq hk286 (fun c9 h8 h9 => by first | omega | (dsimp only at h9; omega))
                                    have Nua_at_286 : Nm ty F286 (ua) (zS g ua) := hk286 _ _ (by omega) (by first | omega | (dsimp only; omega)) Nua_at_281
                                    have N16ua_at_286 : Nm ty F286 (16 + ua) (((bS g ua : Nat) : Int)) := hk286 _ _ (by omega) (by first | omega | (dsimp only; omega)) N16ua_at_281
                                    have h102_at_286 : F286 (102) = .inl (ty 0, 1400, .inl (tt)) := (hf286 (102) (by omega) (by omega) (by omega)).trans h102_at_281
                                    have h103_at_286 : F286 (103) = .inl (ty 0, 700, .inl (dd)) := (hf286 (103) (by omega) (by omega) (by omega)).trans h103_at_281
                                    have N41_at_286 : Nm ty F286 (41) ((-(zS g ua)) / ((bS g ua : Nat) : Int)) := hk286 _ _ (by omega) (by first | omega | (dsimp only; omega)) N41_at_281
                                    have N32_at_286 : Nm ty F286 (32) (-((-(zS g ua)) / ((bS g ua : Nat) : Int))) := hk286 _ _ (by omega) (by first | omega | (dsimp only; omega)) N32
                                    refine lv_goto (tgt := 319) hx hb d_M_change_289 (by decide) ?_
                                    refine lv_aload_n hx hb d_M_change_319 rfl (lv_at hl 0 rfl) ?_
                                    refine lv_iload_n hx hb d_M_change_320 rfl (lv_at hl 1 rfl) ?_
                                    refine pw_calli hw (va_runV (As := [.int (iI ((uto : Int)))]) (rest := []) ⟨hx, hb, hml, hown, hq⟩ (c_M_lay l D ty ad M F286 H.size hM (0) ((nS g : Int)) (pS g) hO_at_286 (uto) (-((-(zS g ua)) / ((bS g ua : Nat) : Int))) (1) (g) (by omega) (by omega) N32_at_286 N33 hRn_at_286 (by rw [Int.natAbs_neg]; exact fl_md1 (by rw [Int.natAbs_neg]; exact hmx)) (md_1)) (cwV 1 hq (gV ml_M_89 im_M_lay se_M_lay in_M m_M_lay) rfl rfl rfl (by decide +kernel) ⟨Nat.le_of_ble_eq_true rfl, Nat.le_of_ble_eq_true rfl⟩) (pw_preV hw (by omega) hO_at_286 rfl) rfl rfl hl.1 rfl (lv_room (Nat.le_of_ble_eq_true rfl)) d_M_change_321 ⟨Nat.le_of_ble_eq_true rfl, Nat.le_of_ble_eq_true rfl⟩) (fun r321 F321 H locs q321 hw => ?_)
                                    obtain ⟨er321, hRn, hf321⟩ := q321
                                    have hO_at_321 : F321 (98) = .inr (6, [.int (iI (0)), .ref (ad (99)), .ref (ad (100)), .ref (ad (101)), .ref (ad (102)), .int (iI ((nS g : Int))), .int (iI (pS g)), .ref (ad (103))]) := (hf321 (98) (by omega) (by omega) (by omega)).trans hO_at_286
                                    have h102_at_321 : F321 (102) = .inl (ty 0, 1400, .inl (tt)) := (hf321 (102) (by omega) (by omega) (by omega)).trans h102_at_286
                                    have h103_at_321 : F321 (103) = .inl (ty 0, 700, .inl (dd)) := (hf321 (103) (by omega) (by omega) (by omega)).trans h103_at_286
                                    rw [← hQ]
                                    exact pw_iret hx hb hr hlocks hw (by
                                      rw [o_change_ok ⟨hRto, hRa⟩ ⟨by omega, by omega⟩ hd9 (u := uto) (x := ua) (by omega) (by omega), show kd = 4 by omega, ch_4]
                                      rw [flz_n (by omega)] at er321 hRn
                                      exact ⟨er321, Mo.mk' (s_lay_t ..) hO_at_321 hRn h102_at_321 htt h103_at_321, fun y9 h1 => ((hf321 (y9) (by omega) (by omega) (by omega)).trans ((hf286 (y9) (by omega) (by omega) (by omega)).trans ((show F281 (y9) = F237 (y9) from by rw [eF281]; exact va_up_ne _ _ (by omega)).trans ((hf237 (y9) (by omega) (by omega) (by omega)).trans ((hf229 (y9) (by omega) (by omega) (by omega)).trans ((show F223 (y9) = F73 (y9) from by rw [eF223]; exact va_up_ne _ _ (by omega)).trans ((hf73 (y9) (by omega) (by omega) (by omega)).trans (hf63 (y9) (by omega) (by omega) (by omega))))))))).trans (hfr y9 (by omega))⟩) d_M_change_324
                                  · refine wz_iconst (n := 1) hx hb d_M_change_276 ?_
                                    refine lv_goto (tgt := 281) hx hb d_M_change_277 (by decide) ?_
                                    refine pw_zast (k := 32) hx hb hw 4 (by omega) a272_101 rfl (iI_in (by omega) (by omega) (by omega)) ((iI_cl (by omega) (by omega)).trans (by omega)) (y := iI (1)) (by decide) d_M_change_281 (fun F281 H locs eF281 hw => ?_)
                                    have m281_101 : F281 (101) = .inl (ty 4, 43, .inl (upd G272 (32) (iI (1)))) := by rw [eF281]; exact va_up_self ..
                                    obtain ⟨N32, hk281⟩ := Nm_sign (t := 32) (z' := -((-(zS g ua)) / ((bS g ua : Nat) : Int))) ⟨a272_99, a272_100, a272_101⟩ ⟨(show F281 (99) = F237 (99) from by rw [eF281]; exact va_up_ne _ _ (by omega)).trans a272_99, (show F281 (100) = F237 (100) from by rw [eF281]; exact va_up_ne _ _ (by omega)).trans a272_100, m281_101⟩ N32 (by omega) (by rw [zB_1 (by omega)]; rfl)
                                    have hO_at_281 : F281 (98) = .inr (6, [.int (iI (0)), .ref (ad (99)), .ref (ad (100)), .ref (ad (101)), .ref (ad (102)), .int (iI ((nS g : Int))), .int (iI (pS g)), .ref (ad (103))]) := (show F281 (98) = F237 (98) from by rw [eF281]; exact va_up_ne _ _ (by omega)).trans hO_at_237
                                    have hRn_at_281 : Rn ty F281 (g) := hRn_at_237.kq hk281 (fun c9 h8 h9 => by first | omega | (dsimp only at h9; omega))
                                    have Nua_at_281 : Nm ty F281 (ua) (zS g ua) := hk281 _ _ (by omega) (by first | omega | (dsimp only; omega)) Nua_at_237
                                    have N16ua_at_281 : Nm ty F281 (16 + ua) (((bS g ua : Nat) : Int)) := hk281 _ _ (by omega) (by first | omega | (dsimp only; omega)) N16ua_at_237
                                    have h102_at_281 : F281 (102) = .inl (ty 0, 1400, .inl (tt)) := (show F281 (102) = F237 (102) from by rw [eF281]; exact va_up_ne _ _ (by omega)).trans h102_at_237
                                    have h103_at_281 : F281 (103) = .inl (ty 0, 700, .inl (dd)) := (show F281 (103) = F237 (103) from by rw [eF281]; exact va_up_ne _ _ (by omega)).trans h103_at_237
                                    have N33_at_281 : Nm ty F281 (33) (((bS g ua : Nat) : Int)) := hk281 _ _ (by omega) (by first | omega | (dsimp only; omega)) N33_at_237
                                    have N41_at_281 : Nm ty F281 (41) ((-(zS g ua)) / ((bS g ua : Nat) : Int)) := hk281 _ _ (by omega) (by first | omega | (dsimp only; omega)) N41_at_237
                                    have a272_99_at_281 : F281 (99) = .inl (ty 0, 12900, .inl (P272)) := (show F281 (99) = F237 (99) from by rw [eF281]; exact va_up_ne _ _ (by omega)).trans a272_99
                                    have a272_100_at_281 : F281 (100) = .inl (ty 0, 43, .inl (S272)) := (show F281 (100) = F237 (100) from by rw [eF281]; exact va_up_ne _ _ (by omega)).trans a272_100
                                    refine lv_aload_n hx hb d_M_change_282 rfl (lv_at hl 0 rfl) ?_
                                    refine wz_bipush (n := 33) hx hb d_M_change_283 (by decide) ?_
                                    refine lv_lconst (v := iL 1) hx hb d_M_change_285 (by decide) ?_
                                    obtain ⟨_, _, _, hA286⟩ := (N32).ma
                                    refine pw_callv hw (va_runV (As := [.int (iI (33)), .long (iL (1))]) (rest := []) ⟨hx, hb, hml, hown, hq⟩ (c_M_setLong l D ty ad M F281 H.size hM (0) ((nS g : Int)) (pS g) hO_at_281 _ _ _ hA286 (33) (by omega) (1) (by omega)) (cwV 2 hq (gV ml_M_30 im_M_setLong se_M_setLong in_M m_M_setLong) rfl rfl rfl (by decide +kernel) ⟨Nat.le_of_ble_eq_true rfl, Nat.le_of_ble_eq_true rfl⟩) (pw_preV hw (by omega) hO_at_281 rfl) rfl rfl hl.1 rfl (lv_room (Nat.le_of_ble_eq_true rfl)) d_M_change_286 ⟨Nat.le_of_ble_eq_true rfl, Nat.le_of_ble_eq_true rfl⟩) (fun F286 H locs q286 hw => ?_)
                                    obtain ⟨N33, hk286, hf286⟩ := q286
                                    have hO_at_286 : F286 (98) = .inr (6, [.int (iI (0)), .ref (ad (99)), .ref (ad (100)), .ref (ad (101)), .ref (ad (102)), .int (iI ((nS g : Int))), .int (iI (pS g)), .ref (ad (103))]) := (hf286 (98) (by omega) (by omega) (by omega)).trans hO_at_281
                                    have hRn_at_286 : Rn ty F286 (g) := hRn_at_281.kq hk286 (fun c9 h8 h9 => by first | omega | (dsimp only at h9; omega))
                                    have Nua_at_286 : Nm ty F286 (ua) (zS g ua) := hk286 _ _ (by omega) (by first | omega | (dsimp only; omega)) Nua_at_281
                                    have N16ua_at_286 : Nm ty F286 (16 + ua) (((bS g ua : Nat) : Int)) := hk286 _ _ (by omega) (by first | omega | (dsimp only; omega)) N16ua_at_281
                                    have h102_at_286 : F286 (102) = .inl (ty 0, 1400, .inl (tt)) := (hf286 (102) (by omega) (by omega) (by omega)).trans h102_at_281
                                    have h103_at_286 : F286 (103) = .inl (ty 0, 700, .inl (dd)) := (hf286 (103) (by omega) (by omega) (by omega)).trans h103_at_281
                                    have N41_at_286 : Nm ty F286 (41) ((-(zS g ua)) / ((bS g ua : Nat) : Int)) := hk286 _ _ (by omega) (by first | omega | (dsimp only; omega)) N41_at_281
                                    have N32_at_286 : Nm ty F286 (32) (-((-(zS g ua)) / ((bS g ua : Nat) : Int))) := hk286 _ _ (by omega) (by first | omega | (dsimp only; omega)) N32
                                    refine lv_goto (tgt := 319) hx hb d_M_change_289 (by decide) ?_
                                    refine lv_aload_n hx hb d_M_change_319 rfl (lv_at hl 0 rfl) ?_
                                    refine lv_iload_n hx hb d_M_change_320 rfl (lv_at hl 1 rfl) ?_
                                    refine pw_calli hw (va_runV (As := [.int (iI ((uto : Int)))]) (rest := []) ⟨hx, hb, hml, hown, hq⟩ (c_M_lay l D ty ad M F286 H.size hM (0) ((nS g : Int)) (pS g) hO_at_286 (uto) (-((-(zS g ua)) / ((bS g ua : Nat) : Int))) (1) (g) (by omega) (by omega) N32_at_286 N33 hRn_at_286 (by rw [Int.natAbs_neg]; exact fl_md1 (by rw [Int.natAbs_neg]; exact hmx)) (md_1)) (cwV 1 hq (gV ml_M_89 im_M_lay se_M_lay in_M m_M_lay) rfl rfl rfl (by decide +kernel) ⟨Nat.le_of_ble_eq_true rfl, Nat.le_of_ble_eq_true rfl⟩) (pw_preV hw (by omega) hO_at_286 rfl) rfl rfl hl.1 rfl (lv_room (Nat.le_of_ble_eq_true rfl)) d_M_change_321 ⟨Nat.le_of_ble_eq_true rfl, Nat.le_of_ble_eq_true rfl⟩) (fun r321 F321 H locs q321 hw => ?_)
                                    obtain ⟨er321, hRn, hf321⟩ := q321
                                    have hO_at_321 : F321 (98) = .inr (6, [.int (iI (0)), .ref (ad (99)), .ref (ad (100)), .ref (ad (101)), .ref (ad (102)), .int (iI ((nS g : Int))), .int (iI (pS g)), .ref (ad (103))]) := (hf321 (98) (by omega) (by omega) (by omega)).trans hO_at_286
                                    have h102_at_321 : F321 (102) = .inl (ty 0, 1400, .inl (tt)) := (hf321 (102) (by omega) (by omega) (by omega)).trans h102_at_286
                                    have h103_at_321 : F321 (103) = .inl (ty 0, 700, .inl (dd)) := (hf321 (103) (by omega) (by omega) (by omega)).trans h103_at_286
                                    rw [← hQ]
                                    exact pw_iret hx hb hr hlocks hw (by
                                      rw [o_change_ok ⟨hRto, hRa⟩ ⟨by omega, by omega⟩ hd9 (u := uto) (x := ua) (by omega) (by omega), show kd = 4 by omega, ch_4]
                                      rw [flz_n (by omega)] at er321 hRn
                                      exact ⟨er321, Mo.mk' (s_lay_t ..) hO_at_321 hRn h102_at_321 htt h103_at_321, fun y9 h1 => ((hf321 (y9) (by omega) (by omega) (by omega)).trans ((hf286 (y9) (by omega) (by omega) (by omega)).trans ((show F281 (y9) = F237 (y9) from by rw [eF281]; exact va_up_ne _ _ (by omega)).trans ((hf237 (y9) (by omega) (by omega) (by omega)).trans ((hf229 (y9) (by omega) (by omega) (by omega)).trans ((show F223 (y9) = F73 (y9) from by rw [eF223]; exact va_up_ne _ _ (by omega)).trans ((hf73 (y9) (by omega) (by omega) (by omega)).trans (hf63 (y9) (by omega) (by omega) (by omega))))))))).trans (hfr y9 (by omega))⟩) d_M_change_324
                            · refine lv_aload_n hx hb d_M_change_208 rfl (lv_at hl 0 rfl) ?_
                              refine pw_get (ci := 6) (C := R_M) (T := T_M) (N := 8) hx hb hq i_M hown hw (by omega) hO_at_73 rfl 2 (by decide) (hq _ fl_M_13) (fun _ h9 => h9) rfl d_M_change_209 ?_
                              refine wz_bipush (n := 32) hx hb d_M_change_212 (by decide) ?_
                              obtain ⟨P214, S214, G214, ⟨a214_99, a214_100, a214_101⟩, ⟨nt, hS214, h3214, hD214, ht214, hv214⟩, hG214⟩ := id N32_at_73
                              have hz214 := bvP_z ht214
                              rw [hv214] at hz214
                              refine pw_iald (k := 32) hx hb hw 0 (by omega) a214_100 rfl (iI_in (by omega) (by omega) (by omega)) ((iI_cl (by omega) (by omega)).trans (by omega)) d_M_change_214 ?_
                              refine lv_topi (fun x214 ex214 => ?_)
                              obtain rfl : x214 = iI ((nt : Int)) := ex214.trans (hS214)
                              refine wz_if_le (tgt := 222) hx hb d_M_change_215 (by decide) (by omega) (by omega) (fun c215 => ?_) (fun c215 => ?_)
                              · refine wz_iconst (n := 0) hx hb d_M_change_222 ?_
                                refine pw_zast (k := 32) hx hb hw 4 (by omega) a214_101 rfl (iI_in (by omega) (by omega) (by omega)) ((iI_cl (by omega) (by omega)).trans (by omega)) (y := iI (0)) (by decide) d_M_change_223 (fun F223 H locs eF223 hw => ?_)
                                have m223_101 : F223 (101) = .inl (ty 4, 43, .inl (upd G214 (32) (iI (0)))) := by rw [eF223]; exact va_up_self ..
                                obtain ⟨N32, hk223⟩ := Nm_sign (t := 32) (z' := -(zS g ua)) ⟨a214_99, a214_100, a214_101⟩ ⟨(show F223 (99) = F73 (99) from by rw [eF223]; exact va_up_ne _ _ (by omega)).trans a214_99, (show F223 (100) = F73 (100) from by rw [eF223]; exact va_up_ne _ _ (by omega)).trans a214_100, m223_101⟩ N32_at_73 (by omega) (by rw [zB_0 (by omega)]; rfl)
                                have hO_at_223 : F223 (98) = .inr (6, [.int (iI (0)), .ref (ad (99)), .ref (ad (100)), .ref (ad (101)), .ref (ad (102)), .int (iI ((nS g : Int))), .int (iI (pS g)), .ref (ad (103))]) := (show F223 (98) = F73 (98) from by rw [eF223]; exact va_up_ne _ _ (by omega)).trans hO_at_73
                                have hRn_at_223 : Rn ty F223 (g) := hRn_at_73.kq hk223 (fun c9 h8 h9 => by first | omega | (dsimp only at h9; omega))
                                have Nua_at_223 : Nm ty F223 (ua) (zS g ua) := hk223 _ _ (by omega) (by first | omega | (dsimp only; omega)) Nua_at_73
                                have N16ua_at_223 : Nm ty F223 (16 + ua) (((bS g ua : Nat) : Int)) := hk223 _ _ (by omega) (by first | omega | (dsimp only; omega)) N16ua_at_73
                                have h102_at_223 : F223 (102) = .inl (ty 0, 1400, .inl (tt)) := (show F223 (102) = F73 (102) from by rw [eF223]; exact va_up_ne _ _ (by omega)).trans h102_at_73
                                have h103_at_223 : F223 (103) = .inl (ty 0, 700, .inl (dd)) := (show F223 (103) = F73 (103) from by rw [eF223]; exact va_up_ne _ _ (by omega)).trans h103_at_73
                                have N33_at_223 : Nm ty F223 (33) (((bS g ua : Nat) : Int)) := hk223 _ _ (by omega) (by first | omega | (dsimp only; omega)) N33
                                have a214_99_at_223 : F223 (99) = .inl (ty 0, 12900, .inl (P214)) := (show F223 (99) = F73 (99) from by rw [eF223]; exact va_up_ne _ _ (by omega)).trans a214_99
                                have a214_100_at_223 : F223 (100) = .inl (ty 0, 43, .inl (S214)) := (show F223 (100) = F73 (100) from by rw [eF223]; exact va_up_ne _ _ (by omega)).trans a214_100
                                refine lv_aload_n hx hb d_M_change_224 rfl (lv_at hl 0 rfl) ?_
                                refine wz_bipush (n := 32) hx hb d_M_change_225 (by decide) ?_
                                refine wz_bipush (n := 33) hx hb d_M_change_227 (by decide) ?_
                                refine pw_callv hw (va_runV (As := [.int (iI (32)), .int (iI (33))]) (rest := []) ⟨hx, hb, hml, hown, hq⟩ (c_M_floor l D ty ad M F223 H.size hM (0) ((nS g : Int)) (pS g) hO_at_223 (32) (33) (-(zS g ua)) (((bS g ua : Nat) : Int)) (by omega) (by omega) (by omega) (by omega) (by omega) N32 N33_at_223 (by rw [Int.natAbs_neg]; exact hmx) (hmb)) (cwV 2 hq (gV ml_M_95 im_M_floor se_M_floor in_M m_M_floor) rfl rfl rfl (by decide +kernel) ⟨Nat.le_of_ble_eq_true rfl, Nat.le_of_ble_eq_true rfl⟩) (pw_preV hw (by omega) hO_at_223 rfl) rfl rfl hl.1 rfl (lv_room (Nat.le_of_ble_eq_true rfl)) d_M_change_229 ⟨Nat.le_of_ble_eq_true rfl, Nat.le_of_ble_eq_true rfl⟩) (fun F229 H locs q229 hw => ?_)
                                obtain ⟨N41, hk229, hf229⟩ := q229
                                have hO_at_229 : F229 (98) = .inr (6, [.int (iI (0)), .ref (ad (99)), .ref (ad (100)), .ref (ad (101)), .ref (ad (102)), .int (iI ((nS g : Int))), .int (iI (pS g)), .ref (ad (103))]) := (hf229 (98) (by omega) (by omega) (by omega)).trans hO_at_223
                                have hRn_at_229 : Rn ty F229 (g) := hRn_at_223.kq hk229 (fun c9 h8 h9 => by first | omega | (dsimp only at h9; omega))
                                have Nua_at_229 : Nm ty F229 (ua) (zS g ua) := hk229 _ _ (by omega) (by first | omega | (dsimp only; omega)) Nua_at_223
                                have N16ua_at_229 : Nm ty F229 (16 + ua) (((bS g ua : Nat) : Int)) := hk229 _ _ (by omega) (by first | omega | (dsimp only; omega)) N16ua_at_223
                                have h102_at_229 : F229 (102) = .inl (ty 0, 1400, .inl (tt)) := (hf229 (102) (by omega) (by omega) (by omega)).trans h102_at_223
                                have h103_at_229 : F229 (103) = .inl (ty 0, 700, .inl (dd)) := (hf229 (103) (by omega) (by omega) (by omega)).trans h103_at_223
                                have N33_at_229 : Nm ty F229 (33) (((bS g ua : Nat) : Int)) := hk229 _ _ (by omega) (by first | omega | (dsimp only; omega)) N33_at_223
                                have N32_at_229 : Nm ty F229 (32) (-(zS g ua)) := hk229 _ _ (by omega) (by first | omega | (dsimp only; omega)) N32
                                refine lv_aload_n hx hb d_M_change_232 rfl (lv_at hl 0 rfl) ?_
                                refine wz_bipush (n := 32) hx hb d_M_change_233 (by decide) ?_
                                refine wz_bipush (n := 41) hx hb d_M_change_235 (by decide) ?_
                                refine pw_callv hw (va_runV (As := [.int (iI (32)), .int (iI (41))]) (rest := []) ⟨hx, hb, hml, hown, hq⟩ (c_M_copy l D ty ad M F229 H.size hM (0) ((nS g : Int)) (pS g) hO_at_229 (32) (41) (by omega) (by omega) (by omega) ((-(zS g ua)) / ((bS g ua : Nat) : Int)) N41) (cwV 2 hq (gV ml_M_55 im_M_copy se_M_copy in_M m_M_copy) rfl rfl rfl (by decide +kernel) ⟨Nat.le_of_ble_eq_true rfl, Nat.le_of_ble_eq_true rfl⟩) (pw_preV hw (by omega) hO_at_229 rfl) rfl rfl hl.1 rfl (lv_room (Nat.le_of_ble_eq_true rfl)) d_M_change_237 ⟨Nat.le_of_ble_eq_true rfl, Nat.le_of_ble_eq_true rfl⟩) (fun F237 H locs q237 hw => ?_)
                                obtain ⟨N32, hk237, hf237⟩ := q237
                                have hO_at_237 : F237 (98) = .inr (6, [.int (iI (0)), .ref (ad (99)), .ref (ad (100)), .ref (ad (101)), .ref (ad (102)), .int (iI ((nS g : Int))), .int (iI (pS g)), .ref (ad (103))]) := (hf237 (98) (by omega) (by omega) (by omega)).trans hO_at_229
                                have hRn_at_237 : Rn ty F237 (g) := hRn_at_229.kq hk237 (fun c9 h8 h9 => by first | omega | (dsimp only at h9; omega))
                                have Nua_at_237 : Nm ty F237 (ua) (zS g ua) := hk237 _ _ (by omega) (by first | omega | (dsimp only; omega)) Nua_at_229
                                have N16ua_at_237 : Nm ty F237 (16 + ua) (((bS g ua : Nat) : Int)) := hk237 _ _ (by omega) (by first | omega | (dsimp only; omega)) N16ua_at_229
                                have h102_at_237 : F237 (102) = .inl (ty 0, 1400, .inl (tt)) := (hf237 (102) (by omega) (by omega) (by omega)).trans h102_at_229
                                have h103_at_237 : F237 (103) = .inl (ty 0, 700, .inl (dd)) := (hf237 (103) (by omega) (by omega) (by omega)).trans h103_at_229
                                have N33_at_237 : Nm ty F237 (33) (((bS g ua : Nat) : Int)) := hk237 _ _ (by omega) (by first | omega | (dsimp only; omega)) N33_at_229
                                have N41_at_237 : Nm ty F237 (41) ((-(zS g ua)) / ((bS g ua : Nat) : Int)) := hk237 _ _ (by omega) (by first | omega | (dsimp only; omega)) N41
                                refine lv_aload_n hx hb d_M_change_240 rfl (lv_at hl 0 rfl) ?_
                                refine pw_get (ci := 6) (C := R_M) (T := T_M) (N := 8) hx hb hq i_M hown hw (by omega) hO_at_237 rfl 3 (by decide) (hq _ fl_M_16) (fun _ h9 => h9) rfl d_M_change_241 ?_
                                refine wz_bipush (n := 32) hx hb d_M_change_244 (by decide) ?_
                                refine lv_aload_n hx hb d_M_change_246 rfl (lv_at hl 0 rfl) ?_
                                refine pw_get (ci := 6) (C := R_M) (T := T_M) (N := 8) hx hb hq i_M hown hw (by omega) hO_at_237 rfl 3 (by decide) (hq _ fl_M_16) (fun _ h9 => h9) rfl d_M_change_247 ?_
                                refine wz_bipush (n := 32) hx hb d_M_change_250 (by decide) ?_
                                obtain ⟨P252, S252, G252, ⟨a252_99, a252_100, a252_101⟩, ⟨n252, hS252, h3252, hD252, ht252, hv252⟩, hG252⟩ := id N32
                                have hs252 := sB_c ((-(zS g ua)) / ((bS g ua : Nat) : Int))
                                refine pw_zald (k := 32) hx hb hw 4 (by omega) a252_101 rfl (iI_in (by omega) (by omega) (by omega)) ((iI_cl (by omega) (by omega)).trans (by omega)) d_M_change_252 ?_
                                refine lv_topi (fun x252 ex252 => ?_)
                                obtain rfl : x252 = iI ((sB ((-(zS g ua)) / ((bS g ua : Nat) : Int)) : Int)) := ex252.trans (hG252)
                                refine lv_iload_n hx hb d_M_change_253 rfl (lv_at hl 2 rfl) ?_
                                refine wz_iconst (n := 4) hx hb d_M_change_254 ?_
                                refine wz_icmp_ne (tgt := 262) hx hb d_M_change_255 (by decide) (by omega) (by omega) (by omega) (by omega) (fun c255 => ?_) (fun c255 => ?_)
                                · exact absurd c255 (by omega)
                                · refine wz_iconst (n := 1) hx hb d_M_change_258 ?_
                                  refine lv_goto (tgt := 263) hx hb d_M_change_259 (by decide) ?_
                                  refine wz_icmp_eq (tgt := 280) hx hb d_M_change_263 (by decide) (by omega) (by omega) (by omega) (by omega) (fun c263 => ?_) (fun c263 => ?_)
                                  · refine wz_iconst (n := 0) hx hb d_M_change_280 ?_
                                    refine pw_zast (k := 32) hx hb hw 4 (by omega) a252_101 rfl (iI_in (by omega) (by omega) (by omega)) ((iI_cl (by omega) (by omega)).trans (by omega)) (y := iI (0)) (by decide) d_M_change_281 (fun F281 H locs eF281 hw => ?_)
                                    have m281_101 : F281 (101) = .inl (ty 4, 43, .inl (upd G252 (32) (iI (0)))) := by rw [eF281]; exact va_up_self ..
                                    obtain ⟨N32, hk281⟩ := Nm_sign (t := 32) (z' := -((-(zS g ua)) / ((bS g ua : Nat) : Int))) ⟨a252_99, a252_100, a252_101⟩ ⟨(show F281 (99) = F237 (99) from by rw [eF281]; exact va_up_ne _ _ (by omega)).trans a252_99, (show F281 (100) = F237 (100) from by rw [eF281]; exact va_up_ne _ _ (by omega)).trans a252_100, m281_101⟩ N32 (by omega) (by rw [zB_0 (by omega)]; rfl)
                                    have hO_at_281 : F281 (98) = .inr (6, [.int (iI (0)), .ref (ad (99)), .ref (ad (100)), .ref (ad (101)), .ref (ad (102)), .int (iI ((nS g : Int))), .int (iI (pS g)), .ref (ad (103))]) := (show F281 (98) = F237 (98) from by rw [eF281]; exact va_up_ne _ _ (by omega)).trans hO_at_237
                                    have hRn_at_281 : Rn ty F281 (g) := hRn_at_237.kq hk281 (fun c9 h8 h9 => by first | omega | (dsimp only at h9; omega))
                                    have Nua_at_281 : Nm ty F281 (ua) (zS g ua) := hk281 _ _ (by omega) (by first | omega | (dsimp only; omega)) Nua_at_237
                                    have N16ua_at_281 : Nm ty F281 (16 + ua) (((bS g ua : Nat) : Int)) := hk281 _ _ (by omega) (by first | omega | (dsimp only; omega)) N16ua_at_237
                                    have h102_at_281 : F281 (102) = .inl (ty 0, 1400, .inl (tt)) := (show F281 (102) = F237 (102) from by rw [eF281]; exact va_up_ne _ _ (by omega)).trans h102_at_237
                                    have h103_at_281 : F281 (103) = .inl (ty 0, 700, .inl (dd)) := (show F281 (103) = F237 (103) from by rw [eF281]; exact va_up_ne _ _ (by omega)).trans h103_at_237
                                    have N33_at_281 : Nm ty F281 (33) (((bS g ua : Nat) : Int)) := hk281 _ _ (by omega) (by first | omega | (dsimp only; omega)) N33_at_237
                                    have N41_at_281 : Nm ty F281 (41) ((-(zS g ua)) / ((bS g ua : Nat) : Int)) := hk281 _ _ (by omega) (by first | omega | (dsimp only; omega)) N41_at_237
                                    have a252_99_at_281 : F281 (99) = .inl (ty 0, 12900, .inl (P252)) := (show F281 (99) = F237 (99) from by rw [eF281]; exact va_up_ne _ _ (by omega)).trans a252_99
                                    have a252_100_at_281 : F281 (100) = .inl (ty 0, 43, .inl (S252)) := (show F281 (100) = F237 (100) from by rw [eF281]; exact va_up_ne _ _ (by omega)).trans a252_100
                                    refine lv_aload_n hx hb d_M_change_282 rfl (lv_at hl 0 rfl) ?_
                                    refine wz_bipush (n := 33) hx hb d_M_change_283 (by decide) ?_
                                    refine lv_lconst (v := iL 1) hx hb d_M_change_285 (by decide) ?_
                                    obtain ⟨_, _, _, hA286⟩ := (N32).ma
                                    refine pw_callv hw (va_runV (As := [.int (iI (33)), .long (iL (1))]) (rest := []) ⟨hx, hb, hml, hown, hq⟩ (c_M_setLong l D ty ad M F281 H.size hM (0) ((nS g : Int)) (pS g) hO_at_281 _ _ _ hA286 (33) (by omega) (1) (by omega)) (cwV 2 hq (gV ml_M_30 im_M_setLong se_M_setLong in_M m_M_setLong) rfl rfl rfl (by decide +kernel) ⟨Nat.le_of_ble_eq_true rfl, Nat.le_of_ble_eq_true rfl⟩) (pw_preV hw (by omega) hO_at_281 rfl) rfl rfl hl.1 rfl (lv_room (Nat.le_of_ble_eq_true rfl)) d_M_change_286 ⟨Nat.le_of_ble_eq_true rfl, Nat.le_of_ble_eq_true rfl⟩) (fun F286 H locs q286 hw => ?_)
                                    obtain ⟨N33, hk286, hf286⟩ := q286
                                    have hO_at_286 : F286 (98) = .inr (6, [.int (iI (0)), .ref (ad (99)), .ref (ad (100)), .ref (ad (101)), .ref (ad (102)), .int (iI ((nS g : Int))), .int (iI (pS g)), .ref (ad (103))]) := (hf286 (98) (by omega) (by omega) (by omega)).trans hO_at_281
                                    have hRn_at_286 : Rn ty F286 (g) := hRn_at_281.kq hk286 (fun c9 h8 h9 => by first | omega | (dsimp only at h9; omega))
                                    have Nua_at_286 : Nm ty F286 (ua) (zS g ua) := hk286 _ _ (by omega) (by first | omega | (dsimp only; omega)) Nua_at_281
                                    have N16ua_at_286 : Nm ty F286 (16 + ua) (((bS g ua : Nat) : Int)) := hk286 _ _ (by omega) (by first | omega | (dsimp only; omega)) N16ua_at_281
                                    have h102_at_286 : F286 (102) = .inl (ty 0, 1400, .inl (tt)) := (hf286 (102) (by omega) (by omega) (by omega)).trans h102_at_281
                                    have h103_at_286 : F286 (103) = .inl (ty 0, 700, .inl (dd)) := (hf286 (103) (by omega) (by omega) (by omega)).trans h103_at_281
                                    have N41_at_286 : Nm ty F286 (41) ((-(zS g ua)) / ((bS g ua : Nat) : Int)) := hk286 _ _ (by omega) (by first | omega | (dsimp only; omega)) N41_at_281
                                    have N32_at_286 : Nm ty F286 (32) (-((-(zS g ua)) / ((bS g ua : Nat) : Int))) := hk286 _ _ (by omega) (by first | omega | (dsimp only; omega)) N32
                                    refine lv_goto (tgt := 319) hx hb d_M_change_289 (by decide) ?_
                                    refine lv_aload_n hx hb d_M_change_319 rfl (lv_at hl 0 rfl) ?_
                                    refine lv_iload_n hx hb d_M_change_320 rfl (lv_at hl 1 rfl) ?_
                                    refine pw_calli hw (va_runV (As := [.int (iI ((uto : Int)))]) (rest := []) ⟨hx, hb, hml, hown, hq⟩ (c_M_lay l D ty ad M F286 H.size hM (0) ((nS g : Int)) (pS g) hO_at_286 (uto) (-((-(zS g ua)) / ((bS g ua : Nat) : Int))) (1) (g) (by omega) (by omega) N32_at_286 N33 hRn_at_286 (by rw [Int.natAbs_neg]; exact fl_md1 (by rw [Int.natAbs_neg]; exact hmx)) (md_1)) (cwV 1 hq (gV ml_M_89 im_M_lay se_M_lay in_M m_M_lay) rfl rfl rfl (by decide +kernel) ⟨Nat.le_of_ble_eq_true rfl, Nat.le_of_ble_eq_true rfl⟩) (pw_preV hw (by omega) hO_at_286 rfl) rfl rfl hl.1 rfl (lv_room (Nat.le_of_ble_eq_true rfl)) d_M_change_321 ⟨Nat.le_of_ble_eq_true rfl, Nat.le_of_ble_eq_true rfl⟩) (fun r321 F321 H locs q321 hw => ?_)
                                    obtain ⟨er321, hRn, hf321⟩ := q321
                                    have hO_at_321 : F321 (98) = .inr (6, [.int (iI (0)), .ref (ad (99)), .ref (ad (100)), .ref (ad (101)), .ref (ad (102)), .int (iI ((nS g : Int))), .int (iI (pS g)), .ref (ad (103))]) := (hf321 (98) (by omega) (by omega) (by omega)).trans hO_at_286
                                    have h102_at_321 : F321 (102) = .inl (ty 0, 1400, .inl (tt)) := (hf321 (102) (by omega) (by omega) (by omega)).trans h102_at_286
                                    have h103_at_321 : F321 (103) = .inl (ty 0, 700, .inl (dd)) := (hf321 (103) (by omega) (by omega) (by omega)).trans h103_at_286
                                    rw [← hQ]
                                    exact pw_iret hx hb hr hlocks hw (by
                                      rw [o_change_ok ⟨hRto, hRa⟩ ⟨by omega, by omega⟩ hd9 (u := uto) (x := ua) (by omega) (by omega), show kd = 4 by omega, ch_4]
                                      rw [flz_n (by omega)] at er321 hRn
                                      exact ⟨er321, Mo.mk' (s_lay_t ..) hO_at_321 hRn h102_at_321 htt h103_at_321, fun y9 h1 => ((hf321 (y9) (by omega) (by omega) (by omega)).trans ((hf286 (y9) (by omega) (by omega) (by omega)).trans ((show F281 (y9) = F237 (y9) from by rw [eF281]; exact va_up_ne _ _ (by omega)).trans ((hf237 (y9) (by omega) (by omega) (by omega)).trans ((hf229 (y9) (by omega) (by omega) (by omega)).trans ((show F223 (y9) = F73 (y9) from by rw [eF223]; exact va_up_ne _ _ (by omega)).trans ((hf73 (y9) (by omega) (by omega) (by omega)).trans (hf63 (y9) (by omega) (by omega) (by omega))))))))).trans (hfr y9 (by omega))⟩) d_M_change_324
                                  · refine lv_aload_n hx hb d_M_change_266 rfl (lv_at hl 0 rfl) ?_
                                    refine pw_get (ci := 6) (C := R_M) (T := T_M) (N := 8) hx hb hq i_M hown hw (by omega) hO_at_237 rfl 2 (by decide) (hq _ fl_M_13) (fun _ h9 => h9) rfl d_M_change_267 ?_
                                    refine wz_bipush (n := 32) hx hb d_M_change_270 (by decide) ?_
                                    obtain ⟨P272, S272, G272, ⟨a272_99, a272_100, a272_101⟩, ⟨nv, hS272, h3272, hD272, ht272, hv272⟩, hG272⟩ := id N32
                                    have hz272 := bvP_z ht272
                                    rw [hv272] at hz272
                                    refine pw_iald (k := 32) hx hb hw 0 (by omega) a272_100 rfl (iI_in (by omega) (by omega) (by omega)) ((iI_cl (by omega) (by omega)).trans (by omega)) d_M_change_272 ?_
                                    refine lv_topi (fun x272 ex272 => ?_)
                                    obtain rfl : x272 = iI ((nv : Int)) := ex272.trans (hS272)
                                    refine wz_if_le (tgt := 280) hx hb d_M_change_273 (by decide) (by omega) (by omega) (fun c273 => ?_) (fun c273 => ?_)
                                    · refine wz_iconst (n := 0) hx hb d_M_change_280 ?_
                                      refine pw_zast (k := 32) hx hb hw 4 (by omega) a272_101 rfl (iI_in (by omega) (by omega) (by omega)) ((iI_cl (by omega) (by omega)).trans (by omega)) (y := iI (0)) (by decide) d_M_change_281 (fun F281 H locs eF281 hw => ?_)
                                      have m281_101 : F281 (101) = .inl (ty 4, 43, .inl (upd G272 (32) (iI (0)))) := by rw [eF281]; exact va_up_self ..
                                      obtain ⟨N32, hk281⟩ := Nm_sign (t := 32) (z' := -((-(zS g ua)) / ((bS g ua : Nat) : Int))) ⟨a272_99, a272_100, a272_101⟩ ⟨(show F281 (99) = F237 (99) from by rw [eF281]; exact va_up_ne _ _ (by omega)).trans a272_99, (show F281 (100) = F237 (100) from by rw [eF281]; exact va_up_ne _ _ (by omega)).trans a272_100, m281_101⟩ N32 (by omega) (by rw [zB_0 (by omega)]; rfl)
                                      have hO_at_281 : F281 (98) = .inr (6, [.int (iI (0)), .ref (ad (99)), .ref (ad (100)), .ref (ad (101)), .ref (ad (102)), .int (iI ((nS g : Int))), .int (iI (pS g)), .ref (ad (103))]) := (show F281 (98) = F237 (98) from by rw [eF281]; exact va_up_ne _ _ (by omega)).trans hO_at_237
                                      have hRn_at_281 : Rn ty F281 (g) := hRn_at_237.kq hk281 (fun c9 h8 h9 => by first | omega | (dsimp only at h9; omega))
                                      have Nua_at_281 : Nm ty F281 (ua) (zS g ua) := hk281 _ _ (by omega) (by first | omega | (dsimp only; omega)) Nua_at_237
                                      have N16ua_at_281 : Nm ty F281 (16 + ua) (((bS g ua : Nat) : Int)) := hk281 _ _ (by omega) (by first | omega | (dsimp only; omega)) N16ua_at_237
                                      have h102_at_281 : F281 (102) = .inl (ty 0, 1400, .inl (tt)) := (show F281 (102) = F237 (102) from by rw [eF281]; exact va_up_ne _ _ (by omega)).trans h102_at_237
                                      have h103_at_281 : F281 (103) = .inl (ty 0, 700, .inl (dd)) := (show F281 (103) = F237 (103) from by rw [eF281]; exact va_up_ne _ _ (by omega)).trans h103_at_237
                                      have N33_at_281 : Nm ty F281 (33) (((bS g ua : Nat) : Int)) := hk281 _ _ (by omega) (by first | omega | (dsimp only; omega)) N33_at_237
                                      have N41_at_281 : Nm ty F281 (41) ((-(zS g ua)) / ((bS g ua : Nat) : Int)) := hk281 _ _ (by omega) (by first | omega | (dsimp only; omega)) N41_at_237
                                      have a272_99_at_281 : F281 (99) = .inl (ty 0, 12900, .inl (P272)) := (show F281 (99) = F237 (99) from by rw [eF281]; exact va_up_ne _ _ (by omega)).trans a272_99
                                      have a272_100_at_281 : F281 (100) = .inl (ty 0, 43, .inl (S272)) := (show F281 (100) = F237 (100) from by rw [eF281]; exact va_up_ne _ _ (by omega)).trans a272_100
                                      refine lv_aload_n hx hb d_M_change_282 rfl (lv_at hl 0 rfl) ?_
                                      refine wz_bipush (n := 33) hx hb d_M_change_283 (by decide) ?_
                                      refine lv_lconst (v := iL 1) hx hb d_M_change_285 (by decide) ?_
                                      obtain ⟨_, _, _, hA286⟩ := (N32).ma
                                      refine pw_callv hw (va_runV (As := [.int (iI (33)), .long (iL (1))]) (rest := []) ⟨hx, hb, hml, hown, hq⟩ (c_M_setLong l D ty ad M F281 H.size hM (0) ((nS g : Int)) (pS g) hO_at_281 _ _ _ hA286 (33) (by omega) (1) (by omega)) (cwV 2 hq (gV ml_M_30 im_M_setLong se_M_setLong in_M m_M_setLong) rfl rfl rfl (by decide +kernel) ⟨Nat.le_of_ble_eq_true rfl, Nat.le_of_ble_eq_true rfl⟩) (pw_preV hw (by omega) hO_at_281 rfl) rfl rfl hl.1 rfl (lv_room (Nat.le_of_ble_eq_true rfl)) d_M_change_286 ⟨Nat.le_of_ble_eq_true rfl, Nat.le_of_ble_eq_true rfl⟩) (fun F286 H locs q286 hw => ?_)
                                      obtain ⟨N33, hk286, hf286⟩ := q286
                                      have hO_at_286 : F286 (98) = .inr (6, [.int (iI (0)), .ref (ad (99)), .ref (ad (100)), .ref (ad (101)), .ref (ad (102)), .int (iI ((nS g : Int))), .int (iI (pS g)), .ref (ad (103))]) := (hf286 (98) (by omega) (by omega) (by omega)).trans hO_at_281
                                      have hRn_at_286 : Rn ty F286 (g) := hRn_at_281.kq hk286 (fun c9 h8 h9 => by first | omega | (dsimp only at h9; omega))
                                      have Nua_at_286 : Nm ty F286 (ua) (zS g ua) := hk286 _ _ (by omega) (by first | omega | (dsimp only; omega)) Nua_at_281
                                      have N16ua_at_286 : Nm ty F286 (16 + ua) (((bS g ua : Nat) : Int)) := hk286 _ _ (by omega) (by first | omega | (dsimp only; omega)) N16ua_at_281
                                      have h102_at_286 : F286 (102) = .inl (ty 0, 1400, .inl (tt)) := (hf286 (102) (by omega) (by omega) (by omega)).trans h102_at_281
                                      have h103_at_286 : F286 (103) = .inl (ty 0, 700, .inl (dd)) := (hf286 (103) (by omega) (by omega) (by omega)).trans h103_at_281
                                      have N41_at_286 : Nm ty F286 (41) ((-(zS g ua)) / ((bS g ua : Nat) : Int)) := hk286 _ _ (by omega) (by first | omega | (dsimp only; omega)) N41_at_281
                                      have N32_at_286 : Nm ty F286 (32) (-((-(zS g ua)) / ((bS g ua : Nat) : Int))) := hk286 _ _ (by omega) (by first | omega | (dsimp only; omega)) N32
                                      refine lv_goto (tgt := 319) hx hb d_M_change_289 (by decide) ?_
                                      refine lv_aload_n hx hb d_M_change_319 rfl (lv_at hl 0 rfl) ?_
                                      refine lv_iload_n hx hb d_M_change_320 rfl (lv_at hl 1 rfl) ?_
                                      refine pw_calli hw (va_runV (As := [.int (iI ((uto : Int)))]) (rest := []) ⟨hx, hb, hml, hown, hq⟩ (c_M_lay l D ty ad M F286 H.size hM (0) ((nS g : Int)) (pS g) hO_at_286 (uto) (-((-(zS g ua)) / ((bS g ua : Nat) : Int))) (1) (g) (by omega) (by omega) N32_at_286 N33 hRn_at_286 (by rw [Int.natAbs_neg]; exact fl_md1 (by rw [Int.natAbs_neg]; exact hmx)) (md_1)) (cwV 1 hq (gV ml_M_89 im_M_lay se_M_lay in_M m_M_lay) rfl rfl rfl (by decide +kernel) ⟨Nat.le_of_ble_eq_true rfl, Nat.le_of_ble_eq_true rfl⟩) (pw_preV hw (by omega) hO_at_286 rfl) rfl rfl hl.1 rfl (lv_room (Nat.le_of_ble_eq_true rfl)) d_M_change_321 ⟨Nat.le_of_ble_eq_true rfl, Nat.le_of_ble_eq_true rfl⟩) (fun r321 F321 H locs q321 hw => ?_)
                                      obtain ⟨er321, hRn, hf321⟩ := q321
                                      have hO_at_321 : F321 (98) = .inr (6, [.int (iI (0)), .ref (ad (99)), .ref (ad (100)), .ref (ad (101)), .ref (ad (102)), .int (iI ((nS g : Int))), .int (iI (pS g)), .ref (ad (103))]) := (hf321 (98) (by omega) (by omega) (by omega)).trans hO_at_286
                                      have h102_at_321 : F321 (102) = .inl (ty 0, 1400, .inl (tt)) := (hf321 (102) (by omega) (by omega) (by omega)).trans h102_at_286
                                      have h103_at_321 : F321 (103) = .inl (ty 0, 700, .inl (dd)) := (hf321 (103) (by omega) (by omega) (by omega)).trans h103_at_286
                                      rw [← hQ]
                                      exact pw_iret hx hb hr hlocks hw (by
                                        rw [o_change_ok ⟨hRto, hRa⟩ ⟨by omega, by omega⟩ hd9 (u := uto) (x := ua) (by omega) (by omega), show kd = 4 by omega, ch_4]
                                        rw [flz_n (by omega)] at er321 hRn
                                        exact ⟨er321, Mo.mk' (s_lay_t ..) hO_at_321 hRn h102_at_321 htt h103_at_321, fun y9 h1 => ((hf321 (y9) (by omega) (by omega) (by omega)).trans ((hf286 (y9) (by omega) (by omega) (by omega)).trans ((show F281 (y9) = F237 (y9) from by rw [eF281]; exact va_up_ne _ _ (by omega)).trans ((hf237 (y9) (by omega) (by omega) (by omega)).trans ((hf229 (y9) (by omega) (by omega) (by omega)).trans ((show F223 (y9) = F73 (y9) from by rw [eF223]; exact va_up_ne _ _ (by omega)).trans ((hf73 (y9) (by omega) (by omega) (by omega)).trans (hf63 (y9) (by omega) (by omega) (by omega))))))))).trans (hfr y9 (by omega))⟩) d_M_change_324
                                    · refine wz_iconst (n := 1) hx hb d_M_change_276 ?_
                                      refine lv_goto (tgt := 281) hx hb d_M_change_277 (by decide) ?_
                                      refine pw_zast (k := 32) hx hb hw 4 (by omega) a272_101 rfl (iI_in (by omega) (by omega) (by omega)) ((iI_cl (by omega) (by omega)).trans (by omega)) (y := iI (1)) (by decide) d_M_change_281 (fun F281 H locs eF281 hw => ?_)
                                      have m281_101 : F281 (101) = .inl (ty 4, 43, .inl (upd G272 (32) (iI (1)))) := by rw [eF281]; exact va_up_self ..
                                      obtain ⟨N32, hk281⟩ := Nm_sign (t := 32) (z' := -((-(zS g ua)) / ((bS g ua : Nat) : Int))) ⟨a272_99, a272_100, a272_101⟩ ⟨(show F281 (99) = F237 (99) from by rw [eF281]; exact va_up_ne _ _ (by omega)).trans a272_99, (show F281 (100) = F237 (100) from by rw [eF281]; exact va_up_ne _ _ (by omega)).trans a272_100, m281_101⟩ N32 (by omega) (by rw [zB_1 (by omega)]; rfl)
                                      have hO_at_281 : F281 (98) = .inr (6, [.int (iI (0)), .ref (ad (99)), .ref (ad (100)), .ref (ad (101)), .ref (ad (102)), .int (iI ((nS g : Int))), .int (iI (pS g)), .ref (ad (103))]) := (show F281 (98) = F237 (98) from by rw [eF281]; exact va_up_ne _ _ (by omega)).trans hO_at_237
                                      have hRn_at_281 : Rn ty F281 (g) := hRn_at_237.kq hk281 (fun c9 h8 h9 => by first | omega | (dsimp only at h9; omega))
                                      have Nua_at_281 : Nm ty F281 (ua) (zS g ua) := hk281 _ _ (by omega) (by first | omega | (dsimp only; omega)) Nua_at_237
                                      have N16ua_at_281 : Nm ty F281 (16 + ua) (((bS g ua : Nat) : Int)) := hk281 _ _ (by omega) (by first | omega | (dsimp only; omega)) N16ua_at_237
                                      have h102_at_281 : F281 (102) = .inl (ty 0, 1400, .inl (tt)) := (show F281 (102) = F237 (102) from by rw [eF281]; exact va_up_ne _ _ (by omega)).trans h102_at_237
                                      have h103_at_281 : F281 (103) = .inl (ty 0, 700, .inl (dd)) := (show F281 (103) = F237 (103) from by rw [eF281]; exact va_up_ne _ _ (by omega)).trans h103_at_237
                                      have N33_at_281 : Nm ty F281 (33) (((bS g ua : Nat) : Int)) := hk281 _ _ (by omega) (by first | omega | (dsimp only; omega)) N33_at_237
                                      have N41_at_281 : Nm ty F281 (41) ((-(zS g ua)) / ((bS g ua : Nat) : Int)) := hk281 _ _ (by omega) (by first | omega | (dsimp only; omega)) N41_at_237
                                      have a272_99_at_281 : F281 (99) = .inl (ty 0, 12900, .inl (P272)) := (show F281 (99) = F237 (99) from by rw [eF281]; exact va_up_ne _ _ (by omega)).trans a272_99
                                      have a272_100_at_281 : F281 (100) = .inl (ty 0, 43, .inl (S272)) := (show F281 (100) = F237 (100) from by rw [eF281]; exact va_up_ne _ _ (by omega)).trans a272_100
                                      refine lv_aload_n hx hb d_M_change_282 rfl (lv_at hl 0 rfl) ?_
                                      refine wz_bipush (n := 33) hx hb d_M_change_283 (by decide) ?_
                                      refine lv_lconst (v := iL 1) hx hb d_M_change_285 (by decide) ?_
                                      obtain ⟨_, _, _, hA286⟩ := (N32).ma
                                      refine pw_callv hw (va_runV (As := [.int (iI (33)), .long (iL (1))]) (rest := []) ⟨hx, hb, hml, hown, hq⟩ (c_M_setLong l D ty ad M F281 H.size hM (0) ((nS g : Int)) (pS g) hO_at_281 _ _ _ hA286 (33) (by omega) (1) (by omega)) (cwV 2 hq (gV ml_M_30 im_M_setLong se_M_setLong in_M m_M_setLong) rfl rfl rfl (by decide +kernel) ⟨Nat.le_of_ble_eq_true rfl, Nat.le_of_ble_eq_true rfl⟩) (pw_preV hw (by omega) hO_at_281 rfl) rfl rfl hl.1 rfl (lv_room (Nat.le_of_ble_eq_true rfl)) d_M_change_286 ⟨Nat.le_of_ble_eq_true rfl, Nat.le_of_ble_eq_true rfl⟩) (fun F286 H locs q286 hw => ?_)
                                      obtain ⟨N33, hk286, hf286⟩ := q286
                                      have hO_at_286 : F286 (98) = .inr (6, [.int (iI (0)), .ref (ad (99)), .ref (ad (100)), .ref (ad (101)), .ref (ad (102)), .int (iI ((nS g : Int))), .int (iI (pS g)), .ref (ad (103))]) := (hf286 (98) (by omega) (by omega) (by omega)).trans hO_at_281
                                      have hRn_at_286 : Rn ty F286 (g) := hRn_at_281.kq hk286 (fun c9 h8 h9 => by first | omega | (dsimp only at h9; omega))
                                      have Nua_at_286 : Nm ty F286 (ua) (zS g ua) := hk286 _ _ (by omega) (by first | omega | (dsimp only; omega)) Nua_at_281
                                      have N16ua_at_286 : Nm ty F286 (16 + ua) (((bS g ua : Nat) : Int)) := hk286 _ _ (by omega) (by first | omega | (dsimp only; omega)) N16ua_at_281
                                      have h102_at_286 : F286 (102) = .inl (ty 0, 1400, .inl (tt)) := (hf286 (102) (by omega) (by omega) (by omega)).trans h102_at_281
                                      have h103_at_286 : F286 (103) = .inl (ty 0, 700, .inl (dd)) := (hf286 (103) (by omega) (by omega) (by omega)).trans h103_at_281
                                      have N41_at_286 : Nm ty F286 (41) ((-(zS g ua)) / ((bS g ua : Nat) : Int)) := hk286 _ _ (by omega) (by first | omega | (dsimp only; omega)) N41_at_281
                                      have N32_at_286 : Nm ty F286 (32) (-((-(zS g ua)) / ((bS g ua : Nat) : Int))) := hk286 _ _ (by omega) (by first | omega | (dsimp only; omega)) N32
                                      refine lv_goto (tgt := 319) hx hb d_M_change_289 (by decide) ?_
                                      refine lv_aload_n hx hb d_M_change_319 rfl (lv_at hl 0 rfl) ?_
                                      refine lv_iload_n hx hb d_M_change_320 rfl (lv_at hl 1 rfl) ?_
                                      refine pw_calli hw (va_runV (As := [.int (iI ((uto : Int)))]) (rest := []) ⟨hx, hb, hml, hown, hq⟩ (c_M_lay l D ty ad M F286 H.size hM (0) ((nS g : Int)) (pS g) hO_at_286 (uto) (-((-(zS g ua)) / ((bS g ua : Nat) : Int))) (1) (g) (by omega) (by omega) N32_at_286 N33 hRn_at_286 (by rw [Int.natAbs_neg]; exact fl_md1 (by rw [Int.natAbs_neg]; exact hmx)) (md_1)) (cwV 1 hq (gV ml_M_89 im_M_lay se_M_lay in_M m_M_lay) rfl rfl rfl (by decide +kernel) ⟨Nat.le_of_ble_eq_true rfl, Nat.le_of_ble_eq_true rfl⟩) (pw_preV hw (by omega) hO_at_286 rfl) rfl rfl hl.1 rfl (lv_room (Nat.le_of_ble_eq_true rfl)) d_M_change_321 ⟨Nat.le_of_ble_eq_true rfl, Nat.le_of_ble_eq_true rfl⟩) (fun r321 F321 H locs q321 hw => ?_)
                                      obtain ⟨er321, hRn, hf321⟩ := q321
                                      have hO_at_321 : F321 (98) = .inr (6, [.int (iI (0)), .ref (ad (99)), .ref (ad (100)), .ref (ad (101)), .ref (ad (102)), .int (iI ((nS g : Int))), .int (iI (pS g)), .ref (ad (103))]) := (hf321 (98) (by omega) (by omega) (by omega)).trans hO_at_286
                                      have h102_at_321 : F321 (102) = .inl (ty 0, 1400, .inl (tt)) := (hf321 (102) (by omega) (by omega) (by omega)).trans h102_at_286
                                      have h103_at_321 : F321 (103) = .inl (ty 0, 700, .inl (dd)) := (hf321 (103) (by omega) (by omega) (by omega)).trans h103_at_286
                                      rw [← hQ]
                                      exact pw_iret hx hb hr hlocks hw (by
                                        rw [o_change_ok ⟨hRto, hRa⟩ ⟨by omega, by omega⟩ hd9 (u := uto) (x := ua) (by omega) (by omega), show kd = 4 by omega, ch_4]
                                        rw [flz_n (by omega)] at er321 hRn
                                        exact ⟨er321, Mo.mk' (s_lay_t ..) hO_at_321 hRn h102_at_321 htt h103_at_321, fun y9 h1 => ((hf321 (y9) (by omega) (by omega) (by omega)).trans ((hf286 (y9) (by omega) (by omega) (by omega)).trans ((show F281 (y9) = F237 (y9) from by rw [eF281]; exact va_up_ne _ _ (by omega)).trans ((hf237 (y9) (by omega) (by omega) (by omega)).trans ((hf229 (y9) (by omega) (by omega) (by omega)).trans ((show F223 (y9) = F73 (y9) from by rw [eF223]; exact va_up_ne _ _ (by omega)).trans ((hf73 (y9) (by omega) (by omega) (by omega)).trans (hf63 (y9) (by omega) (by omega) (by omega))))))))).trans (hfr y9 (by omega))⟩) d_M_change_324
                              · refine wz_iconst (n := 1) hx hb d_M_change_218 ?_
                                refine lv_goto (tgt := 223) hx hb d_M_change_219 (by decide) ?_
                                refine pw_zast (k := 32) hx hb hw 4 (by omega) a214_101 rfl (iI_in (by omega) (by omega) (by omega)) ((iI_cl (by omega) (by omega)).trans (by omega)) (y := iI (1)) (by decide) d_M_change_223 (fun F223 H locs eF223 hw => ?_)
                                have m223_101 : F223 (101) = .inl (ty 4, 43, .inl (upd G214 (32) (iI (1)))) := by rw [eF223]; exact va_up_self ..
                                obtain ⟨N32, hk223⟩ := Nm_sign (t := 32) (z' := -(zS g ua)) ⟨a214_99, a214_100, a214_101⟩ ⟨(show F223 (99) = F73 (99) from by rw [eF223]; exact va_up_ne _ _ (by omega)).trans a214_99, (show F223 (100) = F73 (100) from by rw [eF223]; exact va_up_ne _ _ (by omega)).trans a214_100, m223_101⟩ N32_at_73 (by omega) (by rw [zB_1 (by omega)]; rfl)
                                have hO_at_223 : F223 (98) = .inr (6, [.int (iI (0)), .ref (ad (99)), .ref (ad (100)), .ref (ad (101)), .ref (ad (102)), .int (iI ((nS g : Int))), .int (iI (pS g)), .ref (ad (103))]) := (show F223 (98) = F73 (98) from by rw [eF223]; exact va_up_ne _ _ (by omega)).trans hO_at_73
                                have hRn_at_223 : Rn ty F223 (g) := hRn_at_73.kq hk223 (fun c9 h8 h9 => by first | omega | (dsimp only at h9; omega))
                                have Nua_at_223 : Nm ty F223 (ua) (zS g ua) := hk223 _ _ (by omega) (by first | omega | (dsimp only; omega)) Nua_at_73
                                have N16ua_at_223 : Nm ty F223 (16 + ua) (((bS g ua : Nat) : Int)) := hk223 _ _ (by omega) (by first | omega | (dsimp only; omega)) N16ua_at_73
                                have h102_at_223 : F223 (102) = .inl (ty 0, 1400, .inl (tt)) := (show F223 (102) = F73 (102) from by rw [eF223]; exact va_up_ne _ _ (by omega)).trans h102_at_73
                                have h103_at_223 : F223 (103) = .inl (ty 0, 700, .inl (dd)) := (show F223 (103) = F73 (103) from by rw [eF223]; exact va_up_ne _ _ (by omega)).trans h103_at_73
                                have N33_at_223 : Nm ty F223 (33) (((bS g ua : Nat) : Int)) := hk223 _ _ (by omega) (by first | omega | (dsimp only; omega)) N33
                                have a214_99_at_223 : F223 (99) = .inl (ty 0, 12900, .inl (P214)) := (show F223 (99) = F73 (99) from by rw [eF223]; exact va_up_ne _ _ (by omega)).trans a214_99
                                have a214_100_at_223 : F223 (100) = .inl (ty 0, 43, .inl (S214)) := (show F223 (100) = F73 (100) from by rw [eF223]; exact va_up_ne _ _ (by omega)).trans a214_100
                                refine lv_aload_n hx hb d_M_change_224 rfl (lv_at hl 0 rfl) ?_
                                refine wz_bipush (n := 32) hx hb d_M_change_225 (by decide) ?_
                                refine wz_bipush (n := 33) hx hb d_M_change_227 (by decide) ?_
                                refine pw_callv hw (va_runV (As := [.int (iI (32)), .int (iI (33))]) (rest := []) ⟨hx, hb, hml, hown, hq⟩ (c_M_floor l D ty ad M F223 H.size hM (0) ((nS g : Int)) (pS g) hO_at_223 (32) (33) (-(zS g ua)) (((bS g ua : Nat) : Int)) (by omega) (by omega) (by omega) (by omega) (by omega) N32 N33_at_223 (by rw [Int.natAbs_neg]; exact hmx) (hmb)) (cwV 2 hq (gV ml_M_95 im_M_floor se_M_floor in_M m_M_floor) rfl rfl rfl (by decide +kernel) ⟨Nat.le_of_ble_eq_true rfl, Nat.le_of_ble_eq_true rfl⟩) (pw_preV hw (by omega) hO_at_223 rfl) rfl rfl hl.1 rfl (lv_room (Nat.le_of_ble_eq_true rfl)) d_M_change_229 ⟨Nat.le_of_ble_eq_true rfl, Nat.le_of_ble_eq_true rfl⟩) (fun F229 H locs q229 hw => ?_)
                                obtain ⟨N41, hk229, hf229⟩ := q229
                                have hO_at_229 : F229 (98) = .inr (6, [.int (iI (0)), .ref (ad (99)), .ref (ad (100)), .ref (ad (101)), .ref (ad (102)), .int (iI ((nS g : Int))), .int (iI (pS g)), .ref (ad (103))]) := (hf229 (98) (by omega) (by omega) (by omega)).trans hO_at_223
                                have hRn_at_229 : Rn ty F229 (g) := hRn_at_223.kq hk229 (fun c9 h8 h9 => by first | omega | (dsimp only at h9; omega))
                                have Nua_at_229 : Nm ty F229 (ua) (zS g ua) := hk229 _ _ (by omega) (by first | omega | (dsimp only; omega)) Nua_at_223
                                have N16ua_at_229 : Nm ty F229 (16 + ua) (((bS g ua : Nat) : Int)) := hk229 _ _ (by omega) (by first | omega | (dsimp only; omega)) N16ua_at_223
                                have h102_at_229 : F229 (102) = .inl (ty 0, 1400, .inl (tt)) := (hf229 (102) (by omega) (by omega) (by omega)).trans h102_at_223
                                have h103_at_229 : F229 (103) = .inl (ty 0, 700, .inl (dd)) := (hf229 (103) (by omega) (by omega) (by omega)).trans h103_at_223
                                have N33_at_229 : Nm ty F229 (33) (((bS g ua : Nat) : Int)) := hk229 _ _ (by omega) (by first | omega | (dsimp only; omega)) N33_at_223
                                have N32_at_229 : Nm ty F229 (32) (-(zS g ua)) := hk229 _ _ (by omega) (by first | omega | (dsimp only; omega)) N32
                                refine lv_aload_n hx hb d_M_change_232 rfl (lv_at hl 0 rfl) ?_
                                refine wz_bipush (n := 32) hx hb d_M_change_233 (by decide) ?_
                                refine wz_bipush (n := 41) hx hb d_M_change_235 (by decide) ?_
                                refine pw_callv hw (va_runV (As := [.int (iI (32)), .int (iI (41))]) (rest := []) ⟨hx, hb, hml, hown, hq⟩ (c_M_copy l D ty ad M F229 H.size hM (0) ((nS g : Int)) (pS g) hO_at_229 (32) (41) (by omega) (by omega) (by omega) ((-(zS g ua)) / ((bS g ua : Nat) : Int)) N41) (cwV 2 hq (gV ml_M_55 im_M_copy se_M_copy in_M m_M_copy) rfl rfl rfl (by decide +kernel) ⟨Nat.le_of_ble_eq_true rfl, Nat.le_of_ble_eq_true rfl⟩) (pw_preV hw (by omega) hO_at_229 rfl) rfl rfl hl.1 rfl (lv_room (Nat.le_of_ble_eq_true rfl)) d_M_change_237 ⟨Nat.le_of_ble_eq_true rfl, Nat.le_of_ble_eq_true rfl⟩) (fun F237 H locs q237 hw => ?_)
                                obtain ⟨N32, hk237, hf237⟩ := q237
                                have hO_at_237 : F237 (98) = .inr (6, [.int (iI (0)), .ref (ad (99)), .ref (ad (100)), .ref (ad (101)), .ref (ad (102)), .int (iI ((nS g : Int))), .int (iI (pS g)), .ref (ad (103))]) := (hf237 (98) (by omega) (by omega) (by omega)).trans hO_at_229
                                have hRn_at_237 : Rn ty F237 (g) := hRn_at_229.kq hk237 (fun c9 h8 h9 => by first | omega | (dsimp only at h9; omega))
                                have Nua_at_237 : Nm ty F237 (ua) (zS g ua) := hk237 _ _ (by omega) (by first | omega | (dsimp only; omega)) Nua_at_229
                                have N16ua_at_237 : Nm ty F237 (16 + ua) (((bS g ua : Nat) : Int)) := hk237 _ _ (by omega) (by first | omega | (dsimp only; omega)) N16ua_at_229
                                have h102_at_237 : F237 (102) = .inl (ty 0, 1400, .inl (tt)) := (hf237 (102) (by omega) (by omega) (by omega)).trans h102_at_229
                                have h103_at_237 : F237 (103) = .inl (ty 0, 700, .inl (dd)) := (hf237 (103) (by omega) (by omega) (by omega)).trans h103_at_229
                                have N33_at_237 : Nm ty F237 (33) (((bS g ua : Nat) : Int)) := hk237 _ _ (by omega) (by first | omega | (dsimp only; omega)) N33_at_229
                                have N41_at_237 : Nm ty F237 (41) ((-(zS g ua)) / ((bS g ua : Nat) : Int)) := hk237 _ _ (by omega) (by first | omega | (dsimp only; omega)) N41
                                refine lv_aload_n hx hb d_M_change_240 rfl (lv_at hl 0 rfl) ?_
                                refine pw_get (ci := 6) (C := R_M) (T := T_M) (N := 8) hx hb hq i_M hown hw (by omega) hO_at_237 rfl 3 (by decide) (hq _ fl_M_16) (fun _ h9 => h9) rfl d_M_change_241 ?_
                                refine wz_bipush (n := 32) hx hb d_M_change_244 (by decide) ?_
                                refine lv_aload_n hx hb d_M_change_246 rfl (lv_at hl 0 rfl) ?_
                                refine pw_get (ci := 6) (C := R_M) (T := T_M) (N := 8) hx hb hq i_M hown hw (by omega) hO_at_237 rfl 3 (by decide) (hq _ fl_M_16) (fun _ h9 => h9) rfl d_M_change_247 ?_
                                refine wz_bipush (n := 32) hx hb d_M_change_250 (by decide) ?_
                                obtain ⟨P252, S252, G252, ⟨a252_99, a252_100, a252_101⟩, ⟨n252, hS252, h3252, hD252, ht252, hv252⟩, hG252⟩ := id N32
                                have hs252 := sB_c ((-(zS g ua)) / ((bS g ua : Nat) : Int))
                                refine pw_zald (k := 32) hx hb hw 4 (by omega) a252_101 rfl (iI_in (by omega) (by omega) (by omega)) ((iI_cl (by omega) (by omega)).trans (by omega)) d_M_change_252 ?_
                                refine lv_topi (fun x252 ex252 => ?_)
                                obtain rfl : x252 = iI ((sB ((-(zS g ua)) / ((bS g ua : Nat) : Int)) : Int)) := ex252.trans (hG252)
                                refine lv_iload_n hx hb d_M_change_253 rfl (lv_at hl 2 rfl) ?_
                                refine wz_iconst (n := 4) hx hb d_M_change_254 ?_
                                refine wz_icmp_ne (tgt := 262) hx hb d_M_change_255 (by decide) (by omega) (by omega) (by omega) (by omega) (fun c255 => ?_) (fun c255 => ?_)
                                · exact absurd c255 (by omega)
                                · refine wz_iconst (n := 1) hx hb d_M_change_258 ?_
                                  refine lv_goto (tgt := 263) hx hb d_M_change_259 (by decide) ?_
                                  refine wz_icmp_eq (tgt := 280) hx hb d_M_change_263 (by decide) (by omega) (by omega) (by omega) (by omega) (fun c263 => ?_) (fun c263 => ?_)
                                  · refine wz_iconst (n := 0) hx hb d_M_change_280 ?_
                                    refine pw_zast (k := 32) hx hb hw 4 (by omega) a252_101 rfl (iI_in (by omega) (by omega) (by omega)) ((iI_cl (by omega) (by omega)).trans (by omega)) (y := iI (0)) (by decide) d_M_change_281 (fun F281 H locs eF281 hw => ?_)
                                    have m281_101 : F281 (101) = .inl (ty 4, 43, .inl (upd G252 (32) (iI (0)))) := by rw [eF281]; exact va_up_self ..
                                    obtain ⟨N32, hk281⟩ := Nm_sign (t := 32) (z' := -((-(zS g ua)) / ((bS g ua : Nat) : Int))) ⟨a252_99, a252_100, a252_101⟩ ⟨(show F281 (99) = F237 (99) from by rw [eF281]; exact va_up_ne _ _ (by omega)).trans a252_99, (show F281 (100) = F237 (100) from by rw [eF281]; exact va_up_ne _ _ (by omega)).trans a252_100, m281_101⟩ N32 (by omega) (by rw [zB_0 (by omega)]; rfl)
                                    have hO_at_281 : F281 (98) = .inr (6, [.int (iI (0)), .ref (ad (99)), .ref (ad (100)), .ref (ad (101)), .ref (ad (102)), .int (iI ((nS g : Int))), .int (iI (pS g)), .ref (ad (103))]) := (show F281 (98) = F237 (98) from by rw [eF281]; exact va_up_ne _ _ (by omega)).trans hO_at_237
                                    have hRn_at_281 : Rn ty F281 (g) := hRn_at_237.kq hk281 (fun c9 h8 h9 => by first | omega | (dsimp only at h9; omega))
                                    have Nua_at_281 : Nm ty F281 (ua) (zS g ua) := hk281 _ _ (by omega) (by first | omega | (dsimp only; omega)) Nua_at_237
                                    have N16ua_at_281 : Nm ty F281 (16 + ua) (((bS g ua : Nat) : Int)) := hk281 _ _ (by omega) (by first | omega | (dsimp only; omega)) N16ua_at_237
                                    have h102_at_281 : F281 (102) = .inl (ty 0, 1400, .inl (tt)) := (show F281 (102) = F237 (102) from by rw [eF281]; exact va_up_ne _ _ (by omega)).trans h102_at_237
                                    have h103_at_281 : F281 (103) = .inl (ty 0, 700, .inl (dd)) := (show F281 (103) = F237 (103) from by rw [eF281]; exact va_up_ne _ _ (by omega)).trans h103_at_237
                                    have N33_at_281 : Nm ty F281 (33) (((bS g ua : Nat) : Int)) := hk281 _ _ (by omega) (by first | omega | (dsimp only; omega)) N33_at_237
                                    have N41_at_281 : Nm ty F281 (41) ((-(zS g ua)) / ((bS g ua : Nat) : Int)) := hk281 _ _ (by omega) (by first | omega | (dsimp only; omega)) N41_at_237
                                    have a252_99_at_281 : F281 (99) = .inl (ty 0, 12900, .inl (P252)) := (show F281 (99) = F237 (99) from by rw [eF281]; exact va_up_ne _ _ (by omega)).trans a252_99
                                    have a252_100_at_281 : F281 (100) = .inl (ty 0, 43, .inl (S252)) := (show F281 (100) = F237 (100) from by rw [eF281]; exact va_up_ne _ _ (by omega)).trans a252_100
                                    refine lv_aload_n hx hb d_M_change_282 rfl (lv_at hl 0 rfl) ?_
                                    refine wz_bipush (n := 33) hx hb d_M_change_283 (by decide) ?_
                                    refine lv_lconst (v := iL 1) hx hb d_M_change_285 (by decide) ?_
                                    obtain ⟨_, _, _, hA286⟩ := (N32).ma
                                    refine pw_callv hw (va_runV (As := [.int (iI (33)), .long (iL (1))]) (rest := []) ⟨hx, hb, hml, hown, hq⟩ (c_M_setLong l D ty ad M F281 H.size hM (0) ((nS g : Int)) (pS g) hO_at_281 _ _ _ hA286 (33) (by omega) (1) (by omega)) (cwV 2 hq (gV ml_M_30 im_M_setLong se_M_setLong in_M m_M_setLong) rfl rfl rfl (by decide +kernel) ⟨Nat.le_of_ble_eq_true rfl, Nat.le_of_ble_eq_true rfl⟩) (pw_preV hw (by omega) hO_at_281 rfl) rfl rfl hl.1 rfl (lv_room (Nat.le_of_ble_eq_true rfl)) d_M_change_286 ⟨Nat.le_of_ble_eq_true rfl, Nat.le_of_ble_eq_true rfl⟩) (fun F286 H locs q286 hw => ?_)
                                    obtain ⟨N33, hk286, hf286⟩ := q286
                                    have hO_at_286 : F286 (98) = .inr (6, [.int (iI (0)), .ref (ad (99)), .ref (ad (100)), .ref (ad (101)), .ref (ad (102)), .int (iI ((nS g : Int))), .int (iI (pS g)), .ref (ad (103))]) := (hf286 (98) (by omega) (by omega) (by omega)).trans hO_at_281
                                    have hRn_at_286 : Rn ty F286 (g) := hRn_at_281.kq hk286 (fun c9 h8 h9 => by first | omega | (dsimp only at h9; omega))
                                    have Nua_at_286 : Nm ty F286 (ua) (zS g ua) := hk286 _ _ (by omega) (by first | omega | (dsimp only; omega)) Nua_at_281
                                    have N16ua_at_286 : Nm ty F286 (16 + ua) (((bS g ua : Nat) : Int)) := hk286 _ _ (by omega) (by first | omega | (dsimp only; omega)) N16ua_at_281
                                    have h102_at_286 : F286 (102) = .inl (ty 0, 1400, .inl (tt)) := (hf286 (102) (by omega) (by omega) (by omega)).trans h102_at_281
                                    have h103_at_286 : F286 (103) = .inl (ty 0, 700, .inl (dd)) := (hf286 (103) (by omega) (by omega) (by omega)).trans h103_at_281
                                    have N41_at_286 : Nm ty F286 (41) ((-(zS g ua)) / ((bS g ua : Nat) : Int)) := hk286 _ _ (by omega) (by first | omega | (dsimp only; omega)) N41_at_281
                                    have N32_at_286 : Nm ty F286 (32) (-((-(zS g ua)) / ((bS g ua : Nat) : Int))) := hk286 _ _ (by omega) (by first | omega | (dsimp only; omega)) N32
                                    refine lv_goto (tgt := 319) hx hb d_M_change_289 (by decide) ?_
                                    refine lv_aload_n hx hb d_M_change_319 rfl (lv_at hl 0 rfl) ?_
                                    refine lv_iload_n hx hb d_M_change_320 rfl (lv_at hl 1 rfl) ?_
                                    refine pw_calli hw (va_runV (As := [.int (iI ((uto : Int)))]) (rest := []) ⟨hx, hb, hml, hown, hq⟩ (c_M_lay l D ty ad M F286 H.size hM (0) ((nS g : Int)) (pS g) hO_at_286 (uto) (-((-(zS g ua)) / ((bS g ua : Nat) : Int))) (1) (g) (by omega) (by omega) N32_at_286 N33 hRn_at_286 (by rw [Int.natAbs_neg]; exact fl_md1 (by rw [Int.natAbs_neg]; exact hmx)) (md_1)) (cwV 1 hq (gV ml_M_89 im_M_lay se_M_lay in_M m_M_lay) rfl rfl rfl (by decide +kernel) ⟨Nat.le_of_ble_eq_true rfl, Nat.le_of_ble_eq_true rfl⟩) (pw_preV hw (by omega) hO_at_286 rfl) rfl rfl hl.1 rfl (lv_room (Nat.le_of_ble_eq_true rfl)) d_M_change_321 ⟨Nat.le_of_ble_eq_true rfl, Nat.le_of_ble_eq_true rfl⟩) (fun r321 F321 H locs q321 hw => ?_)
                                    obtain ⟨er321, hRn, hf321⟩ := q321
                                    have hO_at_321 : F321 (98) = .inr (6, [.int (iI (0)), .ref (ad (99)), .ref (ad (100)), .ref (ad (101)), .ref (ad (102)), .int (iI ((nS g : Int))), .int (iI (pS g)), .ref (ad (103))]) := (hf321 (98) (by omega) (by omega) (by omega)).trans hO_at_286
                                    have h102_at_321 : F321 (102) = .inl (ty 0, 1400, .inl (tt)) := (hf321 (102) (by omega) (by omega) (by omega)).trans h102_at_286
                                    have h103_at_321 : F321 (103) = .inl (ty 0, 700, .inl (dd)) := (hf321 (103) (by omega) (by omega) (by omega)).trans h103_at_286
                                    rw [← hQ]
                                    exact pw_iret hx hb hr hlocks hw (by
                                      rw [o_change_ok ⟨hRto, hRa⟩ ⟨by omega, by omega⟩ hd9 (u := uto) (x := ua) (by omega) (by omega), show kd = 4 by omega, ch_4]
                                      rw [flz_n (by omega)] at er321 hRn
                                      exact ⟨er321, Mo.mk' (s_lay_t ..) hO_at_321 hRn h102_at_321 htt h103_at_321, fun y9 h1 => ((hf321 (y9) (by omega) (by omega) (by omega)).trans ((hf286 (y9) (by omega) (by omega) (by omega)).trans ((show F281 (y9) = F237 (y9) from by rw [eF281]; exact va_up_ne _ _ (by omega)).trans ((hf237 (y9) (by omega) (by omega) (by omega)).trans ((hf229 (y9) (by omega) (by omega) (by omega)).trans ((show F223 (y9) = F73 (y9) from by rw [eF223]; exact va_up_ne _ _ (by omega)).trans ((hf73 (y9) (by omega) (by omega) (by omega)).trans (hf63 (y9) (by omega) (by omega) (by omega))))))))).trans (hfr y9 (by omega))⟩) d_M_change_324
                                  · refine lv_aload_n hx hb d_M_change_266 rfl (lv_at hl 0 rfl) ?_
                                    refine pw_get (ci := 6) (C := R_M) (T := T_M) (N := 8) hx hb hq i_M hown hw (by omega) hO_at_237 rfl 2 (by decide) (hq _ fl_M_13) (fun _ h9 => h9) rfl d_M_change_267 ?_
                                    refine wz_bipush (n := 32) hx hb d_M_change_270 (by decide) ?_
                                    obtain ⟨P272, S272, G272, ⟨a272_99, a272_100, a272_101⟩, ⟨nv, hS272, h3272, hD272, ht272, hv272⟩, hG272⟩ := id N32
                                    have hz272 := bvP_z ht272
                                    rw [hv272] at hz272
                                    refine pw_iald (k := 32) hx hb hw 0 (by omega) a272_100 rfl (iI_in (by omega) (by omega) (by omega)) ((iI_cl (by omega) (by omega)).trans (by omega)) d_M_change_272 ?_
                                    refine lv_topi (fun x272 ex272 => ?_)
                                    obtain rfl : x272 = iI ((nv : Int)) := ex272.trans (hS272)
                                    refine wz_if_le (tgt := 280) hx hb d_M_change_273 (by decide) (by omega) (by omega) (fun c273 => ?_) (fun c273 => ?_)
                                    · refine wz_iconst (n := 0) hx hb d_M_change_280 ?_
                                      refine pw_zast (k := 32) hx hb hw 4 (by omega) a272_101 rfl (iI_in (by omega) (by omega) (by omega)) ((iI_cl (by omega) (by omega)).trans (by omega)) (y := iI (0)) (by decide) d_M_change_281 (fun F281 H locs eF281 hw => ?_)
                                      have m281_101 : F281 (101) = .inl (ty 4, 43, .inl (upd G272 (32) (iI (0)))) := by rw [eF281]; exact va_up_self ..
                                      obtain ⟨N32, hk281⟩ := Nm_sign (t := 32) (z' := -((-(zS g ua)) / ((bS g ua : Nat) : Int))) ⟨a272_99, a272_100, a272_101⟩ ⟨(show F281 (99) = F237 (99) from by rw [eF281]; exact va_up_ne _ _ (by omega)).trans a272_99, (show F281 (100) = F237 (100) from by rw [eF281]; exact va_up_ne _ _ (by omega)).trans a272_100, m281_101⟩ N32 (by omega) (by rw [zB_0 (by omega)]; rfl)
                                      have hO_at_281 : F281 (98) = .inr (6, [.int (iI (0)), .ref (ad (99)), .ref (ad (100)), .ref (ad (101)), .ref (ad (102)), .int (iI ((nS g : Int))), .int (iI (pS g)), .ref (ad (103))]) := (show F281 (98) = F237 (98) from by rw [eF281]; exact va_up_ne _ _ (by omega)).trans hO_at_237
                                      have hRn_at_281 : Rn ty F281 (g) := hRn_at_237.kq hk281 (fun c9 h8 h9 => by first | omega | (dsimp only at h9; omega))
                                      have Nua_at_281 : Nm ty F281 (ua) (zS g ua) := hk281 _ _ (by omega) (by first | omega | (dsimp only; omega)) Nua_at_237
                                      have N16ua_at_281 : Nm ty F281 (16 + ua) (((bS g ua : Nat) : Int)) := hk281 _ _ (by omega) (by first | omega | (dsimp only; omega)) N16ua_at_237
                                      have h102_at_281 : F281 (102) = .inl (ty 0, 1400, .inl (tt)) := (show F281 (102) = F237 (102) from by rw [eF281]; exact va_up_ne _ _ (by omega)).trans h102_at_237
                                      have h103_at_281 : F281 (103) = .inl (ty 0, 700, .inl (dd)) := (show F281 (103) = F237 (103) from by rw [eF281]; exact va_up_ne _ _ (by omega)).trans h103_at_237
                                      have N33_at_281 : Nm ty F281 (33) (((bS g ua : Nat) : Int)) := hk281 _ _ (by omega) (by first | omega | (dsimp only; omega)) N33_at_237
                                      have N41_at_281 : Nm ty F281 (41) ((-(zS g ua)) / ((bS g ua : Nat) : Int)) := hk281 _ _ (by omega) (by first | omega | (dsimp only; omega)) N41_at_237
                                      have a272_99_at_281 : F281 (99) = .inl (ty 0, 12900, .inl (P272)) := (show F281 (99) = F237 (99) from by rw [eF281]; exact va_up_ne _ _ (by omega)).trans a272_99
                                      have a272_100_at_281 : F281 (100) = .inl (ty 0, 43, .inl (S272)) := (show F281 (100) = F237 (100) from by rw [eF281]; exact va_up_ne _ _ (by omega)).trans a272_100
                                      refine lv_aload_n hx hb d_M_change_282 rfl (lv_at hl 0 rfl) ?_
                                      refine wz_bipush (n := 33) hx hb d_M_change_283 (by decide) ?_
                                      refine lv_lconst (v := iL 1) hx hb d_M_change_285 (by decide) ?_
                                      obtain ⟨_, _, _, hA286⟩ := (N32).ma
                                      refine pw_callv hw (va_runV (As := [.int (iI (33)), .long (iL (1))]) (rest := []) ⟨hx, hb, hml, hown, hq⟩ (c_M_setLong l D ty ad M F281 H.size hM (0) ((nS g : Int)) (pS g) hO_at_281 _ _ _ hA286 (33) (by omega) (1) (by omega)) (cwV 2 hq (gV ml_M_30 im_M_setLong se_M_setLong in_M m_M_setLong) rfl rfl rfl (by decide +kernel) ⟨Nat.le_of_ble_eq_true rfl, Nat.le_of_ble_eq_true rfl⟩) (pw_preV hw (by omega) hO_at_281 rfl) rfl rfl hl.1 rfl (lv_room (Nat.le_of_ble_eq_true rfl)) d_M_change_286 ⟨Nat.le_of_ble_eq_true rfl, Nat.le_of_ble_eq_true rfl⟩) (fun F286 H locs q286 hw => ?_)
                                      obtain ⟨N33, hk286, hf286⟩ := q286
                                      have hO_at_286 : F286 (98) = .inr (6, [.int (iI (0)), .ref (ad (99)), .ref (ad (100)), .ref (ad (101)), .ref (ad (102)), .int (iI ((nS g : Int))), .int (iI (pS g)), .ref (ad (103))]) := (hf286 (98) (by omega) (by omega) (by omega)).trans hO_at_281
                                      have hRn_at_286 : Rn ty F286 (g) := hRn_at_281.kq hk286 (fun c9 h8 h9 => by first | omega | (dsimp only at h9; omega))
                                      have Nua_at_286 : Nm ty F286 (ua) (zS g ua) := hk286 _ _ (by omega) (by first | omega | (dsimp only; omega)) Nua_at_281
                                      have N16ua_at_286 : Nm ty F286 (16 + ua) (((bS g ua : Nat) : Int)) := hk286 _ _ (by omega) (by first | omega | (dsimp only; omega)) N16ua_at_281
                                      have h102_at_286 : F286 (102) = .inl (ty 0, 1400, .inl (tt)) := (hf286 (102) (by omega) (by omega) (by omega)).trans h102_at_281
                                      have h103_at_286 : F286 (103) = .inl (ty 0, 700, .inl (dd)) := (hf286 (103) (by omega) (by omega) (by omega)).trans h103_at_281
                                      have N41_at_286 : Nm ty F286 (41) ((-(zS g ua)) / ((bS g ua : Nat) : Int)) := hk286 _ _ (by omega) (by first | omega | (dsimp only; omega)) N41_at_281
                                      have N32_at_286 : Nm ty F286 (32) (-((-(zS g ua)) / ((bS g ua : Nat) : Int))) := hk286 _ _ (by omega) (by first | omega | (dsimp only; omega)) N32
                                      refine lv_goto (tgt := 319) hx hb d_M_change_289 (by decide) ?_
                                      refine lv_aload_n hx hb d_M_change_319 rfl (lv_at hl 0 rfl) ?_
                                      refine lv_iload_n hx hb d_M_change_320 rfl (lv_at hl 1 rfl) ?_
                                      refine pw_calli hw (va_runV (As := [.int (iI ((uto : Int)))]) (rest := []) ⟨hx, hb, hml, hown, hq⟩ (c_M_lay l D ty ad M F286 H.size hM (0) ((nS g : Int)) (pS g) hO_at_286 (uto) (-((-(zS g ua)) / ((bS g ua : Nat) : Int))) (1) (g) (by omega) (by omega) N32_at_286 N33 hRn_at_286 (by rw [Int.natAbs_neg]; exact fl_md1 (by rw [Int.natAbs_neg]; exact hmx)) (md_1)) (cwV 1 hq (gV ml_M_89 im_M_lay se_M_lay in_M m_M_lay) rfl rfl rfl (by decide +kernel) ⟨Nat.le_of_ble_eq_true rfl, Nat.le_of_ble_eq_true rfl⟩) (pw_preV hw (by omega) hO_at_286 rfl) rfl rfl hl.1 rfl (lv_room (Nat.le_of_ble_eq_true rfl)) d_M_change_321 ⟨Nat.le_of_ble_eq_true rfl, Nat.le_of_ble_eq_true rfl⟩) (fun r321 F321 H locs q321 hw => ?_)
                                      obtain ⟨er321, hRn, hf321⟩ := q321
                                      have hO_at_321 : F321 (98) = .inr (6, [.int (iI (0)), .ref (ad (99)), .ref (ad (100)), .ref (ad (101)), .ref (ad (102)), .int (iI ((nS g : Int))), .int (iI (pS g)), .ref (ad (103))]) := (hf321 (98) (by omega) (by omega) (by omega)).trans hO_at_286
                                      have h102_at_321 : F321 (102) = .inl (ty 0, 1400, .inl (tt)) := (hf321 (102) (by omega) (by omega) (by omega)).trans h102_at_286
                                      have h103_at_321 : F321 (103) = .inl (ty 0, 700, .inl (dd)) := (hf321 (103) (by omega) (by omega) (by omega)).trans h103_at_286
                                      rw [← hQ]
                                      exact pw_iret hx hb hr hlocks hw (by
                                        rw [o_change_ok ⟨hRto, hRa⟩ ⟨by omega, by omega⟩ hd9 (u := uto) (x := ua) (by omega) (by omega), show kd = 4 by omega, ch_4]
                                        rw [flz_n (by omega)] at er321 hRn
                                        exact ⟨er321, Mo.mk' (s_lay_t ..) hO_at_321 hRn h102_at_321 htt h103_at_321, fun y9 h1 => ((hf321 (y9) (by omega) (by omega) (by omega)).trans ((hf286 (y9) (by omega) (by omega) (by omega)).trans ((show F281 (y9) = F237 (y9) from by rw [eF281]; exact va_up_ne _ _ (by omega)).trans ((hf237 (y9) (by omega) (by omega) (by omega)).trans ((hf229 (y9) (by omega) (by omega) (by omega)).trans ((show F223 (y9) = F73 (y9) from by rw [eF223]; exact va_up_ne _ _ (by omega)).trans ((hf73 (y9) (by omega) (by omega) (by omega)).trans (hf63 (y9) (by omega) (by omega) (by omega))))))))).trans (hfr y9 (by omega))⟩) d_M_change_324
                                    · refine wz_iconst (n := 1) hx hb d_M_change_276 ?_
                                      refine lv_goto (tgt := 281) hx hb d_M_change_277 (by decide) ?_
                                      refine pw_zast (k := 32) hx hb hw 4 (by omega) a272_101 rfl (iI_in (by omega) (by omega) (by omega)) ((iI_cl (by omega) (by omega)).trans (by omega)) (y := iI (1)) (by decide) d_M_change_281 (fun F281 H locs eF281 hw => ?_)
                                      have m281_101 : F281 (101) = .inl (ty 4, 43, .inl (upd G272 (32) (iI (1)))) := by rw [eF281]; exact va_up_self ..
                                      obtain ⟨N32, hk281⟩ := Nm_sign (t := 32) (z' := -((-(zS g ua)) / ((bS g ua : Nat) : Int))) ⟨a272_99, a272_100, a272_101⟩ ⟨(show F281 (99) = F237 (99) from by rw [eF281]; exact va_up_ne _ _ (by omega)).trans a272_99, (show F281 (100) = F237 (100) from by rw [eF281]; exact va_up_ne _ _ (by omega)).trans a272_100, m281_101⟩ N32 (by omega) (by rw [zB_1 (by omega)]; rfl)
                                      have hO_at_281 : F281 (98) = .inr (6, [.int (iI (0)), .ref (ad (99)), .ref (ad (100)), .ref (ad (101)), .ref (ad (102)), .int (iI ((nS g : Int))), .int (iI (pS g)), .ref (ad (103))]) := (show F281 (98) = F237 (98) from by rw [eF281]; exact va_up_ne _ _ (by omega)).trans hO_at_237
                                      have hRn_at_281 : Rn ty F281 (g) := hRn_at_237.kq hk281 (fun c9 h8 h9 => by first | omega | (dsimp only at h9; omega))
                                      have Nua_at_281 : Nm ty F281 (ua) (zS g ua) := hk281 _ _ (by omega) (by first | omega | (dsimp only; omega)) Nua_at_237
                                      have N16ua_at_281 : Nm ty F281 (16 + ua) (((bS g ua : Nat) : Int)) := hk281 _ _ (by omega) (by first | omega | (dsimp only; omega)) N16ua_at_237
                                      have h102_at_281 : F281 (102) = .inl (ty 0, 1400, .inl (tt)) := (show F281 (102) = F237 (102) from by rw [eF281]; exact va_up_ne _ _ (by omega)).trans h102_at_237
                                      have h103_at_281 : F281 (103) = .inl (ty 0, 700, .inl (dd)) := (show F281 (103) = F237 (103) from by rw [eF281]; exact va_up_ne _ _ (by omega)).trans h103_at_237
                                      have N33_at_281 : Nm ty F281 (33) (((bS g ua : Nat) : Int)) := hk281 _ _ (by omega) (by first | omega | (dsimp only; omega)) N33_at_237
                                      have N41_at_281 : Nm ty F281 (41) ((-(zS g ua)) / ((bS g ua : Nat) : Int)) := hk281 _ _ (by omega) (by first | omega | (dsimp only; omega)) N41_at_237
                                      have a272_99_at_281 : F281 (99) = .inl (ty 0, 12900, .inl (P272)) := (show F281 (99) = F237 (99) from by rw [eF281]; exact va_up_ne _ _ (by omega)).trans a272_99
                                      have a272_100_at_281 : F281 (100) = .inl (ty 0, 43, .inl (S272)) := (show F281 (100) = F237 (100) from by rw [eF281]; exact va_up_ne _ _ (by omega)).trans a272_100
                                      refine lv_aload_n hx hb d_M_change_282 rfl (lv_at hl 0 rfl) ?_
                                      refine wz_bipush (n := 33) hx hb d_M_change_283 (by decide) ?_
                                      refine lv_lconst (v := iL 1) hx hb d_M_change_285 (by decide) ?_
                                      obtain ⟨_, _, _, hA286⟩ := (N32).ma
                                      refine pw_callv hw (va_runV (As := [.int (iI (33)), .long (iL (1))]) (rest := []) ⟨hx, hb, hml, hown, hq⟩ (c_M_setLong l D ty ad M F281 H.size hM (0) ((nS g : Int)) (pS g) hO_at_281 _ _ _ hA286 (33) (by omega) (1) (by omega)) (cwV 2 hq (gV ml_M_30 im_M_setLong se_M_setLong in_M m_M_setLong) rfl rfl rfl (by decide +kernel) ⟨Nat.le_of_ble_eq_true rfl, Nat.le_of_ble_eq_true rfl⟩) (pw_preV hw (by omega) hO_at_281 rfl) rfl rfl hl.1 rfl (lv_room (Nat.le_of_ble_eq_true rfl)) d_M_change_286 ⟨Nat.le_of_ble_eq_true rfl, Nat.le_of_ble_eq_true rfl⟩) (fun F286 H locs q286 hw => ?_)
                                      obtain ⟨N33, hk286, hf286⟩ := q286
                                      have hO_at_286 : F286 (98) = .inr (6, [.int (iI (0)), .ref (ad (99)), .ref (ad (100)), .ref (ad (101)), .ref (ad (102)), .int (iI ((nS g : Int))), .int (iI (pS g)), .ref (ad (103))]) := (hf286 (98) (by omega) (by omega) (by omega)).trans hO_at_281
                                      have hRn_at_286 : Rn ty F286 (g) := hRn_at_281.kq hk286 (fun c9 h8 h9 => by first | omega | (dsimp only at h9; omega))
                                      have Nua_at_286 : Nm ty F286 (ua) (zS g ua) := hk286 _ _ (by omega) (by first | omega | (dsimp only; omega)) Nua_at_281
                                      have N16ua_at_286 : Nm ty F286 (16 + ua) (((bS g ua : Nat) : Int)) := hk286 _ _ (by omega) (by first | omega | (dsimp only; omega)) N16ua_at_281
                                      have h102_at_286 : F286 (102) = .inl (ty 0, 1400, .inl (tt)) := (hf286 (102) (by omega) (by omega) (by omega)).trans h102_at_281
                                      have h103_at_286 : F286 (103) = .inl (ty 0, 700, .inl (dd)) := (hf286 (103) (by omega) (by omega) (by omega)).trans h103_at_281
                                      have N41_at_286 : Nm ty F286 (41) ((-(zS g ua)) / ((bS g ua : Nat) : Int)) := hk286 _ _ (by omega) (by first | omega | (dsimp only; omega)) N41_at_281
                                      have N32_at_286 : Nm ty F286 (32) (-((-(zS g ua)) / ((bS g ua : Nat) : Int))) := hk286 _ _ (by omega) (by first | omega | (dsimp only; omega)) N32
                                      refine lv_goto (tgt := 319) hx hb d_M_change_289 (by decide) ?_
                                      refine lv_aload_n hx hb d_M_change_319 rfl (lv_at hl 0 rfl) ?_
                                      refine lv_iload_n hx hb d_M_change_320 rfl (lv_at hl 1 rfl) ?_
                                      refine pw_calli hw (va_runV (As := [.int (iI ((uto : Int)))]) (rest := []) ⟨hx, hb, hml, hown, hq⟩ (c_M_lay l D ty ad M F286 H.size hM (0) ((nS g : Int)) (pS g) hO_at_286 (uto) (-((-(zS g ua)) / ((bS g ua : Nat) : Int))) (1) (g) (by omega) (by omega) N32_at_286 N33 hRn_at_286 (by rw [Int.natAbs_neg]; exact fl_md1 (by rw [Int.natAbs_neg]; exact hmx)) (md_1)) (cwV 1 hq (gV ml_M_89 im_M_lay se_M_lay in_M m_M_lay) rfl rfl rfl (by decide +kernel) ⟨Nat.le_of_ble_eq_true rfl, Nat.le_of_ble_eq_true rfl⟩) (pw_preV hw (by omega) hO_at_286 rfl) rfl rfl hl.1 rfl (lv_room (Nat.le_of_ble_eq_true rfl)) d_M_change_321 ⟨Nat.le_of_ble_eq_true rfl, Nat.le_of_ble_eq_true rfl⟩) (fun r321 F321 H locs q321 hw => ?_)
                                      obtain ⟨er321, hRn, hf321⟩ := q321
                                      have hO_at_321 : F321 (98) = .inr (6, [.int (iI (0)), .ref (ad (99)), .ref (ad (100)), .ref (ad (101)), .ref (ad (102)), .int (iI ((nS g : Int))), .int (iI (pS g)), .ref (ad (103))]) := (hf321 (98) (by omega) (by omega) (by omega)).trans hO_at_286
                                      have h102_at_321 : F321 (102) = .inl (ty 0, 1400, .inl (tt)) := (hf321 (102) (by omega) (by omega) (by omega)).trans h102_at_286
                                      have h103_at_321 : F321 (103) = .inl (ty 0, 700, .inl (dd)) := (hf321 (103) (by omega) (by omega) (by omega)).trans h103_at_286
                                      rw [← hQ]
                                      exact pw_iret hx hb hr hlocks hw (by
                                        rw [o_change_ok ⟨hRto, hRa⟩ ⟨by omega, by omega⟩ hd9 (u := uto) (x := ua) (by omega) (by omega), show kd = 4 by omega, ch_4]
                                        rw [flz_n (by omega)] at er321 hRn
                                        exact ⟨er321, Mo.mk' (s_lay_t ..) hO_at_321 hRn h102_at_321 htt h103_at_321, fun y9 h1 => ((hf321 (y9) (by omega) (by omega) (by omega)).trans ((hf286 (y9) (by omega) (by omega) (by omega)).trans ((show F281 (y9) = F237 (y9) from by rw [eF281]; exact va_up_ne _ _ (by omega)).trans ((hf237 (y9) (by omega) (by omega) (by omega)).trans ((hf229 (y9) (by omega) (by omega) (by omega)).trans ((show F223 (y9) = F73 (y9) from by rw [eF223]; exact va_up_ne _ _ (by omega)).trans ((hf73 (y9) (by omega) (by omega) (by omega)).trans (hf63 (y9) (by omega) (by omega) (by omega))))))))).trans (hfr y9 (by omega))⟩) d_M_change_324
                        · skip
                          by_cases c77_5 : kd = 5
                          · refine wz_tabIn (k := 5) (off := 215) (tgt := 292) hx hb d_M_change_77 c77_5 (by omega) (by omega) (by decide) rfl (by decide) ?_
                            refine lv_aload_n hx hb d_M_change_292 rfl (lv_at hl 0 rfl) ?_
                            refine wz_bipush (n := 33) hx hb d_M_change_293 (by decide) ?_
                            refine lv_lconst (v := iL 1) hx hb d_M_change_295 (by decide) ?_
                            obtain ⟨_, _, _, hA296⟩ := (N33).ma
                            refine pw_callv hw (va_runV (As := [.int (iI (33)), .long (iL (1))]) (rest := []) ⟨hx, hb, hml, hown, hq⟩ (c_M_setLong l D ty ad M F73 H.size hM (0) ((nS g : Int)) (pS g) hO_at_73 _ _ _ hA296 (33) (by omega) (1) (by omega)) (cwV 2 hq (gV ml_M_30 im_M_setLong se_M_setLong in_M m_M_setLong) rfl rfl rfl (by decide +kernel) ⟨Nat.le_of_ble_eq_true rfl, Nat.le_of_ble_eq_true rfl⟩) (pw_preV hw (by omega) hO_at_73 rfl) rfl rfl hl.1 rfl (lv_room (Nat.le_of_ble_eq_true rfl)) d_M_change_296 ⟨Nat.le_of_ble_eq_true rfl, Nat.le_of_ble_eq_true rfl⟩) (fun F296 H locs q296 hw => ?_)
                            obtain ⟨N33, hk296, hf296⟩ := q296
                            have hO_at_296 : F296 (98) = .inr (6, [.int (iI (0)), .ref (ad (99)), .ref (ad (100)), .ref (ad (101)), .ref (ad (102)), .int (iI ((nS g : Int))), .int (iI (pS g)), .ref (ad (103))]) := (hf296 (98) (by omega) (by omega) (by omega)).trans hO_at_73
                            have hRn_at_296 : Rn ty F296 (g) := hRn_at_73.kq hk296 (fun c9 h8 h9 => by first | omega | (dsimp only at h9; omega))
                            have Nua_at_296 : Nm ty F296 (ua) (zS g ua) := hk296 _ _ (by omega) (by first | omega | (dsimp only; omega)) Nua_at_73
                            have N16ua_at_296 : Nm ty F296 (16 + ua) (((bS g ua : Nat) : Int)) := hk296 _ _ (by omega) (by first | omega | (dsimp only; omega)) N16ua_at_73
                            have h102_at_296 : F296 (102) = .inl (ty 0, 1400, .inl (tt)) := (hf296 (102) (by omega) (by omega) (by omega)).trans h102_at_73
                            have h103_at_296 : F296 (103) = .inl (ty 0, 700, .inl (dd)) := (hf296 (103) (by omega) (by omega) (by omega)).trans h103_at_73
                            have N32_at_296 : Nm ty F296 (32) (zS g ua) := hk296 _ _ (by omega) (by first | omega | (dsimp only; omega)) N32_at_73
                            refine lv_goto (tgt := 319) hx hb d_M_change_299 (by decide) ?_
                            refine lv_aload_n hx hb d_M_change_319 rfl (lv_at hl 0 rfl) ?_
                            refine lv_iload_n hx hb d_M_change_320 rfl (lv_at hl 1 rfl) ?_
                            refine pw_calli hw (va_runV (As := [.int (iI ((uto : Int)))]) (rest := []) ⟨hx, hb, hml, hown, hq⟩ (c_M_lay l D ty ad M F296 H.size hM (0) ((nS g : Int)) (pS g) hO_at_296 (uto) (zS g ua) (1) (g) (by omega) (by omega) N32_at_296 N33 hRn_at_296 (hmx) (md_1)) (cwV 1 hq (gV ml_M_89 im_M_lay se_M_lay in_M m_M_lay) rfl rfl rfl (by decide +kernel) ⟨Nat.le_of_ble_eq_true rfl, Nat.le_of_ble_eq_true rfl⟩) (pw_preV hw (by omega) hO_at_296 rfl) rfl rfl hl.1 rfl (lv_room (Nat.le_of_ble_eq_true rfl)) d_M_change_321 ⟨Nat.le_of_ble_eq_true rfl, Nat.le_of_ble_eq_true rfl⟩) (fun r321 F321 H locs q321 hw => ?_)
                            obtain ⟨er321, hRn, hf321⟩ := q321
                            have hO_at_321 : F321 (98) = .inr (6, [.int (iI (0)), .ref (ad (99)), .ref (ad (100)), .ref (ad (101)), .ref (ad (102)), .int (iI ((nS g : Int))), .int (iI (pS g)), .ref (ad (103))]) := (hf321 (98) (by omega) (by omega) (by omega)).trans hO_at_296
                            have h102_at_321 : F321 (102) = .inl (ty 0, 1400, .inl (tt)) := (hf321 (102) (by omega) (by omega) (by omega)).trans h102_at_296
                            have h103_at_321 : F321 (103) = .inl (ty 0, 700, .inl (dd)) := (hf321 (103) (by omega) (by omega) (by omega)).trans h103_at_296
                            rw [← hQ]
                            exact pw_iret hx hb hr hlocks hw (by
                              rw [o_change_ok ⟨hRto, hRa⟩ ⟨by omega, by omega⟩ hd9 (u := uto) (x := ua) (by omega) (by omega), show kd = 5 by omega, ch_5]
                              rw [flz_n (by omega)] at er321 hRn
                              exact ⟨er321, Mo.mk' (s_lay_t ..) hO_at_321 hRn h102_at_321 htt h103_at_321, fun y9 h1 => ((hf321 (y9) (by omega) (by omega) (by omega)).trans ((hf296 (y9) (by omega) (by omega) (by omega)).trans ((hf73 (y9) (by omega) (by omega) (by omega)).trans (hf63 (y9) (by omega) (by omega) (by omega))))).trans (hfr y9 (by omega))⟩) d_M_change_324
                          · skip
                            refine wz_tabOut (tgt := 302) hx hb d_M_change_77 (by omega) (by omega) (by omega) (by decide) ?_
                            refine lv_aload_n hx hb d_M_change_302 rfl (lv_at hl 0 rfl) ?_
                            refine wz_bipush (n := 32) hx hb d_M_change_303 (by decide) ?_
                            refine lv_iload_n hx hb d_M_change_305 rfl (lv_at hl 3 rfl) ?_
                            refine pw_calli hw (va_runS (As := [.int (iI ((ua : Int)))]) (rest := [.int (iI (32)), .ref (ad (98))]) ⟨hx, hb, hml, hown, hq⟩ (c_M_below l D ty ad M F73 H.size (ua) (by omega)) (va_cwS 1 hq (gS ml_M_82 st_M_below in_M m_M_below) rfl rfl rfl (by decide +kernel) ⟨Nat.le_of_ble_eq_true rfl, Nat.le_of_ble_eq_true rfl⟩) (pw_preS hw) rfl rfl hl.1 rfl (lv_room (Nat.le_of_ble_eq_true rfl)) d_M_change_306 ⟨Nat.le_of_ble_eq_true rfl, Nat.le_of_ble_eq_true rfl⟩) (fun r306 F306 H locs q306 hw => ?_)
                            obtain ⟨er306, eF306⟩ := q306
                            rw [eF306] at hw
                            clear eF306
                            subst er306
                            refine pw_callv hw (va_runV (As := [.int (iI (32)), .int (iI (((16 + ua : Nat) : Int)))]) (rest := []) ⟨hx, hb, hml, hown, hq⟩ (c_M_copy l D ty ad M F73 H.size hM (0) ((nS g : Int)) (pS g) hO_at_73 (32) (16 + ua) (by omega) (by omega) (by omega) (((bS g ua : Nat) : Int)) N16ua_at_73) (cwV 2 hq (gV ml_M_55 im_M_copy se_M_copy in_M m_M_copy) rfl rfl rfl (by decide +kernel) ⟨Nat.le_of_ble_eq_true rfl, Nat.le_of_ble_eq_true rfl⟩) (pw_preV hw (by omega) hO_at_73 rfl) rfl rfl hl.1 rfl (lv_room (Nat.le_of_ble_eq_true rfl)) d_M_change_309 ⟨Nat.le_of_ble_eq_true rfl, Nat.le_of_ble_eq_true rfl⟩) (fun F309 H locs q309 hw => ?_)
                            obtain ⟨N32, hk309, hf309⟩ := q309
                            have hO_at_309 : F309 (98) = .inr (6, [.int (iI (0)), .ref (ad (99)), .ref (ad (100)), .ref (ad (101)), .ref (ad (102)), .int (iI ((nS g : Int))), .int (iI (pS g)), .ref (ad (103))]) := (hf309 (98) (by omega) (by omega) (by omega)).trans hO_at_73
                            have hRn_at_309 : Rn ty F309 (g) := hRn_at_73.kq hk309 (fun c9 h8 h9 => by first | omega | (dsimp only at h9; omega))
                            have Nua_at_309 : Nm ty F309 (ua) (zS g ua) := hk309 _ _ (by omega) (by first | omega | (dsimp only; omega)) Nua_at_73
                            have N16ua_at_309 : Nm ty F309 (16 + ua) (((bS g ua : Nat) : Int)) := hk309 _ _ (by omega) (by first | omega | (dsimp only; omega)) N16ua_at_73
                            have h102_at_309 : F309 (102) = .inl (ty 0, 1400, .inl (tt)) := (hf309 (102) (by omega) (by omega) (by omega)).trans h102_at_73
                            have h103_at_309 : F309 (103) = .inl (ty 0, 700, .inl (dd)) := (hf309 (103) (by omega) (by omega) (by omega)).trans h103_at_73
                            have N33_at_309 : Nm ty F309 (33) (((bS g ua : Nat) : Int)) := hk309 _ _ (by omega) (by first | omega | (dsimp only; omega)) N33
                            refine lv_aload_n hx hb d_M_change_312 rfl (lv_at hl 0 rfl) ?_
                            refine wz_bipush (n := 33) hx hb d_M_change_313 (by decide) ?_
                            refine lv_lconst (v := iL 1) hx hb d_M_change_315 (by decide) ?_
                            obtain ⟨_, _, _, hA316⟩ := (N32).ma
                            refine pw_callv hw (va_runV (As := [.int (iI (33)), .long (iL (1))]) (rest := []) ⟨hx, hb, hml, hown, hq⟩ (c_M_setLong l D ty ad M F309 H.size hM (0) ((nS g : Int)) (pS g) hO_at_309 _ _ _ hA316 (33) (by omega) (1) (by omega)) (cwV 2 hq (gV ml_M_30 im_M_setLong se_M_setLong in_M m_M_setLong) rfl rfl rfl (by decide +kernel) ⟨Nat.le_of_ble_eq_true rfl, Nat.le_of_ble_eq_true rfl⟩) (pw_preV hw (by omega) hO_at_309 rfl) rfl rfl hl.1 rfl (lv_room (Nat.le_of_ble_eq_true rfl)) d_M_change_316 ⟨Nat.le_of_ble_eq_true rfl, Nat.le_of_ble_eq_true rfl⟩) (fun F316 H locs q316 hw => ?_)
                            obtain ⟨N33, hk316, hf316⟩ := q316
                            have hO_at_316 : F316 (98) = .inr (6, [.int (iI (0)), .ref (ad (99)), .ref (ad (100)), .ref (ad (101)), .ref (ad (102)), .int (iI ((nS g : Int))), .int (iI (pS g)), .ref (ad (103))]) := (hf316 (98) (by omega) (by omega) (by omega)).trans hO_at_309
                            have hRn_at_316 : Rn ty F316 (g) := hRn_at_309.kq hk316 (fun c9 h8 h9 => by first | omega | (dsimp only at h9; omega))
                            have Nua_at_316 : Nm ty F316 (ua) (zS g ua) := hk316 _ _ (by omega) (by first | omega | (dsimp only; omega)) Nua_at_309
                            have N16ua_at_316 : Nm ty F316 (16 + ua) (((bS g ua : Nat) : Int)) := hk316 _ _ (by omega) (by first | omega | (dsimp only; omega)) N16ua_at_309
                            have h102_at_316 : F316 (102) = .inl (ty 0, 1400, .inl (tt)) := (hf316 (102) (by omega) (by omega) (by omega)).trans h102_at_309
                            have h103_at_316 : F316 (103) = .inl (ty 0, 700, .inl (dd)) := (hf316 (103) (by omega) (by omega) (by omega)).trans h103_at_309
                            have N32_at_316 : Nm ty F316 (32) (((bS g ua : Nat) : Int)) := hk316 _ _ (by omega) (by first | omega | (dsimp only; omega)) N32
                            refine lv_aload_n hx hb d_M_change_319 rfl (lv_at hl 0 rfl) ?_
                            refine lv_iload_n hx hb d_M_change_320 rfl (lv_at hl 1 rfl) ?_
                            refine pw_calli hw (va_runV (As := [.int (iI ((uto : Int)))]) (rest := []) ⟨hx, hb, hml, hown, hq⟩ (c_M_lay l D ty ad M F316 H.size hM (0) ((nS g : Int)) (pS g) hO_at_316 (uto) (((bS g ua : Nat) : Int)) (1) (g) (by omega) (by omega) N32_at_316 N33 hRn_at_316 (hmb) (md_1)) (cwV 1 hq (gV ml_M_89 im_M_lay se_M_lay in_M m_M_lay) rfl rfl rfl (by decide +kernel) ⟨Nat.le_of_ble_eq_true rfl, Nat.le_of_ble_eq_true rfl⟩) (pw_preV hw (by omega) hO_at_316 rfl) rfl rfl hl.1 rfl (lv_room (Nat.le_of_ble_eq_true rfl)) d_M_change_321 ⟨Nat.le_of_ble_eq_true rfl, Nat.le_of_ble_eq_true rfl⟩) (fun r321 F321 H locs q321 hw => ?_)
                            obtain ⟨er321, hRn, hf321⟩ := q321
                            have hO_at_321 : F321 (98) = .inr (6, [.int (iI (0)), .ref (ad (99)), .ref (ad (100)), .ref (ad (101)), .ref (ad (102)), .int (iI ((nS g : Int))), .int (iI (pS g)), .ref (ad (103))]) := (hf321 (98) (by omega) (by omega) (by omega)).trans hO_at_316
                            have h102_at_321 : F321 (102) = .inl (ty 0, 1400, .inl (tt)) := (hf321 (102) (by omega) (by omega) (by omega)).trans h102_at_316
                            have h103_at_321 : F321 (103) = .inl (ty 0, 700, .inl (dd)) := (hf321 (103) (by omega) (by omega) (by omega)).trans h103_at_316
                            rw [← hQ]
                            exact pw_iret hx hb hr hlocks hw (by
                              rw [o_change_ok ⟨hRto, hRa⟩ ⟨by omega, by omega⟩ hd9 (u := uto) (x := ua) (by omega) (by omega), show kd = 6 by omega, ch_6]
                              rw [flz_n (by omega)] at er321 hRn
                              exact ⟨er321, Mo.mk' (s_lay_t ..) hO_at_321 hRn h102_at_321 htt h103_at_321, fun y9 h1 => ((hf321 (y9) (by omega) (by omega) (by omega)).trans ((hf316 (y9) (by omega) (by omega) (by omega)).trans ((hf309 (y9) (by omega) (by omega) (by omega)).trans ((hf73 (y9) (by omega) (by omega) (by omega)).trans (hf63 (y9) (by omega) (by omega) (by omega)))))).trans (hfr y9 (by omega))⟩) d_M_change_324
              refine wz_icmp_ne (tgt := 59) hx hb d_M_change_44 (by decide) (by omega) (by omega) (by omega) (by omega) (fun c44 => ?_) (fun c44 => ?_)
              · have hd9 : ¬ (kd = 2 ∧ zS g ua = 0) := by omega
                exact K59  _ _ _ ls (hd9) (fun y9 h1 => show F30 (y9) = F (y9) from by rw [eF30]; exact va_up_ne _ _ (by omega)) m30_98 hRn_at_30 Nua N16ua h102_at_30 h103_at_30 hw hl
              · refine lv_aload_n hx hb d_M_change_47 rfl (lv_at hl 0 rfl) ?_
                refine pw_get (ci := 6) (C := R_M) (T := T_M) (N := 8) hx hb hq i_M hown hw (by omega) m30_98 rfl 2 (by decide) (hq _ fl_M_13) (fun _ h9 => h9) rfl d_M_change_48 ?_
                refine lv_iload_n hx hb d_M_change_51 rfl (lv_at hl 3 rfl) ?_
                obtain ⟨P52, S52, G52, ⟨a52_99, a52_100, a52_101⟩, ⟨ns, hS52, h352, hD52, ht52, hv52⟩, hG52⟩ := id Nua
                have hz52 := bvP_z ht52
                rw [hv52] at hz52
                refine pw_iald (k := ua) hx hb hw 0 (by omega) a52_100 rfl (iI_in (by omega) (by omega) (by omega)) ((iI_cl (by omega) (by omega)).trans (by omega)) d_M_change_52 ?_
                refine lv_topi (fun x52 ex52 => ?_)
                obtain rfl : x52 = iI ((ns : Int)) := ex52.trans (hS52)
                refine wz_if_ne (tgt := 59) hx hb d_M_change_53 (by decide) (by omega) (by omega) (fun c53 => ?_) (fun c53 => ?_)
                · have hd9 : ¬ (kd = 2 ∧ zS g ua = 0) := by omega
                  exact K59  _ _ _ ls (hd9) (fun y9 h1 => show F30 (y9) = F (y9) from by rw [eF30]; exact va_up_ne _ _ (by omega)) m30_98 hRn_at_30 Nua N16ua h102_at_30 h103_at_30 hw hl
                · have hd9 : kd = 2 ∧ zS g ua = 0 := by omega
                  refine wz_bipush (n := -2) hx hb d_M_change_56 (by decide) ?_
                  rw [← hQ]
                  exact pw_iret hx hb hr hlocks hw (by
                    rw [o_change, cif_pos ⟨⟨hRto, hRa⟩, by omega, by omega⟩, show a.toNat = ua by omega, cif_pos hd9]
                    exact ⟨rfl, Mo.mk' ⟨rfl, rfl, rfl⟩ m30_98 hRn_at_30 h102_at_30 htt h103_at_30, fun y9 h1 => show F30 (y9) = F (y9) from by rw [eF30]; exact va_up_ne _ _ (by omega)⟩) d_M_change_58
            · exact absurd c37 (by omega)
  rw [hH, hlo] at hgo
  exact hgo
set_option maxHeartbeats 4000000 in
set_option maxRecDepth 100000 in
/-- combine(to, kind, a, b) -/
theorem c_M_combine (l : Launch) (D : va_G) (ty : Nat → ClassId) (ad : Nat → Nat) (M : Nat) (F : Nat → va_E) (sz : Nat) (hM : 103 < M) (g : Sg) (co : Int) (hMo : Mo ty ad F co g) (hok : okS g) (to : Int) (hto : -2147483648 ≤ to ∧ to < 2147483648) (kd : Int) (hkd : -2147483648 ≤ kd ∧ kd < 2147483648) (a : Int) (ha : -2147483648 ≤ a ∧ a < 2147483648) (b1 : Int) (hb1 : -2147483648 ≤ b1 ∧ b1 < 2147483648) :
    CI l y_M_combine w_M_combine ({ frames := 6, cells := 0, slots := 0, locals := 151 } : Room) [.ref (ad (98)), .int (iI (to)), .int (iI (kd)), .int (iI (a)), .int (iI (b1))] D ty ad M F sz (fun r F1 => r = iI (o_combine g to kd a b1).2.1 ∧ Mo ty ad F1 (o_combine g to kd a b1).1 (o_combine g to kd a b1).2.2 ∧ frP F F1) := by
  refine Met.ofW (cc := b_M_combine) (maxL := 7) (ret := (some .int)) (by decide) rfl ?_
  intro p e s m args below meth c s₁ B hml hv
  obtain ⟨rfl, hsz, hP, hK, hD0⟩ := hv
  have hx := B.exec
  have hb := B.bytes
  have hr := B.returns
  have hts := atoms_spec (ws := w_M_combine) B.pre
  have hq : ∀ w ∈ wT, w.before _ s = true := fun w h => hts w (List.mem_cons_of_mem _ h)
  have hown : s.vm.findClass R_M = some m.cls := findClass_of_methodNamed B.named
  have hlocks := B.notSynchronized
  subst hsz
  have hw := pw_start hP hK hD0
  have hl := lv_entry ([.ref (ad (98)), .int (iI (to)), .int (iI (kd)), .int (iI (a)), .int (iI (b1))]) (n := 7) (Nat.le_of_ble_eq_true rfl)
  rw [lg_entry_eq]
  generalize (lg_sl ([.ref (ad (98)), .int (iI (to)), .int (iI (kd)), .int (iI (a)), .int (iI (b1))]) ++ List.replicate (7 - (lg_sl ([.ref (ad (98)), .int (iI (to)), .int (iI (kd)), .int (iI (a)), .int (iI (b1))])).length) Slot.unset).toArray = ls at hl ⊢
  have hl : lv_has ls 7 [(0, .ref (ad (98))), (1, .int (iI (to))), (2, .int (iI (kd))), (3, .int (iI (a))), (4, .int (iI (b1)))] := hl
  change W p l e ({ frames := 6, cells := 0, slots := 0, locals := 151 } : Room) s m ([.ref (ad (98)), .int (iI (to)), .int (iI (kd)), .int (iI (a)), .int (iI (b1))]).toArray below meth c s.heap [] 0 0 (MQ below (va_Qi (fun r F1 => r = iI (o_combine g to kd a b1).2.1 ∧ Mo ty ad F1 (o_combine g to kd a b1).1 (o_combine g to kd a b1).2.2 ∧ frP F F1) (pAt D classes (tysL ty) ad M (pA ad M s.heap.size)) (pA ad M s.heap.size)) ([.ref (ad (98)), .int (iI (to)), .int (iI (kd)), .int (iI (a)), .int (iI (b1))]).toArray s 0 0 (pA ad M s.heap.size)) (F0 m 0 ls [])
  generalize hQ : MQ below (va_Qi (fun r F1 => r = iI (o_combine g to kd a b1).2.1 ∧ Mo ty ad F1 (o_combine g to kd a b1).1 (o_combine g to kd a b1).2.2 ∧ frP F F1) (pAt D classes (tysL ty) ad M (pA ad M s.heap.size)) (pA ad M s.heap.size)) ([.ref (ad (98)), .int (iI (to)), .int (iI (kd)), .int (iI (a)), .int (iI (b1))]).toArray s 0 0 (pA ad M s.heap.size) = Q
  obtain ⟨H, hH⟩ : ∃ H, H = s.heap := ⟨_, rfl⟩
  obtain ⟨locs, hlo⟩ : ∃ z : List Loc, z = [] := ⟨_, rfl⟩
  have hw : pw D classes (tysL ty) ad M F (pA ad M s.heap.size) s H locs := by rw [hH, hlo]; exact hw
  have hgo : W p l e ({ frames := 6, cells := 0, slots := 0, locals := 151 } : Room) s m ([.ref (ad (98)), .int (iI (to)), .int (iI (kd)), .int (iI (a)), .int (iI (b1))]).toArray below meth c H locs 0 0 Q (F0 m 0 ls []) := by
    obtain ⟨hO, hRn, tt, dd, h102, htt, h103⟩ := id hMo
    have N0 := (hRn 0 (by decide)).1
    have hn14 := hok.2.1
    refine lv_iload_n hx hb d_M_combine_0 rfl (lv_at hl 1 rfl) ?_
    refine pw_calli hw (va_runS (As := [.int (iI (to))]) (rest := []) ⟨hx, hb, hml, hown, hq⟩ (c_M_isRegister l D ty ad M F H.size (to) (by omega)) (va_cwS 1 hq (gS ml_M_86 st_M_isRegister in_M m_M_isRegister) rfl rfl rfl (by decide +kernel) ⟨Nat.le_of_ble_eq_true rfl, Nat.le_of_ble_eq_true rfl⟩) (pw_preS hw) rfl rfl hl.1 rfl (lv_room (Nat.le_of_ble_eq_true rfl)) d_M_combine_1 ⟨Nat.le_of_ble_eq_true rfl, Nat.le_of_ble_eq_true rfl⟩) (fun r1 F1 H locs q1 hw => ?_)
    obtain ⟨er1, eF1⟩ := q1
    rw [eF1] at hw
    clear eF1
    subst er1
    have hrg4 := rg_le to
    refine wz_if_eq (tgt := 36) hx hb d_M_combine_4 (by decide) (by omega) (by omega) (fun c4 => ?_) (fun c4 => ?_)
    · have hRe : ¬ isR to := rg_z c4
      refine wz_iconst (n := 0) hx hb d_M_combine_36 ?_
      refine lv_istore (lv' := [(5, .int (iI (0))), (0, .ref (ad (98))), (1, .int (iI (to))), (2, .int (iI (kd))), (3, .int (iI (a))), (4, .int (iI (b1)))]) hx hb d_M_combine_37 hl (by decide) rfl (fun ls hl => ?_)
      refine lv_aload_n hx hb d_M_combine_39 rfl (lv_at hl 1 rfl) ?_
      refine lv_iload hx hb d_M_combine_40 (lv_at hl 0 rfl) ?_
      refine wz_if_eq (tgt := 78) hx hb d_M_combine_42 (by decide) (by omega) (by omega) (fun c42 => ?_) (fun c42 => ?_)
      · refine wz_iconst (n := 1) hx hb d_M_combine_78 ?_
        refine pw_put (ci := 6) (C := R_M) (T := T_M) (N := 8) (ty := .int) (fs' := [.int (iI (1)), .ref (ad (99)), .ref (ad (100)), .ref (ad (101)), .ref (ad (102)), .int (iI ((nS g : Int))), .int (iI (pS g)), .ref (ad (103))]) hx hb hq i_M ft_M ft_M_ok n_M hown hw (by omega) hO rfl 0 (by decide) (hq _ fl_M_34) (fun _ h9 => h9) rfl (by decide +kernel) rfl rfl (Nat.le_of_ble_eq_true rfl) rfl d_M_combine_79 (fun F79 H locs eF79 hw => ?_)
        have m79_98 : F79 (98) = .inr (6, [.int (iI (1)), .ref (ad (99)), .ref (ad (100)), .ref (ad (101)), .ref (ad (102)), .int (iI ((nS g : Int))), .int (iI (pS g)), .ref (ad (103))]) := by rw [eF79]; exact va_up_self ..
        have hRn_at_79 : Rn ty F79 (g) := hRn.m3 (show F79 (99) = F (99) from by rw [eF79]; exact va_up_ne _ _ (by omega)) (show F79 (100) = F (100) from by rw [eF79]; exact va_up_ne _ _ (by omega)) (show F79 (101) = F (101) from by rw [eF79]; exact va_up_ne _ _ (by omega))
        have N0_at_79 : Nm ty F79 (0) (zS g 0) := N0.m3 (show F79 (99) = F (99) from by rw [eF79]; exact va_up_ne _ _ (by omega)) (show F79 (100) = F (100) from by rw [eF79]; exact va_up_ne _ _ (by omega)) (show F79 (101) = F (101) from by rw [eF79]; exact va_up_ne _ _ (by omega))
        have h102_at_79 : F79 (102) = .inl (ty 0, 1400, .inl (tt)) := (show F79 (102) = F (102) from by rw [eF79]; exact va_up_ne _ _ (by omega)).trans h102
        have h103_at_79 : F79 (103) = .inl (ty 0, 700, .inl (dd)) := (show F79 (103) = F (103) from by rw [eF79]; exact va_up_ne _ _ (by omega)).trans h103
        refine lv_aload_n hx hb d_M_combine_82 rfl (lv_at hl 1 rfl) ?_
        refine pw_get (ci := 6) (C := R_M) (T := T_M) (N := 8) hx hb hq i_M hown hw (by omega) m79_98 rfl 0 (by decide) (hq _ fl_M_34) (fun _ h9 => h9) rfl d_M_combine_83 ?_
        refine wz_if_le (tgt := 91) hx hb d_M_combine_86 (by decide) (by omega) (by omega) (fun c86 => ?_) (fun c86 => ?_)
        · exact absurd c86 (by omega)
        · refine wz_iconst (n := 0) hx hb d_M_combine_89 ?_
          rw [← hQ]
          exact pw_iret hx hb hr hlocks hw (by
            rw [o_combine, cif_neg (fun h9 => by first | exact hRe h9.1.1 | exact hRe h9.1.2.1 | exact hRe h9.1.2.2 | (have := h9.2.1; omega) | exact h8e (h9.2.2 (by omega)))]
            exact ⟨rfl, Mo.mk' ⟨rfl, rfl, rfl⟩ m79_98 hRn_at_79 h102_at_79 htt h103_at_79, fun y9 h1 => show F79 (y9) = F (y9) from by rw [eF79]; exact va_up_ne _ _ (by omega)⟩) d_M_combine_90
      · exact absurd c42 (by omega)
    · have hRto : isR to := rg_nz c4
      refine lv_iload_n hx hb d_M_combine_7 rfl (lv_at hl 3 rfl) ?_
      refine pw_calli hw (va_runS (As := [.int (iI (a))]) (rest := []) ⟨hx, hb, hml, hown, hq⟩ (c_M_isRegister l D ty ad M F H.size (a) (by omega)) (va_cwS 1 hq (gS ml_M_86 st_M_isRegister in_M m_M_isRegister) rfl rfl rfl (by decide +kernel) ⟨Nat.le_of_ble_eq_true rfl, Nat.le_of_ble_eq_true rfl⟩) (pw_preS hw) rfl rfl hl.1 rfl (lv_room (Nat.le_of_ble_eq_true rfl)) d_M_combine_8 ⟨Nat.le_of_ble_eq_true rfl, Nat.le_of_ble_eq_true rfl⟩) (fun r8 F8 H locs q8 hw => ?_)
      obtain ⟨er8, eF8⟩ := q8
      rw [eF8] at hw
      clear eF8
      subst er8
      have hrg11 := rg_le a
      refine wz_if_eq (tgt := 36) hx hb d_M_combine_11 (by decide) (by omega) (by omega) (fun c11 => ?_) (fun c11 => ?_)
      · have hRe : ¬ isR a := rg_z c11
        refine wz_iconst (n := 0) hx hb d_M_combine_36 ?_
        refine lv_istore (lv' := [(5, .int (iI (0))), (0, .ref (ad (98))), (1, .int (iI (to))), (2, .int (iI (kd))), (3, .int (iI (a))), (4, .int (iI (b1)))]) hx hb d_M_combine_37 hl (by decide) rfl (fun ls hl => ?_)
        refine lv_aload_n hx hb d_M_combine_39 rfl (lv_at hl 1 rfl) ?_
        refine lv_iload hx hb d_M_combine_40 (lv_at hl 0 rfl) ?_
        refine wz_if_eq (tgt := 78) hx hb d_M_combine_42 (by decide) (by omega) (by omega) (fun c42 => ?_) (fun c42 => ?_)
        · refine wz_iconst (n := 1) hx hb d_M_combine_78 ?_
          refine pw_put (ci := 6) (C := R_M) (T := T_M) (N := 8) (ty := .int) (fs' := [.int (iI (1)), .ref (ad (99)), .ref (ad (100)), .ref (ad (101)), .ref (ad (102)), .int (iI ((nS g : Int))), .int (iI (pS g)), .ref (ad (103))]) hx hb hq i_M ft_M ft_M_ok n_M hown hw (by omega) hO rfl 0 (by decide) (hq _ fl_M_34) (fun _ h9 => h9) rfl (by decide +kernel) rfl rfl (Nat.le_of_ble_eq_true rfl) rfl d_M_combine_79 (fun F79 H locs eF79 hw => ?_)
          have m79_98 : F79 (98) = .inr (6, [.int (iI (1)), .ref (ad (99)), .ref (ad (100)), .ref (ad (101)), .ref (ad (102)), .int (iI ((nS g : Int))), .int (iI (pS g)), .ref (ad (103))]) := by rw [eF79]; exact va_up_self ..
          have hRn_at_79 : Rn ty F79 (g) := hRn.m3 (show F79 (99) = F (99) from by rw [eF79]; exact va_up_ne _ _ (by omega)) (show F79 (100) = F (100) from by rw [eF79]; exact va_up_ne _ _ (by omega)) (show F79 (101) = F (101) from by rw [eF79]; exact va_up_ne _ _ (by omega))
          have N0_at_79 : Nm ty F79 (0) (zS g 0) := N0.m3 (show F79 (99) = F (99) from by rw [eF79]; exact va_up_ne _ _ (by omega)) (show F79 (100) = F (100) from by rw [eF79]; exact va_up_ne _ _ (by omega)) (show F79 (101) = F (101) from by rw [eF79]; exact va_up_ne _ _ (by omega))
          have h102_at_79 : F79 (102) = .inl (ty 0, 1400, .inl (tt)) := (show F79 (102) = F (102) from by rw [eF79]; exact va_up_ne _ _ (by omega)).trans h102
          have h103_at_79 : F79 (103) = .inl (ty 0, 700, .inl (dd)) := (show F79 (103) = F (103) from by rw [eF79]; exact va_up_ne _ _ (by omega)).trans h103
          refine lv_aload_n hx hb d_M_combine_82 rfl (lv_at hl 1 rfl) ?_
          refine pw_get (ci := 6) (C := R_M) (T := T_M) (N := 8) hx hb hq i_M hown hw (by omega) m79_98 rfl 0 (by decide) (hq _ fl_M_34) (fun _ h9 => h9) rfl d_M_combine_83 ?_
          refine wz_if_le (tgt := 91) hx hb d_M_combine_86 (by decide) (by omega) (by omega) (fun c86 => ?_) (fun c86 => ?_)
          · exact absurd c86 (by omega)
          · refine wz_iconst (n := 0) hx hb d_M_combine_89 ?_
            rw [← hQ]
            exact pw_iret hx hb hr hlocks hw (by
              rw [o_combine, cif_neg (fun h9 => by first | exact hRe h9.1.1 | exact hRe h9.1.2.1 | exact hRe h9.1.2.2 | (have := h9.2.1; omega) | exact h8e (h9.2.2 (by omega)))]
              exact ⟨rfl, Mo.mk' ⟨rfl, rfl, rfl⟩ m79_98 hRn_at_79 h102_at_79 htt h103_at_79, fun y9 h1 => show F79 (y9) = F (y9) from by rw [eF79]; exact va_up_ne _ _ (by omega)⟩) d_M_combine_90
        · exact absurd c42 (by omega)
      · have hRa : isR a := rg_nz c11
        refine lv_iload hx hb d_M_combine_14 (lv_at hl 4 rfl) ?_
        refine pw_calli hw (va_runS (As := [.int (iI (b1))]) (rest := []) ⟨hx, hb, hml, hown, hq⟩ (c_M_isRegister l D ty ad M F H.size (b1) (by omega)) (va_cwS 1 hq (gS ml_M_86 st_M_isRegister in_M m_M_isRegister) rfl rfl rfl (by decide +kernel) ⟨Nat.le_of_ble_eq_true rfl, Nat.le_of_ble_eq_true rfl⟩) (pw_preS hw) rfl rfl hl.1 rfl (lv_room (Nat.le_of_ble_eq_true rfl)) d_M_combine_16 ⟨Nat.le_of_ble_eq_true rfl, Nat.le_of_ble_eq_true rfl⟩) (fun r16 F16 H locs q16 hw => ?_)
        obtain ⟨er16, eF16⟩ := q16
        rw [eF16] at hw
        clear eF16
        subst er16
        have hrg19 := rg_le b1
        refine wz_if_eq (tgt := 36) hx hb d_M_combine_19 (by decide) (by omega) (by omega) (fun c19 => ?_) (fun c19 => ?_)
        · have hRe : ¬ isR b1 := rg_z c19
          refine wz_iconst (n := 0) hx hb d_M_combine_36 ?_
          refine lv_istore (lv' := [(5, .int (iI (0))), (0, .ref (ad (98))), (1, .int (iI (to))), (2, .int (iI (kd))), (3, .int (iI (a))), (4, .int (iI (b1)))]) hx hb d_M_combine_37 hl (by decide) rfl (fun ls hl => ?_)
          refine lv_aload_n hx hb d_M_combine_39 rfl (lv_at hl 1 rfl) ?_
          refine lv_iload hx hb d_M_combine_40 (lv_at hl 0 rfl) ?_
          refine wz_if_eq (tgt := 78) hx hb d_M_combine_42 (by decide) (by omega) (by omega) (fun c42 => ?_) (fun c42 => ?_)
          · refine wz_iconst (n := 1) hx hb d_M_combine_78 ?_
            refine pw_put (ci := 6) (C := R_M) (T := T_M) (N := 8) (ty := .int) (fs' := [.int (iI (1)), .ref (ad (99)), .ref (ad (100)), .ref (ad (101)), .ref (ad (102)), .int (iI ((nS g : Int))), .int (iI (pS g)), .ref (ad (103))]) hx hb hq i_M ft_M ft_M_ok n_M hown hw (by omega) hO rfl 0 (by decide) (hq _ fl_M_34) (fun _ h9 => h9) rfl (by decide +kernel) rfl rfl (Nat.le_of_ble_eq_true rfl) rfl d_M_combine_79 (fun F79 H locs eF79 hw => ?_)
            have m79_98 : F79 (98) = .inr (6, [.int (iI (1)), .ref (ad (99)), .ref (ad (100)), .ref (ad (101)), .ref (ad (102)), .int (iI ((nS g : Int))), .int (iI (pS g)), .ref (ad (103))]) := by rw [eF79]; exact va_up_self ..
            have hRn_at_79 : Rn ty F79 (g) := hRn.m3 (show F79 (99) = F (99) from by rw [eF79]; exact va_up_ne _ _ (by omega)) (show F79 (100) = F (100) from by rw [eF79]; exact va_up_ne _ _ (by omega)) (show F79 (101) = F (101) from by rw [eF79]; exact va_up_ne _ _ (by omega))
            have N0_at_79 : Nm ty F79 (0) (zS g 0) := N0.m3 (show F79 (99) = F (99) from by rw [eF79]; exact va_up_ne _ _ (by omega)) (show F79 (100) = F (100) from by rw [eF79]; exact va_up_ne _ _ (by omega)) (show F79 (101) = F (101) from by rw [eF79]; exact va_up_ne _ _ (by omega))
            have h102_at_79 : F79 (102) = .inl (ty 0, 1400, .inl (tt)) := (show F79 (102) = F (102) from by rw [eF79]; exact va_up_ne _ _ (by omega)).trans h102
            have h103_at_79 : F79 (103) = .inl (ty 0, 700, .inl (dd)) := (show F79 (103) = F (103) from by rw [eF79]; exact va_up_ne _ _ (by omega)).trans h103
            refine lv_aload_n hx hb d_M_combine_82 rfl (lv_at hl 1 rfl) ?_
            refine pw_get (ci := 6) (C := R_M) (T := T_M) (N := 8) hx hb hq i_M hown hw (by omega) m79_98 rfl 0 (by decide) (hq _ fl_M_34) (fun _ h9 => h9) rfl d_M_combine_83 ?_
            refine wz_if_le (tgt := 91) hx hb d_M_combine_86 (by decide) (by omega) (by omega) (fun c86 => ?_) (fun c86 => ?_)
            · exact absurd c86 (by omega)
            · refine wz_iconst (n := 0) hx hb d_M_combine_89 ?_
              rw [← hQ]
              exact pw_iret hx hb hr hlocks hw (by
                rw [o_combine, cif_neg (fun h9 => by first | exact hRe h9.1.1 | exact hRe h9.1.2.1 | exact hRe h9.1.2.2 | (have := h9.2.1; omega) | exact h8e (h9.2.2 (by omega)))]
                exact ⟨rfl, Mo.mk' ⟨rfl, rfl, rfl⟩ m79_98 hRn_at_79 h102_at_79 htt h103_at_79, fun y9 h1 => show F79 (y9) = F (y9) from by rw [eF79]; exact va_up_ne _ _ (by omega)⟩) d_M_combine_90
          · exact absurd c42 (by omega)
        · have hRb1 : isR b1 := rg_nz c19
          refine lv_iload_n hx hb d_M_combine_22 rfl (lv_at hl 2 rfl) ?_
          refine wz_if_lt (tgt := 36) hx hb d_M_combine_23 (by decide) (by omega) (by omega) (fun c23 => ?_) (fun c23 => ?_)
          · refine wz_iconst (n := 0) hx hb d_M_combine_36 ?_
            refine lv_istore (lv' := [(5, .int (iI (0))), (0, .ref (ad (98))), (1, .int (iI (to))), (2, .int (iI (kd))), (3, .int (iI (a))), (4, .int (iI (b1)))]) hx hb d_M_combine_37 hl (by decide) rfl (fun ls hl => ?_)
            refine lv_aload_n hx hb d_M_combine_39 rfl (lv_at hl 1 rfl) ?_
            refine lv_iload hx hb d_M_combine_40 (lv_at hl 0 rfl) ?_
            refine wz_if_eq (tgt := 78) hx hb d_M_combine_42 (by decide) (by omega) (by omega) (fun c42 => ?_) (fun c42 => ?_)
            · refine wz_iconst (n := 1) hx hb d_M_combine_78 ?_
              refine pw_put (ci := 6) (C := R_M) (T := T_M) (N := 8) (ty := .int) (fs' := [.int (iI (1)), .ref (ad (99)), .ref (ad (100)), .ref (ad (101)), .ref (ad (102)), .int (iI ((nS g : Int))), .int (iI (pS g)), .ref (ad (103))]) hx hb hq i_M ft_M ft_M_ok n_M hown hw (by omega) hO rfl 0 (by decide) (hq _ fl_M_34) (fun _ h9 => h9) rfl (by decide +kernel) rfl rfl (Nat.le_of_ble_eq_true rfl) rfl d_M_combine_79 (fun F79 H locs eF79 hw => ?_)
              have m79_98 : F79 (98) = .inr (6, [.int (iI (1)), .ref (ad (99)), .ref (ad (100)), .ref (ad (101)), .ref (ad (102)), .int (iI ((nS g : Int))), .int (iI (pS g)), .ref (ad (103))]) := by rw [eF79]; exact va_up_self ..
              have hRn_at_79 : Rn ty F79 (g) := hRn.m3 (show F79 (99) = F (99) from by rw [eF79]; exact va_up_ne _ _ (by omega)) (show F79 (100) = F (100) from by rw [eF79]; exact va_up_ne _ _ (by omega)) (show F79 (101) = F (101) from by rw [eF79]; exact va_up_ne _ _ (by omega))
              have N0_at_79 : Nm ty F79 (0) (zS g 0) := N0.m3 (show F79 (99) = F (99) from by rw [eF79]; exact va_up_ne _ _ (by omega)) (show F79 (100) = F (100) from by rw [eF79]; exact va_up_ne _ _ (by omega)) (show F79 (101) = F (101) from by rw [eF79]; exact va_up_ne _ _ (by omega))
              have h102_at_79 : F79 (102) = .inl (ty 0, 1400, .inl (tt)) := (show F79 (102) = F (102) from by rw [eF79]; exact va_up_ne _ _ (by omega)).trans h102
              have h103_at_79 : F79 (103) = .inl (ty 0, 700, .inl (dd)) := (show F79 (103) = F (103) from by rw [eF79]; exact va_up_ne _ _ (by omega)).trans h103
              refine lv_aload_n hx hb d_M_combine_82 rfl (lv_at hl 1 rfl) ?_
              refine pw_get (ci := 6) (C := R_M) (T := T_M) (N := 8) hx hb hq i_M hown hw (by omega) m79_98 rfl 0 (by decide) (hq _ fl_M_34) (fun _ h9 => h9) rfl d_M_combine_83 ?_
              refine wz_if_le (tgt := 91) hx hb d_M_combine_86 (by decide) (by omega) (by omega) (fun c86 => ?_) (fun c86 => ?_)
              · exact absurd c86 (by omega)
              · refine wz_iconst (n := 0) hx hb d_M_combine_89 ?_
                rw [← hQ]
                exact pw_iret hx hb hr hlocks hw (by
                  rw [o_combine, cif_neg (fun h9 => by first | exact hRe h9.1.1 | exact hRe h9.1.2.1 | exact hRe h9.1.2.2 | (have := h9.2.1; omega) | exact h8e (h9.2.2 (by omega)))]
                  exact ⟨rfl, Mo.mk' ⟨rfl, rfl, rfl⟩ m79_98 hRn_at_79 h102_at_79 htt h103_at_79, fun y9 h1 => show F79 (y9) = F (y9) from by rw [eF79]; exact va_up_ne _ _ (by omega)⟩) d_M_combine_90
            · exact absurd c42 (by omega)
          · refine lv_iload_n hx hb d_M_combine_26 rfl (lv_at hl 2 rfl) ?_
            refine wz_bipush (n := 8) hx hb d_M_combine_27 (by decide) ?_
            refine wz_icmp_gt (tgt := 36) hx hb d_M_combine_29 (by decide) (by omega) (by omega) (by omega) (by omega) (fun c29 => ?_) (fun c29 => ?_)
            · refine wz_iconst (n := 0) hx hb d_M_combine_36 ?_
              refine lv_istore (lv' := [(5, .int (iI (0))), (0, .ref (ad (98))), (1, .int (iI (to))), (2, .int (iI (kd))), (3, .int (iI (a))), (4, .int (iI (b1)))]) hx hb d_M_combine_37 hl (by decide) rfl (fun ls hl => ?_)
              refine lv_aload_n hx hb d_M_combine_39 rfl (lv_at hl 1 rfl) ?_
              refine lv_iload hx hb d_M_combine_40 (lv_at hl 0 rfl) ?_
              refine wz_if_eq (tgt := 78) hx hb d_M_combine_42 (by decide) (by omega) (by omega) (fun c42 => ?_) (fun c42 => ?_)
              · refine wz_iconst (n := 1) hx hb d_M_combine_78 ?_
                refine pw_put (ci := 6) (C := R_M) (T := T_M) (N := 8) (ty := .int) (fs' := [.int (iI (1)), .ref (ad (99)), .ref (ad (100)), .ref (ad (101)), .ref (ad (102)), .int (iI ((nS g : Int))), .int (iI (pS g)), .ref (ad (103))]) hx hb hq i_M ft_M ft_M_ok n_M hown hw (by omega) hO rfl 0 (by decide) (hq _ fl_M_34) (fun _ h9 => h9) rfl (by decide +kernel) rfl rfl (Nat.le_of_ble_eq_true rfl) rfl d_M_combine_79 (fun F79 H locs eF79 hw => ?_)
                have m79_98 : F79 (98) = .inr (6, [.int (iI (1)), .ref (ad (99)), .ref (ad (100)), .ref (ad (101)), .ref (ad (102)), .int (iI ((nS g : Int))), .int (iI (pS g)), .ref (ad (103))]) := by rw [eF79]; exact va_up_self ..
                have hRn_at_79 : Rn ty F79 (g) := hRn.m3 (show F79 (99) = F (99) from by rw [eF79]; exact va_up_ne _ _ (by omega)) (show F79 (100) = F (100) from by rw [eF79]; exact va_up_ne _ _ (by omega)) (show F79 (101) = F (101) from by rw [eF79]; exact va_up_ne _ _ (by omega))
                have N0_at_79 : Nm ty F79 (0) (zS g 0) := N0.m3 (show F79 (99) = F (99) from by rw [eF79]; exact va_up_ne _ _ (by omega)) (show F79 (100) = F (100) from by rw [eF79]; exact va_up_ne _ _ (by omega)) (show F79 (101) = F (101) from by rw [eF79]; exact va_up_ne _ _ (by omega))
                have h102_at_79 : F79 (102) = .inl (ty 0, 1400, .inl (tt)) := (show F79 (102) = F (102) from by rw [eF79]; exact va_up_ne _ _ (by omega)).trans h102
                have h103_at_79 : F79 (103) = .inl (ty 0, 700, .inl (dd)) := (show F79 (103) = F (103) from by rw [eF79]; exact va_up_ne _ _ (by omega)).trans h103
                refine lv_aload_n hx hb d_M_combine_82 rfl (lv_at hl 1 rfl) ?_
                refine pw_get (ci := 6) (C := R_M) (T := T_M) (N := 8) hx hb hq i_M hown hw (by omega) m79_98 rfl 0 (by decide) (hq _ fl_M_34) (fun _ h9 => h9) rfl d_M_combine_83 ?_
                refine wz_if_le (tgt := 91) hx hb d_M_combine_86 (by decide) (by omega) (by omega) (fun c86 => ?_) (fun c86 => ?_)
                · exact absurd c86 (by omega)
                · refine wz_iconst (n := 0) hx hb d_M_combine_89 ?_
                  rw [← hQ]
                  exact pw_iret hx hb hr hlocks hw (by
                    rw [o_combine, cif_neg (fun h9 => by first | exact hRe h9.1.1 | exact hRe h9.1.2.1 | exact hRe h9.1.2.2 | (have := h9.2.1; omega) | exact h8e (h9.2.2 (by omega)))]
                    exact ⟨rfl, Mo.mk' ⟨rfl, rfl, rfl⟩ m79_98 hRn_at_79 h102_at_79 htt h103_at_79, fun y9 h1 => show F79 (y9) = F (y9) from by rw [eF79]; exact va_up_ne _ _ (by omega)⟩) d_M_combine_90
              · exact absurd c42 (by omega)
            · obtain ⟨uto, huto⟩ : ∃ u : Nat, to = (u : Int) := ⟨(to).toNat, by have := hRto.1; omega⟩
              have h16to : uto < 16 := by have := hRto.2; omega
              obtain ⟨ua, hua⟩ : ∃ u : Nat, a = (u : Int) := ⟨(a).toNat, by have := hRa.1; omega⟩
              have h16a : ua < 16 := by have := hRa.2; omega
              obtain ⟨ub1, hub1⟩ : ∃ u : Nat, b1 = (u : Int) := ⟨(b1).toNat, by have := hRb1.1; omega⟩
              have h16b1 : ub1 < 16 := by have := hRb1.2; omega
              rw [huto, hua, hub1] at hl
              have hxb := (hok.at h16a).2.2.1
              have hyb := (hok.at h16b1).2.2.1
              have Nua := (hRn ua h16a).1
              have N16ua := (hRn ua h16a).2
              have Nub1 := (hRn ub1 h16b1).1
              have N16ub1 := (hRn ub1 h16b1).2
              have K91 : ∀  (F91 : Nat → va_E) (H : Heap) (locs : List Loc) (ls : Array Slot), (kd = 8 → bS g ua = 1 ∧ bS g ub1 = 1) → (∀ y, y ≠ 98 → F91 y = F y) → F91 (98) = .inr (6, [.int (iI (0)), .ref (ad (99)), .ref (ad (100)), .ref (ad (101)), .ref (ad (102)), .int (iI ((nS g : Int))), .int (iI (pS g)), .ref (ad (103))]) → Rn ty F91 (g) → Nm ty F91 (ua) (zS g ua) → Nm ty F91 (16 + ua) (((bS g ua : Nat) : Int)) → Nm ty F91 (ub1) (zS g ub1) → Nm ty F91 (16 + ub1) (((bS g ub1 : Nat) : Int)) → F91 (102) = .inl (ty 0, 1400, .inl (tt)) → F91 (103) = .inl (ty 0, 700, .inl (dd)) → pw D classes (tysL ty) ad M F91 (pA ad M s.heap.size) s H locs → lv_has ls 7 [(0, .ref (ad (98))), (1, .int (iI ((uto : Int)))), (2, .int (iI (kd))), (3, .int (iI ((ua : Int)))), (4, .int (iI ((ub1 : Int))))] → W p l e ({ frames := 6, cells := 0, slots := 0, locals := 151 } : Room) s m ([.ref (ad (98)), .int (iI (to)), .int (iI (kd)), .int (iI (a)), .int (iI (b1))]).toArray below meth c H locs 0 0 Q (F0 m 91 ls []) := by
                intro F91 H locs ls h8 hfr hO hRn Nua N16ua Nub1 N16ub1 h102 h103 hw hl
                refine lv_iload_n hx hb d_M_combine_91 rfl (lv_at hl 2 rfl) ?_
                refine wz_iconst (n := 3) hx hb d_M_combine_92 ?_
                have K133 : ∀  (ls : Array Slot), (¬ ((kd = 3 ∨ kd = 6 ∨ kd = 7) ∧ zS g ub1 = 0)) → ((kd = 3 ∨ kd = 6 ∨ kd = 7) → zS g ub1 ≠ 0) → lv_has ls 7 [(0, .ref (ad (98))), (1, .int (iI ((uto : Int)))), (2, .int (iI (kd))), (3, .int (iI ((ua : Int)))), (4, .int (iI ((ub1 : Int))))] → W p l e ({ frames := 6, cells := 0, slots := 0, locals := 151 } : Room) s m ([.ref (ad (98)), .int (iI (to)), .int (iI (kd)), .int (iI (a)), .int (iI (b1))]).toArray below meth c H locs 0 0 Q (F0 m 133 ls []) := by
                  intro ls hd9 hy0 hl
                  refine lv_iload_n hx hb d_M_combine_133 rfl (lv_at hl 2 rfl) ?_
                  by_cases c134_0 : kd = 0
                  · refine wz_tabIn (k := 0) (off := 46) (tgt := 180) hx hb d_M_combine_134 c134_0 (by omega) (by omega) (by decide) rfl (by decide) ?_
                    refine lv_aload_n hx hb d_M_combine_180 rfl (lv_at hl 0 rfl) ?_
                    refine wz_bipush (n := 39) hx hb d_M_combine_181 (by decide) ?_
                    refine lv_iload_n hx hb d_M_combine_183 rfl (lv_at hl 3 rfl) ?_
                    refine lv_iload hx hb d_M_combine_184 (lv_at hl 4 rfl) ?_
                    refine pw_calli hw (va_runS (As := [.int (iI ((ub1 : Int)))]) (rest := [.int (iI ((ua : Int))), .int (iI (39)), .ref (ad (98))]) ⟨hx, hb, hml, hown, hq⟩ (c_M_below l D ty ad M F91 H.size (ub1) (by omega)) (va_cwS 1 hq (gS ml_M_82 st_M_below in_M m_M_below) rfl rfl rfl (by decide +kernel) ⟨Nat.le_of_ble_eq_true rfl, Nat.le_of_ble_eq_true rfl⟩) (pw_preS hw) rfl rfl hl.1 rfl (lv_room (Nat.le_of_ble_eq_true rfl)) d_M_combine_186 ⟨Nat.le_of_ble_eq_true rfl, Nat.le_of_ble_eq_true rfl⟩) (fun r186 F186 H locs q186 hw => ?_)
                    obtain ⟨er186, eF186⟩ := q186
                    rw [eF186] at hw
                    clear eF186
                    subst er186
                    refine pw_callv hw (va_runV (As := [.int (iI (39)), .int (iI ((ua : Int))), .int (iI (((16 + ub1 : Nat) : Int)))]) (rest := []) ⟨hx, hb, hml, hown, hq⟩ (c_M_times l D ty ad M F91 H.size hM (0) ((nS g : Int)) (pS g) hO (39) (ua) (16 + ub1) (zS g ua) (((bS g ub1 : Nat) : Int)) (by omega) (by omega) (by omega) (by omega) (by omega) Nua N16ub1 ((hok.mm h16a h16b1).toMd)) (cwV 3 hq (gV ml_M_92 im_M_times se_M_times in_M m_M_times) rfl rfl rfl (by decide +kernel) ⟨Nat.le_of_ble_eq_true rfl, Nat.le_of_ble_eq_true rfl⟩) (pw_preV hw (by omega) hO rfl) rfl rfl hl.1 rfl (lv_room (Nat.le_of_ble_eq_true rfl)) d_M_combine_189 ⟨Nat.le_of_ble_eq_true rfl, Nat.le_of_ble_eq_true rfl⟩) (fun F189 H locs q189 hw => ?_)
                    obtain ⟨N39, hk189, hf189⟩ := q189
                    have hO_at_189 : F189 (98) = .inr (6, [.int (iI (0)), .ref (ad (99)), .ref (ad (100)), .ref (ad (101)), .ref (ad (102)), .int (iI ((nS g : Int))), .int (iI (pS g)), .ref (ad (103))]) := (hf189 (98) (by omega) (by omega) (by omega)).trans hO
                    have hRn_at_189 : Rn ty F189 (g) := hRn.kq hk189 (fun c9 h8 h9 => by first | omega | (dsimp only at h9; omega))
                    have Nua_at_189 : Nm ty F189 (ua) (zS g ua) := hk189 _ _ (by omega) (by first | omega | (dsimp only; omega)) Nua
                    have N16ua_at_189 : Nm ty F189 (16 + ua) (((bS g ua : Nat) : Int)) := hk189 _ _ (by omega) (by first | omega | (dsimp only; omega)) N16ua
                    have Nub1_at_189 : Nm ty F189 (ub1) (zS g ub1) := hk189 _ _ (by omega) (by first | omega | (dsimp only; omega)) Nub1
                    have N16ub1_at_189 : Nm ty F189 (16 + ub1) (((bS g ub1 : Nat) : Int)) := hk189 _ _ (by omega) (by first | omega | (dsimp only; omega)) N16ub1
                    have h102_at_189 : F189 (102) = .inl (ty 0, 1400, .inl (tt)) := (hf189 (102) (by omega) (by omega) (by omega)).trans h102
                    have h103_at_189 : F189 (103) = .inl (ty 0, 700, .inl (dd)) := (hf189 (103) (by omega) (by omega) (by omega)).trans h103
                    refine lv_aload_n hx hb d_M_combine_192 rfl (lv_at hl 0 rfl) ?_
                    refine wz_bipush (n := 40) hx hb d_M_combine_193 (by decide) ?_
                    refine lv_iload hx hb d_M_combine_195 (lv_at hl 4 rfl) ?_
                    refine lv_iload_n hx hb d_M_combine_197 rfl (lv_at hl 3 rfl) ?_
                    refine pw_calli hw (va_runS (As := [.int (iI ((ua : Int)))]) (rest := [.int (iI ((ub1 : Int))), .int (iI (40)), .ref (ad (98))]) ⟨hx, hb, hml, hown, hq⟩ (c_M_below l D ty ad M F189 H.size (ua) (by omega)) (va_cwS 1 hq (gS ml_M_82 st_M_below in_M m_M_below) rfl rfl rfl (by decide +kernel) ⟨Nat.le_of_ble_eq_true rfl, Nat.le_of_ble_eq_true rfl⟩) (pw_preS hw) rfl rfl hl.1 rfl (lv_room (Nat.le_of_ble_eq_true rfl)) d_M_combine_198 ⟨Nat.le_of_ble_eq_true rfl, Nat.le_of_ble_eq_true rfl⟩) (fun r198 F198 H locs q198 hw => ?_)
                    obtain ⟨er198, eF198⟩ := q198
                    rw [eF198] at hw
                    clear eF198
                    subst er198
                    refine pw_callv hw (va_runV (As := [.int (iI (40)), .int (iI ((ub1 : Int))), .int (iI (((16 + ua : Nat) : Int)))]) (rest := []) ⟨hx, hb, hml, hown, hq⟩ (c_M_times l D ty ad M F189 H.size hM (0) ((nS g : Int)) (pS g) hO_at_189 (40) (ub1) (16 + ua) (zS g ub1) (((bS g ua : Nat) : Int)) (by omega) (by omega) (by omega) (by omega) (by omega) Nub1_at_189 N16ua_at_189 ((hok.mm h16b1 h16a).toMd)) (cwV 3 hq (gV ml_M_92 im_M_times se_M_times in_M m_M_times) rfl rfl rfl (by decide +kernel) ⟨Nat.le_of_ble_eq_true rfl, Nat.le_of_ble_eq_true rfl⟩) (pw_preV hw (by omega) hO_at_189 rfl) rfl rfl hl.1 rfl (lv_room (Nat.le_of_ble_eq_true rfl)) d_M_combine_201 ⟨Nat.le_of_ble_eq_true rfl, Nat.le_of_ble_eq_true rfl⟩) (fun F201 H locs q201 hw => ?_)
                    obtain ⟨N40, hk201, hf201⟩ := q201
                    have hO_at_201 : F201 (98) = .inr (6, [.int (iI (0)), .ref (ad (99)), .ref (ad (100)), .ref (ad (101)), .ref (ad (102)), .int (iI ((nS g : Int))), .int (iI (pS g)), .ref (ad (103))]) := (hf201 (98) (by omega) (by omega) (by omega)).trans hO_at_189
                    have hRn_at_201 : Rn ty F201 (g) := hRn_at_189.kq hk201 (fun c9 h8 h9 => by first | omega | (dsimp only at h9; omega))
                    have Nua_at_201 : Nm ty F201 (ua) (zS g ua) := hk201 _ _ (by omega) (by first | omega | (dsimp only; omega)) Nua_at_189
                    have N16ua_at_201 : Nm ty F201 (16 + ua) (((bS g ua : Nat) : Int)) := hk201 _ _ (by omega) (by first | omega | (dsimp only; omega)) N16ua_at_189
                    have Nub1_at_201 : Nm ty F201 (ub1) (zS g ub1) := hk201 _ _ (by omega) (by first | omega | (dsimp only; omega)) Nub1_at_189
                    have N16ub1_at_201 : Nm ty F201 (16 + ub1) (((bS g ub1 : Nat) : Int)) := hk201 _ _ (by omega) (by first | omega | (dsimp only; omega)) N16ub1_at_189
                    have h102_at_201 : F201 (102) = .inl (ty 0, 1400, .inl (tt)) := (hf201 (102) (by omega) (by omega) (by omega)).trans h102_at_189
                    have h103_at_201 : F201 (103) = .inl (ty 0, 700, .inl (dd)) := (hf201 (103) (by omega) (by omega) (by omega)).trans h103_at_189
                    have N39_at_201 : Nm ty F201 (39) ((zS g ua) * ((bS g ub1 : Nat) : Int)) := hk201 _ _ (by omega) (by first | omega | (dsimp only; omega)) N39
                    refine lv_aload_n hx hb d_M_combine_204 rfl (lv_at hl 0 rfl) ?_
                    refine wz_bipush (n := 32) hx hb d_M_combine_205 (by decide) ?_
                    refine wz_bipush (n := 39) hx hb d_M_combine_207 (by decide) ?_
                    refine wz_bipush (n := 40) hx hb d_M_combine_209 (by decide) ?_
                    refine lv_iload_n hx hb d_M_combine_211 rfl (lv_at hl 2 rfl) ?_
                    refine wz_iconst (n := 1) hx hb d_M_combine_212 ?_
                    refine wz_icmp_ne (tgt := 220) hx hb d_M_combine_213 (by decide) (by omega) (by omega) (by omega) (by omega) (fun c213 => ?_) (fun c213 => ?_)
                    · refine wz_iconst (n := 0) hx hb d_M_combine_220 ?_
                      refine pw_callv hw (va_runV (As := [.int (iI (32)), .int (iI (39)), .int (iI (40)), .int (iI (0))]) (rest := []) ⟨hx, hb, hml, hown, hq⟩ (c_M_join l D ty ad M F201 H.size hM (0) ((nS g : Int)) (pS g) hO_at_201 (32) (39) (40) 0 ((zS g ua) * ((bS g ub1 : Nat) : Int)) ((zS g ub1) * ((bS g ua : Nat) : Int)) (by omega) (by omega) (by omega) (by omega) N39_at_201 N40 (by rw [Int.natAbs_mul]; exact (hok.mm h16a h16b1).toMd) (by rw [Int.natAbs_mul]; exact (hok.mm h16b1 h16a).toMd)) (cwV 4 hq (gV ml_M_75 im_M_join se_M_join in_M m_M_join) rfl rfl rfl (by decide +kernel) ⟨Nat.le_of_ble_eq_true rfl, Nat.le_of_ble_eq_true rfl⟩) (pw_preV hw (by omega) hO_at_201 rfl) rfl rfl hl.1 rfl (lv_room (Nat.le_of_ble_eq_true rfl)) d_M_combine_221 ⟨Nat.le_of_ble_eq_true rfl, Nat.le_of_ble_eq_true rfl⟩) (fun F221 H locs q221 hw => ?_)
                      obtain ⟨N32, hk221, hf221⟩ := q221
                      have hO_at_221 : F221 (98) = .inr (6, [.int (iI (0)), .ref (ad (99)), .ref (ad (100)), .ref (ad (101)), .ref (ad (102)), .int (iI ((nS g : Int))), .int (iI (pS g)), .ref (ad (103))]) := (hf221 (98) (by omega) (by omega) (by omega)).trans hO_at_201
                      have hRn_at_221 : Rn ty F221 (g) := hRn_at_201.kq hk221 (fun c9 h8 h9 => by first | omega | (dsimp only at h9; omega))
                      have Nua_at_221 : Nm ty F221 (ua) (zS g ua) := hk221 _ _ (by omega) (by first | omega | (dsimp only; omega)) Nua_at_201
                      have N16ua_at_221 : Nm ty F221 (16 + ua) (((bS g ua : Nat) : Int)) := hk221 _ _ (by omega) (by first | omega | (dsimp only; omega)) N16ua_at_201
                      have Nub1_at_221 : Nm ty F221 (ub1) (zS g ub1) := hk221 _ _ (by omega) (by first | omega | (dsimp only; omega)) Nub1_at_201
                      have N16ub1_at_221 : Nm ty F221 (16 + ub1) (((bS g ub1 : Nat) : Int)) := hk221 _ _ (by omega) (by first | omega | (dsimp only; omega)) N16ub1_at_201
                      have h102_at_221 : F221 (102) = .inl (ty 0, 1400, .inl (tt)) := (hf221 (102) (by omega) (by omega) (by omega)).trans h102_at_201
                      have h103_at_221 : F221 (103) = .inl (ty 0, 700, .inl (dd)) := (hf221 (103) (by omega) (by omega) (by omega)).trans h103_at_201
                      have N39_at_221 : Nm ty F221 (39) ((zS g ua) * ((bS g ub1 : Nat) : Int)) := hk221 _ _ (by omega) (by first | omega | (dsimp only; omega)) N39_at_201
                      have N40_at_221 : Nm ty F221 (40) ((zS g ub1) * ((bS g ua : Nat) : Int)) := hk221 _ _ (by omega) (by first | omega | (dsimp only; omega)) N40
                      refine lv_aload_n hx hb d_M_combine_224 rfl (lv_at hl 0 rfl) ?_
                      refine wz_bipush (n := 33) hx hb d_M_combine_225 (by decide) ?_
                      refine lv_iload_n hx hb d_M_combine_227 rfl (lv_at hl 3 rfl) ?_
                      refine pw_calli hw (va_runS (As := [.int (iI ((ua : Int)))]) (rest := [.int (iI (33)), .ref (ad (98))]) ⟨hx, hb, hml, hown, hq⟩ (c_M_below l D ty ad M F221 H.size (ua) (by omega)) (va_cwS 1 hq (gS ml_M_82 st_M_below in_M m_M_below) rfl rfl rfl (by decide +kernel) ⟨Nat.le_of_ble_eq_true rfl, Nat.le_of_ble_eq_true rfl⟩) (pw_preS hw) rfl rfl hl.1 rfl (lv_room (Nat.le_of_ble_eq_true rfl)) d_M_combine_228 ⟨Nat.le_of_ble_eq_true rfl, Nat.le_of_ble_eq_true rfl⟩) (fun r228 F228 H locs q228 hw => ?_)
                      obtain ⟨er228, eF228⟩ := q228
                      rw [eF228] at hw
                      clear eF228
                      subst er228
                      refine lv_iload hx hb d_M_combine_231 (lv_at hl 4 rfl) ?_
                      refine pw_calli hw (va_runS (As := [.int (iI ((ub1 : Int)))]) (rest := [.int (iI (((16 + ua : Nat) : Int))), .int (iI (33)), .ref (ad (98))]) ⟨hx, hb, hml, hown, hq⟩ (c_M_below l D ty ad M F221 H.size (ub1) (by omega)) (va_cwS 1 hq (gS ml_M_82 st_M_below in_M m_M_below) rfl rfl rfl (by decide +kernel) ⟨Nat.le_of_ble_eq_true rfl, Nat.le_of_ble_eq_true rfl⟩) (pw_preS hw) rfl rfl hl.1 rfl (lv_room (Nat.le_of_ble_eq_true rfl)) d_M_combine_233 ⟨Nat.le_of_ble_eq_true rfl, Nat.le_of_ble_eq_true rfl⟩) (fun r233 F233 H locs q233 hw => ?_)
                      obtain ⟨er233, eF233⟩ := q233
                      rw [eF233] at hw
                      clear eF233
                      subst er233
                      refine pw_callv hw (va_runV (As := [.int (iI (33)), .int (iI (((16 + ua : Nat) : Int))), .int (iI (((16 + ub1 : Nat) : Int)))]) (rest := []) ⟨hx, hb, hml, hown, hq⟩ (c_M_times l D ty ad M F221 H.size hM (0) ((nS g : Int)) (pS g) hO_at_221 (33) (16 + ua) (16 + ub1) (((bS g ua : Nat) : Int)) (((bS g ub1 : Nat) : Int)) (by omega) (by omega) (by omega) (by omega) (by omega) N16ua_at_221 N16ub1_at_221 ((hok.bb h16a h16b1).toMd)) (cwV 3 hq (gV ml_M_92 im_M_times se_M_times in_M m_M_times) rfl rfl rfl (by decide +kernel) ⟨Nat.le_of_ble_eq_true rfl, Nat.le_of_ble_eq_true rfl⟩) (pw_preV hw (by omega) hO_at_221 rfl) rfl rfl hl.1 rfl (lv_room (Nat.le_of_ble_eq_true rfl)) d_M_combine_236 ⟨Nat.le_of_ble_eq_true rfl, Nat.le_of_ble_eq_true rfl⟩) (fun F236 H locs q236 hw => ?_)
                      obtain ⟨N33, hk236, hf236⟩ := q236
                      have hO_at_236 : F236 (98) = .inr (6, [.int (iI (0)), .ref (ad (99)), .ref (ad (100)), .ref (ad (101)), .ref (ad (102)), .int (iI ((nS g : Int))), .int (iI (pS g)), .ref (ad (103))]) := (hf236 (98) (by omega) (by omega) (by omega)).trans hO_at_221
                      have hRn_at_236 : Rn ty F236 (g) := hRn_at_221.kq hk236 (fun c9 h8 h9 => by first | omega | (dsimp only at h9; omega))
                      have Nua_at_236 : Nm ty F236 (ua) (zS g ua) := hk236 _ _ (by omega) (by first | omega | (dsimp only; omega)) Nua_at_221
                      have N16ua_at_236 : Nm ty F236 (16 + ua) (((bS g ua : Nat) : Int)) := hk236 _ _ (by omega) (by first | omega | (dsimp only; omega)) N16ua_at_221
                      have Nub1_at_236 : Nm ty F236 (ub1) (zS g ub1) := hk236 _ _ (by omega) (by first | omega | (dsimp only; omega)) Nub1_at_221
                      have N16ub1_at_236 : Nm ty F236 (16 + ub1) (((bS g ub1 : Nat) : Int)) := hk236 _ _ (by omega) (by first | omega | (dsimp only; omega)) N16ub1_at_221
                      have h102_at_236 : F236 (102) = .inl (ty 0, 1400, .inl (tt)) := (hf236 (102) (by omega) (by omega) (by omega)).trans h102_at_221
                      have h103_at_236 : F236 (103) = .inl (ty 0, 700, .inl (dd)) := (hf236 (103) (by omega) (by omega) (by omega)).trans h103_at_221
                      have N39_at_236 : Nm ty F236 (39) ((zS g ua) * ((bS g ub1 : Nat) : Int)) := hk236 _ _ (by omega) (by first | omega | (dsimp only; omega)) N39_at_221
                      have N40_at_236 : Nm ty F236 (40) ((zS g ub1) * ((bS g ua : Nat) : Int)) := hk236 _ _ (by omega) (by first | omega | (dsimp only; omega)) N40_at_221
                      have N32_at_236 : Nm ty F236 (32) (jz 0 ((zS g ua) * ((bS g ub1 : Nat) : Int)) ((zS g ub1) * ((bS g ua : Nat) : Int))) := hk236 _ _ (by omega) (by first | omega | (dsimp only; omega)) N32
                      refine lv_aload_n hx hb d_M_combine_239 rfl (lv_at hl 0 rfl) ?_
                      refine lv_iload_n hx hb d_M_combine_240 rfl (lv_at hl 1 rfl) ?_
                      refine pw_calli hw (va_runV (As := [.int (iI ((uto : Int)))]) (rest := []) ⟨hx, hb, hml, hown, hq⟩ (c_M_lay l D ty ad M F236 H.size hM (0) ((nS g : Int)) (pS g) hO_at_236 (uto) (jz 0 ((zS g ua) * ((bS g ub1 : Nat) : Int)) ((zS g ub1) * ((bS g ua : Nat) : Int))) (((bS g ua : Nat) : Int) * ((bS g ub1 : Nat) : Int)) (g) (by omega) (by rw [← Int.natCast_mul]; exact bb_ne hxb hyb) N32_at_236 N33 hRn_at_236 (jz_md (by omega) (by rw [Int.natAbs_mul]; exact hok.mm h16a h16b1) (by rw [Int.natAbs_mul]; exact hok.mm h16b1 h16a)) (by rw [Int.natAbs_mul]; exact (hok.bb h16a h16b1).toMd)) (cwV 1 hq (gV ml_M_89 im_M_lay se_M_lay in_M m_M_lay) rfl rfl rfl (by decide +kernel) ⟨Nat.le_of_ble_eq_true rfl, Nat.le_of_ble_eq_true rfl⟩) (pw_preV hw (by omega) hO_at_236 rfl) rfl rfl hl.1 rfl (lv_room (Nat.le_of_ble_eq_true rfl)) d_M_combine_241 ⟨Nat.le_of_ble_eq_true rfl, Nat.le_of_ble_eq_true rfl⟩) (fun r241 F241 H locs q241 hw => ?_)
                      obtain ⟨er241, hRn, hf241⟩ := q241
                      have hO_at_241 : F241 (98) = .inr (6, [.int (iI (0)), .ref (ad (99)), .ref (ad (100)), .ref (ad (101)), .ref (ad (102)), .int (iI ((nS g : Int))), .int (iI (pS g)), .ref (ad (103))]) := (hf241 (98) (by omega) (by omega) (by omega)).trans hO_at_236
                      have h102_at_241 : F241 (102) = .inl (ty 0, 1400, .inl (tt)) := (hf241 (102) (by omega) (by omega) (by omega)).trans h102_at_236
                      have h103_at_241 : F241 (103) = .inl (ty 0, 700, .inl (dd)) := (hf241 (103) (by omega) (by omega) (by omega)).trans h103_at_236
                      rw [← hQ]
                      exact pw_iret hx hb hr hlocks hw (by
                        rw [o_combine_ok ⟨hRto, hRa, hRb1⟩ ⟨by omega, by omega⟩ h8 hd9 (u := uto) (x := ua) (y := ub1) (by omega) (by omega) (by omega), c134_0, cmb_0]
                        rw [flz_n (by rw [← Int.natCast_mul]; exact Int.natCast_nonneg _), Int.natAbs_mul, Int.natAbs_natCast, Int.natAbs_natCast, jz0] at er241 hRn
                        exact ⟨er241, Mo.mk' (s_lay_t ..) hO_at_241 hRn h102_at_241 htt h103_at_241, fun y9 h1 => ((hf241 (y9) (by omega) (by omega) (by omega)).trans ((hf236 (y9) (by omega) (by omega) (by omega)).trans ((hf221 (y9) (by omega) (by omega) (by omega)).trans ((hf201 (y9) (by omega) (by omega) (by omega)).trans (hf189 (y9) (by omega) (by omega) (by omega)))))).trans (hfr y9 (by omega))⟩) d_M_combine_244
                    · exact absurd c213 (by omega)
                  · skip
                    by_cases c134_1 : kd = 1
                    · refine wz_tabIn (k := 1) (off := 46) (tgt := 180) hx hb d_M_combine_134 c134_1 (by omega) (by omega) (by decide) rfl (by decide) ?_
                      refine lv_aload_n hx hb d_M_combine_180 rfl (lv_at hl 0 rfl) ?_
                      refine wz_bipush (n := 39) hx hb d_M_combine_181 (by decide) ?_
                      refine lv_iload_n hx hb d_M_combine_183 rfl (lv_at hl 3 rfl) ?_
                      refine lv_iload hx hb d_M_combine_184 (lv_at hl 4 rfl) ?_
                      refine pw_calli hw (va_runS (As := [.int (iI ((ub1 : Int)))]) (rest := [.int (iI ((ua : Int))), .int (iI (39)), .ref (ad (98))]) ⟨hx, hb, hml, hown, hq⟩ (c_M_below l D ty ad M F91 H.size (ub1) (by omega)) (va_cwS 1 hq (gS ml_M_82 st_M_below in_M m_M_below) rfl rfl rfl (by decide +kernel) ⟨Nat.le_of_ble_eq_true rfl, Nat.le_of_ble_eq_true rfl⟩) (pw_preS hw) rfl rfl hl.1 rfl (lv_room (Nat.le_of_ble_eq_true rfl)) d_M_combine_186 ⟨Nat.le_of_ble_eq_true rfl, Nat.le_of_ble_eq_true rfl⟩) (fun r186 F186 H locs q186 hw => ?_)
                      obtain ⟨er186, eF186⟩ := q186
                      rw [eF186] at hw
                      clear eF186
                      subst er186
                      refine pw_callv hw (va_runV (As := [.int (iI (39)), .int (iI ((ua : Int))), .int (iI (((16 + ub1 : Nat) : Int)))]) (rest := []) ⟨hx, hb, hml, hown, hq⟩ (c_M_times l D ty ad M F91 H.size hM (0) ((nS g : Int)) (pS g) hO (39) (ua) (16 + ub1) (zS g ua) (((bS g ub1 : Nat) : Int)) (by omega) (by omega) (by omega) (by omega) (by omega) Nua N16ub1 ((hok.mm h16a h16b1).toMd)) (cwV 3 hq (gV ml_M_92 im_M_times se_M_times in_M m_M_times) rfl rfl rfl (by decide +kernel) ⟨Nat.le_of_ble_eq_true rfl, Nat.le_of_ble_eq_true rfl⟩) (pw_preV hw (by omega) hO rfl) rfl rfl hl.1 rfl (lv_room (Nat.le_of_ble_eq_true rfl)) d_M_combine_189 ⟨Nat.le_of_ble_eq_true rfl, Nat.le_of_ble_eq_true rfl⟩) (fun F189 H locs q189 hw => ?_)
                      obtain ⟨N39, hk189, hf189⟩ := q189
                      have hO_at_189 : F189 (98) = .inr (6, [.int (iI (0)), .ref (ad (99)), .ref (ad (100)), .ref (ad (101)), .ref (ad (102)), .int (iI ((nS g : Int))), .int (iI (pS g)), .ref (ad (103))]) := (hf189 (98) (by omega) (by omega) (by omega)).trans hO
                      have hRn_at_189 : Rn ty F189 (g) := hRn.kq hk189 (fun c9 h8 h9 => by first | omega | (dsimp only at h9; omega))
                      have Nua_at_189 : Nm ty F189 (ua) (zS g ua) := hk189 _ _ (by omega) (by first | omega | (dsimp only; omega)) Nua
                      have N16ua_at_189 : Nm ty F189 (16 + ua) (((bS g ua : Nat) : Int)) := hk189 _ _ (by omega) (by first | omega | (dsimp only; omega)) N16ua
                      have Nub1_at_189 : Nm ty F189 (ub1) (zS g ub1) := hk189 _ _ (by omega) (by first | omega | (dsimp only; omega)) Nub1
                      have N16ub1_at_189 : Nm ty F189 (16 + ub1) (((bS g ub1 : Nat) : Int)) := hk189 _ _ (by omega) (by first | omega | (dsimp only; omega)) N16ub1
                      have h102_at_189 : F189 (102) = .inl (ty 0, 1400, .inl (tt)) := (hf189 (102) (by omega) (by omega) (by omega)).trans h102
                      have h103_at_189 : F189 (103) = .inl (ty 0, 700, .inl (dd)) := (hf189 (103) (by omega) (by omega) (by omega)).trans h103
                      refine lv_aload_n hx hb d_M_combine_192 rfl (lv_at hl 0 rfl) ?_
                      refine wz_bipush (n := 40) hx hb d_M_combine_193 (by decide) ?_
                      refine lv_iload hx hb d_M_combine_195 (lv_at hl 4 rfl) ?_
                      refine lv_iload_n hx hb d_M_combine_197 rfl (lv_at hl 3 rfl) ?_
                      refine pw_calli hw (va_runS (As := [.int (iI ((ua : Int)))]) (rest := [.int (iI ((ub1 : Int))), .int (iI (40)), .ref (ad (98))]) ⟨hx, hb, hml, hown, hq⟩ (c_M_below l D ty ad M F189 H.size (ua) (by omega)) (va_cwS 1 hq (gS ml_M_82 st_M_below in_M m_M_below) rfl rfl rfl (by decide +kernel) ⟨Nat.le_of_ble_eq_true rfl, Nat.le_of_ble_eq_true rfl⟩) (pw_preS hw) rfl rfl hl.1 rfl (lv_room (Nat.le_of_ble_eq_true rfl)) d_M_combine_198 ⟨Nat.le_of_ble_eq_true rfl, Nat.le_of_ble_eq_true rfl⟩) (fun r198 F198 H locs q198 hw => ?_)
                      obtain ⟨er198, eF198⟩ := q198
                      rw [eF198] at hw
                      clear eF198
                      subst er198
                      refine pw_callv hw (va_runV (As := [.int (iI (40)), .int (iI ((ub1 : Int))), .int (iI (((16 + ua : Nat) : Int)))]) (rest := []) ⟨hx, hb, hml, hown, hq⟩ (c_M_times l D ty ad M F189 H.size hM (0) ((nS g : Int)) (pS g) hO_at_189 (40) (ub1) (16 + ua) (zS g ub1) (((bS g ua : Nat) : Int)) (by omega) (by omega) (by omega) (by omega) (by omega) Nub1_at_189 N16ua_at_189 ((hok.mm h16b1 h16a).toMd)) (cwV 3 hq (gV ml_M_92 im_M_times se_M_times in_M m_M_times) rfl rfl rfl (by decide +kernel) ⟨Nat.le_of_ble_eq_true rfl, Nat.le_of_ble_eq_true rfl⟩) (pw_preV hw (by omega) hO_at_189 rfl) rfl rfl hl.1 rfl (lv_room (Nat.le_of_ble_eq_true rfl)) d_M_combine_201 ⟨Nat.le_of_ble_eq_true rfl, Nat.le_of_ble_eq_true rfl⟩) (fun F201 H locs q201 hw => ?_)
                      obtain ⟨N40, hk201, hf201⟩ := q201
                      have hO_at_201 : F201 (98) = .inr (6, [.int (iI (0)), .ref (ad (99)), .ref (ad (100)), .ref (ad (101)), .ref (ad (102)), .int (iI ((nS g : Int))), .int (iI (pS g)), .ref (ad (103))]) := (hf201 (98) (by omega) (by omega) (by omega)).trans hO_at_189
                      have hRn_at_201 : Rn ty F201 (g) := hRn_at_189.kq hk201 (fun c9 h8 h9 => by first | omega | (dsimp only at h9; omega))
                      have Nua_at_201 : Nm ty F201 (ua) (zS g ua) := hk201 _ _ (by omega) (by first | omega | (dsimp only; omega)) Nua_at_189
                      have N16ua_at_201 : Nm ty F201 (16 + ua) (((bS g ua : Nat) : Int)) := hk201 _ _ (by omega) (by first | omega | (dsimp only; omega)) N16ua_at_189
                      have Nub1_at_201 : Nm ty F201 (ub1) (zS g ub1) := hk201 _ _ (by omega) (by first | omega | (dsimp only; omega)) Nub1_at_189
                      have N16ub1_at_201 : Nm ty F201 (16 + ub1) (((bS g ub1 : Nat) : Int)) := hk201 _ _ (by omega) (by first | omega | (dsimp only; omega)) N16ub1_at_189
                      have h102_at_201 : F201 (102) = .inl (ty 0, 1400, .inl (tt)) := (hf201 (102) (by omega) (by omega) (by omega)).trans h102_at_189
                      have h103_at_201 : F201 (103) = .inl (ty 0, 700, .inl (dd)) := (hf201 (103) (by omega) (by omega) (by omega)).trans h103_at_189
                      have N39_at_201 : Nm ty F201 (39) ((zS g ua) * ((bS g ub1 : Nat) : Int)) := hk201 _ _ (by omega) (by first | omega | (dsimp only; omega)) N39
                      refine lv_aload_n hx hb d_M_combine_204 rfl (lv_at hl 0 rfl) ?_
                      refine wz_bipush (n := 32) hx hb d_M_combine_205 (by decide) ?_
                      refine wz_bipush (n := 39) hx hb d_M_combine_207 (by decide) ?_
                      refine wz_bipush (n := 40) hx hb d_M_combine_209 (by decide) ?_
                      refine lv_iload_n hx hb d_M_combine_211 rfl (lv_at hl 2 rfl) ?_
                      refine wz_iconst (n := 1) hx hb d_M_combine_212 ?_
                      refine wz_icmp_ne (tgt := 220) hx hb d_M_combine_213 (by decide) (by omega) (by omega) (by omega) (by omega) (fun c213 => ?_) (fun c213 => ?_)
                      · exact absurd c213 (by omega)
                      · refine wz_iconst (n := 1) hx hb d_M_combine_216 ?_
                        refine lv_goto (tgt := 221) hx hb d_M_combine_217 (by decide) ?_
                        refine pw_callv hw (va_runV (As := [.int (iI (32)), .int (iI (39)), .int (iI (40)), .int (iI (1))]) (rest := []) ⟨hx, hb, hml, hown, hq⟩ (c_M_join l D ty ad M F201 H.size hM (0) ((nS g : Int)) (pS g) hO_at_201 (32) (39) (40) 1 ((zS g ua) * ((bS g ub1 : Nat) : Int)) ((zS g ub1) * ((bS g ua : Nat) : Int)) (by omega) (by omega) (by omega) (by omega) N39_at_201 N40 (by rw [Int.natAbs_mul]; exact (hok.mm h16a h16b1).toMd) (by rw [Int.natAbs_mul]; exact (hok.mm h16b1 h16a).toMd)) (cwV 4 hq (gV ml_M_75 im_M_join se_M_join in_M m_M_join) rfl rfl rfl (by decide +kernel) ⟨Nat.le_of_ble_eq_true rfl, Nat.le_of_ble_eq_true rfl⟩) (pw_preV hw (by omega) hO_at_201 rfl) rfl rfl hl.1 rfl (lv_room (Nat.le_of_ble_eq_true rfl)) d_M_combine_221 ⟨Nat.le_of_ble_eq_true rfl, Nat.le_of_ble_eq_true rfl⟩) (fun F221 H locs q221 hw => ?_)
                        obtain ⟨N32, hk221, hf221⟩ := q221
                        have hO_at_221 : F221 (98) = .inr (6, [.int (iI (0)), .ref (ad (99)), .ref (ad (100)), .ref (ad (101)), .ref (ad (102)), .int (iI ((nS g : Int))), .int (iI (pS g)), .ref (ad (103))]) := (hf221 (98) (by omega) (by omega) (by omega)).trans hO_at_201
                        have hRn_at_221 : Rn ty F221 (g) := hRn_at_201.kq hk221 (fun c9 h8 h9 => by first | omega | (dsimp only at h9; omega))
                        have Nua_at_221 : Nm ty F221 (ua) (zS g ua) := hk221 _ _ (by omega) (by first | omega | (dsimp only; omega)) Nua_at_201
                        have N16ua_at_221 : Nm ty F221 (16 + ua) (((bS g ua : Nat) : Int)) := hk221 _ _ (by omega) (by first | omega | (dsimp only; omega)) N16ua_at_201
                        have Nub1_at_221 : Nm ty F221 (ub1) (zS g ub1) := hk221 _ _ (by omega) (by first | omega | (dsimp only; omega)) Nub1_at_201
                        have N16ub1_at_221 : Nm ty F221 (16 + ub1) (((bS g ub1 : Nat) : Int)) := hk221 _ _ (by omega) (by first | omega | (dsimp only; omega)) N16ub1_at_201
                        have h102_at_221 : F221 (102) = .inl (ty 0, 1400, .inl (tt)) := (hf221 (102) (by omega) (by omega) (by omega)).trans h102_at_201
                        have h103_at_221 : F221 (103) = .inl (ty 0, 700, .inl (dd)) := (hf221 (103) (by omega) (by omega) (by omega)).trans h103_at_201
                        have N39_at_221 : Nm ty F221 (39) ((zS g ua) * ((bS g ub1 : Nat) : Int)) := hk221 _ _ (by omega) (by first | omega | (dsimp only; omega)) N39_at_201
                        have N40_at_221 : Nm ty F221 (40) ((zS g ub1) * ((bS g ua : Nat) : Int)) := hk221 _ _ (by omega) (by first | omega | (dsimp only; omega)) N40
                        refine lv_aload_n hx hb d_M_combine_224 rfl (lv_at hl 0 rfl) ?_
                        refine wz_bipush (n := 33) hx hb d_M_combine_225 (by decide) ?_
                        refine lv_iload_n hx hb d_M_combine_227 rfl (lv_at hl 3 rfl) ?_
                        refine pw_calli hw (va_runS (As := [.int (iI ((ua : Int)))]) (rest := [.int (iI (33)), .ref (ad (98))]) ⟨hx, hb, hml, hown, hq⟩ (c_M_below l D ty ad M F221 H.size (ua) (by omega)) (va_cwS 1 hq (gS ml_M_82 st_M_below in_M m_M_below) rfl rfl rfl (by decide +kernel) ⟨Nat.le_of_ble_eq_true rfl, Nat.le_of_ble_eq_true rfl⟩) (pw_preS hw) rfl rfl hl.1 rfl (lv_room (Nat.le_of_ble_eq_true rfl)) d_M_combine_228 ⟨Nat.le_of_ble_eq_true rfl, Nat.le_of_ble_eq_true rfl⟩) (fun r228 F228 H locs q228 hw => ?_)
                        obtain ⟨er228, eF228⟩ := q228
                        rw [eF228] at hw
                        clear eF228
                        subst er228
                        refine lv_iload hx hb d_M_combine_231 (lv_at hl 4 rfl) ?_
                        refine pw_calli hw (va_runS (As := [.int (iI ((ub1 : Int)))]) (rest := [.int (iI (((16 + ua : Nat) : Int))), .int (iI (33)), .ref (ad (98))]) ⟨hx, hb, hml, hown, hq⟩ (c_M_below l D ty ad M F221 H.size (ub1) (by omega)) (va_cwS 1 hq (gS ml_M_82 st_M_below in_M m_M_below) rfl rfl rfl (by decide +kernel) ⟨Nat.le_of_ble_eq_true rfl, Nat.le_of_ble_eq_true rfl⟩) (pw_preS hw) rfl rfl hl.1 rfl (lv_room (Nat.le_of_ble_eq_true rfl)) d_M_combine_233 ⟨Nat.le_of_ble_eq_true rfl, Nat.le_of_ble_eq_true rfl⟩) (fun r233 F233 H locs q233 hw => ?_)
                        obtain ⟨er233, eF233⟩ := q233
                        rw [eF233] at hw
                        clear eF233
                        subst er233
                        refine pw_callv hw (va_runV (As := [.int (iI (33)), .int (iI (((16 + ua : Nat) : Int))), .int (iI (((16 + ub1 : Nat) : Int)))]) (rest := []) ⟨hx, hb, hml, hown, hq⟩ (c_M_times l D ty ad M F221 H.size hM (0) ((nS g : Int)) (pS g) hO_at_221 (33) (16 + ua) (16 + ub1) (((bS g ua : Nat) : Int)) (((bS g ub1 : Nat) : Int)) (by omega) (by omega) (by omega) (by omega) (by omega) N16ua_at_221 N16ub1_at_221 ((hok.bb h16a h16b1).toMd)) (cwV 3 hq (gV ml_M_92 im_M_times se_M_times in_M m_M_times) rfl rfl rfl (by decide +kernel) ⟨Nat.le_of_ble_eq_true rfl, Nat.le_of_ble_eq_true rfl⟩) (pw_preV hw (by omega) hO_at_221 rfl) rfl rfl hl.1 rfl (lv_room (Nat.le_of_ble_eq_true rfl)) d_M_combine_236 ⟨Nat.le_of_ble_eq_true rfl, Nat.le_of_ble_eq_true rfl⟩) (fun F236 H locs q236 hw => ?_)
                        obtain ⟨N33, hk236, hf236⟩ := q236
                        have hO_at_236 : F236 (98) = .inr (6, [.int (iI (0)), .ref (ad (99)), .ref (ad (100)), .ref (ad (101)), .ref (ad (102)), .int (iI ((nS g : Int))), .int (iI (pS g)), .ref (ad (103))]) := (hf236 (98) (by omega) (by omega) (by omega)).trans hO_at_221
                        have hRn_at_236 : Rn ty F236 (g) := hRn_at_221.kq hk236 (fun c9 h8 h9 => by first | omega | (dsimp only at h9; omega))
                        have Nua_at_236 : Nm ty F236 (ua) (zS g ua) := hk236 _ _ (by omega) (by first | omega | (dsimp only; omega)) Nua_at_221
                        have N16ua_at_236 : Nm ty F236 (16 + ua) (((bS g ua : Nat) : Int)) := hk236 _ _ (by omega) (by first | omega | (dsimp only; omega)) N16ua_at_221
                        have Nub1_at_236 : Nm ty F236 (ub1) (zS g ub1) := hk236 _ _ (by omega) (by first | omega | (dsimp only; omega)) Nub1_at_221
                        have N16ub1_at_236 : Nm ty F236 (16 + ub1) (((bS g ub1 : Nat) : Int)) := hk236 _ _ (by omega) (by first | omega | (dsimp only; omega)) N16ub1_at_221
                        have h102_at_236 : F236 (102) = .inl (ty 0, 1400, .inl (tt)) := (hf236 (102) (by omega) (by omega) (by omega)).trans h102_at_221
                        have h103_at_236 : F236 (103) = .inl (ty 0, 700, .inl (dd)) := (hf236 (103) (by omega) (by omega) (by omega)).trans h103_at_221
                        have N39_at_236 : Nm ty F236 (39) ((zS g ua) * ((bS g ub1 : Nat) : Int)) := hk236 _ _ (by omega) (by first | omega | (dsimp only; omega)) N39_at_221
                        have N40_at_236 : Nm ty F236 (40) ((zS g ub1) * ((bS g ua : Nat) : Int)) := hk236 _ _ (by omega) (by first | omega | (dsimp only; omega)) N40_at_221
                        have N32_at_236 : Nm ty F236 (32) (jz 1 ((zS g ua) * ((bS g ub1 : Nat) : Int)) ((zS g ub1) * ((bS g ua : Nat) : Int))) := hk236 _ _ (by omega) (by first | omega | (dsimp only; omega)) N32
                        refine lv_aload_n hx hb d_M_combine_239 rfl (lv_at hl 0 rfl) ?_
                        refine lv_iload_n hx hb d_M_combine_240 rfl (lv_at hl 1 rfl) ?_
                        refine pw_calli hw (va_runV (As := [.int (iI ((uto : Int)))]) (rest := []) ⟨hx, hb, hml, hown, hq⟩ (c_M_lay l D ty ad M F236 H.size hM (0) ((nS g : Int)) (pS g) hO_at_236 (uto) (jz 1 ((zS g ua) * ((bS g ub1 : Nat) : Int)) ((zS g ub1) * ((bS g ua : Nat) : Int))) (((bS g ua : Nat) : Int) * ((bS g ub1 : Nat) : Int)) (g) (by omega) (by rw [← Int.natCast_mul]; exact bb_ne hxb hyb) N32_at_236 N33 hRn_at_236 (jz_md (by omega) (by rw [Int.natAbs_mul]; exact hok.mm h16a h16b1) (by rw [Int.natAbs_mul]; exact hok.mm h16b1 h16a)) (by rw [Int.natAbs_mul]; exact (hok.bb h16a h16b1).toMd)) (cwV 1 hq (gV ml_M_89 im_M_lay se_M_lay in_M m_M_lay) rfl rfl rfl (by decide +kernel) ⟨Nat.le_of_ble_eq_true rfl, Nat.le_of_ble_eq_true rfl⟩) (pw_preV hw (by omega) hO_at_236 rfl) rfl rfl hl.1 rfl (lv_room (Nat.le_of_ble_eq_true rfl)) d_M_combine_241 ⟨Nat.le_of_ble_eq_true rfl, Nat.le_of_ble_eq_true rfl⟩) (fun r241 F241 H locs q241 hw => ?_)
                        obtain ⟨er241, hRn, hf241⟩ := q241
                        have hO_at_241 : F241 (98) = .inr (6, [.int (iI (0)), .ref (ad (99)), .ref (ad (100)), .ref (ad (101)), .ref (ad (102)), .int (iI ((nS g : Int))), .int (iI (pS g)), .ref (ad (103))]) := (hf241 (98) (by omega) (by omega) (by omega)).trans hO_at_236
                        have h102_at_241 : F241 (102) = .inl (ty 0, 1400, .inl (tt)) := (hf241 (102) (by omega) (by omega) (by omega)).trans h102_at_236
                        have h103_at_241 : F241 (103) = .inl (ty 0, 700, .inl (dd)) := (hf241 (103) (by omega) (by omega) (by omega)).trans h103_at_236
                        rw [← hQ]
                        exact pw_iret hx hb hr hlocks hw (by
                          rw [o_combine_ok ⟨hRto, hRa, hRb1⟩ ⟨by omega, by omega⟩ h8 hd9 (u := uto) (x := ua) (y := ub1) (by omega) (by omega) (by omega), c134_1, cmb_1]
                          rw [flz_n (by rw [← Int.natCast_mul]; exact Int.natCast_nonneg _), Int.natAbs_mul, Int.natAbs_natCast, Int.natAbs_natCast, jz1] at er241 hRn
                          exact ⟨er241, Mo.mk' (s_lay_t ..) hO_at_241 hRn h102_at_241 htt h103_at_241, fun y9 h1 => ((hf241 (y9) (by omega) (by omega) (by omega)).trans ((hf236 (y9) (by omega) (by omega) (by omega)).trans ((hf221 (y9) (by omega) (by omega) (by omega)).trans ((hf201 (y9) (by omega) (by omega) (by omega)).trans (hf189 (y9) (by omega) (by omega) (by omega)))))).trans (hfr y9 (by omega))⟩) d_M_combine_244
                    · skip
                      by_cases c134_2 : kd = 2
                      · refine wz_tabIn (k := 2) (off := 111) (tgt := 245) hx hb d_M_combine_134 c134_2 (by omega) (by omega) (by decide) rfl (by decide) ?_
                        refine lv_aload_n hx hb d_M_combine_245 rfl (lv_at hl 0 rfl) ?_
                        refine wz_bipush (n := 32) hx hb d_M_combine_246 (by decide) ?_
                        refine lv_iload_n hx hb d_M_combine_248 rfl (lv_at hl 3 rfl) ?_
                        refine lv_iload hx hb d_M_combine_249 (lv_at hl 4 rfl) ?_
                        refine pw_callv hw (va_runV (As := [.int (iI (32)), .int (iI ((ua : Int))), .int (iI ((ub1 : Int)))]) (rest := []) ⟨hx, hb, hml, hown, hq⟩ (c_M_times l D ty ad M F91 H.size hM (0) ((nS g : Int)) (pS g) hO (32) (ua) (ub1) (zS g ua) (zS g ub1) (by omega) (by omega) (by omega) (by omega) (by omega) Nua Nub1 ((hok.zz h16a h16b1).toMd)) (cwV 3 hq (gV ml_M_92 im_M_times se_M_times in_M m_M_times) rfl rfl rfl (by decide +kernel) ⟨Nat.le_of_ble_eq_true rfl, Nat.le_of_ble_eq_true rfl⟩) (pw_preV hw (by omega) hO rfl) rfl rfl hl.1 rfl (lv_room (Nat.le_of_ble_eq_true rfl)) d_M_combine_251 ⟨Nat.le_of_ble_eq_true rfl, Nat.le_of_ble_eq_true rfl⟩) (fun F251 H locs q251 hw => ?_)
                        obtain ⟨N32, hk251, hf251⟩ := q251
                        have hO_at_251 : F251 (98) = .inr (6, [.int (iI (0)), .ref (ad (99)), .ref (ad (100)), .ref (ad (101)), .ref (ad (102)), .int (iI ((nS g : Int))), .int (iI (pS g)), .ref (ad (103))]) := (hf251 (98) (by omega) (by omega) (by omega)).trans hO
                        have hRn_at_251 : Rn ty F251 (g) := hRn.kq hk251 (fun c9 h8 h9 => by first | omega | (dsimp only at h9; omega))
                        have Nua_at_251 : Nm ty F251 (ua) (zS g ua) := hk251 _ _ (by omega) (by first | omega | (dsimp only; omega)) Nua
                        have N16ua_at_251 : Nm ty F251 (16 + ua) (((bS g ua : Nat) : Int)) := hk251 _ _ (by omega) (by first | omega | (dsimp only; omega)) N16ua
                        have Nub1_at_251 : Nm ty F251 (ub1) (zS g ub1) := hk251 _ _ (by omega) (by first | omega | (dsimp only; omega)) Nub1
                        have N16ub1_at_251 : Nm ty F251 (16 + ub1) (((bS g ub1 : Nat) : Int)) := hk251 _ _ (by omega) (by first | omega | (dsimp only; omega)) N16ub1
                        have h102_at_251 : F251 (102) = .inl (ty 0, 1400, .inl (tt)) := (hf251 (102) (by omega) (by omega) (by omega)).trans h102
                        have h103_at_251 : F251 (103) = .inl (ty 0, 700, .inl (dd)) := (hf251 (103) (by omega) (by omega) (by omega)).trans h103
                        refine lv_aload_n hx hb d_M_combine_254 rfl (lv_at hl 0 rfl) ?_
                        refine wz_bipush (n := 33) hx hb d_M_combine_255 (by decide) ?_
                        refine lv_iload_n hx hb d_M_combine_257 rfl (lv_at hl 3 rfl) ?_
                        refine pw_calli hw (va_runS (As := [.int (iI ((ua : Int)))]) (rest := [.int (iI (33)), .ref (ad (98))]) ⟨hx, hb, hml, hown, hq⟩ (c_M_below l D ty ad M F251 H.size (ua) (by omega)) (va_cwS 1 hq (gS ml_M_82 st_M_below in_M m_M_below) rfl rfl rfl (by decide +kernel) ⟨Nat.le_of_ble_eq_true rfl, Nat.le_of_ble_eq_true rfl⟩) (pw_preS hw) rfl rfl hl.1 rfl (lv_room (Nat.le_of_ble_eq_true rfl)) d_M_combine_258 ⟨Nat.le_of_ble_eq_true rfl, Nat.le_of_ble_eq_true rfl⟩) (fun r258 F258 H locs q258 hw => ?_)
                        obtain ⟨er258, eF258⟩ := q258
                        rw [eF258] at hw
                        clear eF258
                        subst er258
                        refine lv_iload hx hb d_M_combine_261 (lv_at hl 4 rfl) ?_
                        refine pw_calli hw (va_runS (As := [.int (iI ((ub1 : Int)))]) (rest := [.int (iI (((16 + ua : Nat) : Int))), .int (iI (33)), .ref (ad (98))]) ⟨hx, hb, hml, hown, hq⟩ (c_M_below l D ty ad M F251 H.size (ub1) (by omega)) (va_cwS 1 hq (gS ml_M_82 st_M_below in_M m_M_below) rfl rfl rfl (by decide +kernel) ⟨Nat.le_of_ble_eq_true rfl, Nat.le_of_ble_eq_true rfl⟩) (pw_preS hw) rfl rfl hl.1 rfl (lv_room (Nat.le_of_ble_eq_true rfl)) d_M_combine_263 ⟨Nat.le_of_ble_eq_true rfl, Nat.le_of_ble_eq_true rfl⟩) (fun r263 F263 H locs q263 hw => ?_)
                        obtain ⟨er263, eF263⟩ := q263
                        rw [eF263] at hw
                        clear eF263
                        subst er263
                        refine pw_callv hw (va_runV (As := [.int (iI (33)), .int (iI (((16 + ua : Nat) : Int))), .int (iI (((16 + ub1 : Nat) : Int)))]) (rest := []) ⟨hx, hb, hml, hown, hq⟩ (c_M_times l D ty ad M F251 H.size hM (0) ((nS g : Int)) (pS g) hO_at_251 (33) (16 + ua) (16 + ub1) (((bS g ua : Nat) : Int)) (((bS g ub1 : Nat) : Int)) (by omega) (by omega) (by omega) (by omega) (by omega) N16ua_at_251 N16ub1_at_251 ((hok.bb h16a h16b1).toMd)) (cwV 3 hq (gV ml_M_92 im_M_times se_M_times in_M m_M_times) rfl rfl rfl (by decide +kernel) ⟨Nat.le_of_ble_eq_true rfl, Nat.le_of_ble_eq_true rfl⟩) (pw_preV hw (by omega) hO_at_251 rfl) rfl rfl hl.1 rfl (lv_room (Nat.le_of_ble_eq_true rfl)) d_M_combine_266 ⟨Nat.le_of_ble_eq_true rfl, Nat.le_of_ble_eq_true rfl⟩) (fun F266 H locs q266 hw => ?_)
                        obtain ⟨N33, hk266, hf266⟩ := q266
                        have hO_at_266 : F266 (98) = .inr (6, [.int (iI (0)), .ref (ad (99)), .ref (ad (100)), .ref (ad (101)), .ref (ad (102)), .int (iI ((nS g : Int))), .int (iI (pS g)), .ref (ad (103))]) := (hf266 (98) (by omega) (by omega) (by omega)).trans hO_at_251
                        have hRn_at_266 : Rn ty F266 (g) := hRn_at_251.kq hk266 (fun c9 h8 h9 => by first | omega | (dsimp only at h9; omega))
                        have Nua_at_266 : Nm ty F266 (ua) (zS g ua) := hk266 _ _ (by omega) (by first | omega | (dsimp only; omega)) Nua_at_251
                        have N16ua_at_266 : Nm ty F266 (16 + ua) (((bS g ua : Nat) : Int)) := hk266 _ _ (by omega) (by first | omega | (dsimp only; omega)) N16ua_at_251
                        have Nub1_at_266 : Nm ty F266 (ub1) (zS g ub1) := hk266 _ _ (by omega) (by first | omega | (dsimp only; omega)) Nub1_at_251
                        have N16ub1_at_266 : Nm ty F266 (16 + ub1) (((bS g ub1 : Nat) : Int)) := hk266 _ _ (by omega) (by first | omega | (dsimp only; omega)) N16ub1_at_251
                        have h102_at_266 : F266 (102) = .inl (ty 0, 1400, .inl (tt)) := (hf266 (102) (by omega) (by omega) (by omega)).trans h102_at_251
                        have h103_at_266 : F266 (103) = .inl (ty 0, 700, .inl (dd)) := (hf266 (103) (by omega) (by omega) (by omega)).trans h103_at_251
                        have N32_at_266 : Nm ty F266 (32) ((zS g ua) * (zS g ub1)) := hk266 _ _ (by omega) (by first | omega | (dsimp only; omega)) N32
                        refine lv_aload_n hx hb d_M_combine_269 rfl (lv_at hl 0 rfl) ?_
                        refine lv_iload_n hx hb d_M_combine_270 rfl (lv_at hl 1 rfl) ?_
                        refine pw_calli hw (va_runV (As := [.int (iI ((uto : Int)))]) (rest := []) ⟨hx, hb, hml, hown, hq⟩ (c_M_lay l D ty ad M F266 H.size hM (0) ((nS g : Int)) (pS g) hO_at_266 (uto) ((zS g ua) * (zS g ub1)) (((bS g ua : Nat) : Int) * ((bS g ub1 : Nat) : Int)) (g) (by omega) (by rw [← Int.natCast_mul]; exact bb_ne hxb hyb) N32_at_266 N33 hRn_at_266 (by rw [Int.natAbs_mul]; exact (hok.zz h16a h16b1).toMd) (by rw [Int.natAbs_mul]; exact (hok.bb h16a h16b1).toMd)) (cwV 1 hq (gV ml_M_89 im_M_lay se_M_lay in_M m_M_lay) rfl rfl rfl (by decide +kernel) ⟨Nat.le_of_ble_eq_true rfl, Nat.le_of_ble_eq_true rfl⟩) (pw_preV hw (by omega) hO_at_266 rfl) rfl rfl hl.1 rfl (lv_room (Nat.le_of_ble_eq_true rfl)) d_M_combine_271 ⟨Nat.le_of_ble_eq_true rfl, Nat.le_of_ble_eq_true rfl⟩) (fun r271 F271 H locs q271 hw => ?_)
                        obtain ⟨er271, hRn, hf271⟩ := q271
                        have hO_at_271 : F271 (98) = .inr (6, [.int (iI (0)), .ref (ad (99)), .ref (ad (100)), .ref (ad (101)), .ref (ad (102)), .int (iI ((nS g : Int))), .int (iI (pS g)), .ref (ad (103))]) := (hf271 (98) (by omega) (by omega) (by omega)).trans hO_at_266
                        have h102_at_271 : F271 (102) = .inl (ty 0, 1400, .inl (tt)) := (hf271 (102) (by omega) (by omega) (by omega)).trans h102_at_266
                        have h103_at_271 : F271 (103) = .inl (ty 0, 700, .inl (dd)) := (hf271 (103) (by omega) (by omega) (by omega)).trans h103_at_266
                        rw [← hQ]
                        exact pw_iret hx hb hr hlocks hw (by
                          rw [o_combine_ok ⟨hRto, hRa, hRb1⟩ ⟨by omega, by omega⟩ h8 hd9 (u := uto) (x := ua) (y := ub1) (by omega) (by omega) (by omega), c134_2, cmb_2]
                          rw [flz_n (by rw [← Int.natCast_mul]; exact Int.natCast_nonneg _), Int.natAbs_mul, Int.natAbs_natCast, Int.natAbs_natCast] at er271 hRn
                          exact ⟨er271, Mo.mk' (s_lay_t ..) hO_at_271 hRn h102_at_271 htt h103_at_271, fun y9 h1 => ((hf271 (y9) (by omega) (by omega) (by omega)).trans ((hf266 (y9) (by omega) (by omega) (by omega)).trans (hf251 (y9) (by omega) (by omega) (by omega)))).trans (hfr y9 (by omega))⟩) d_M_combine_274
                      · skip
                        by_cases c134_3 : kd = 3
                        · refine wz_tabIn (k := 3) (off := 141) (tgt := 275) hx hb d_M_combine_134 c134_3 (by omega) (by omega) (by decide) rfl (by decide) ?_
                          refine lv_aload_n hx hb d_M_combine_275 rfl (lv_at hl 0 rfl) ?_
                          refine wz_bipush (n := 32) hx hb d_M_combine_276 (by decide) ?_
                          refine lv_iload_n hx hb d_M_combine_278 rfl (lv_at hl 3 rfl) ?_
                          refine lv_iload hx hb d_M_combine_279 (lv_at hl 4 rfl) ?_
                          refine pw_calli hw (va_runS (As := [.int (iI ((ub1 : Int)))]) (rest := [.int (iI ((ua : Int))), .int (iI (32)), .ref (ad (98))]) ⟨hx, hb, hml, hown, hq⟩ (c_M_below l D ty ad M F91 H.size (ub1) (by omega)) (va_cwS 1 hq (gS ml_M_82 st_M_below in_M m_M_below) rfl rfl rfl (by decide +kernel) ⟨Nat.le_of_ble_eq_true rfl, Nat.le_of_ble_eq_true rfl⟩) (pw_preS hw) rfl rfl hl.1 rfl (lv_room (Nat.le_of_ble_eq_true rfl)) d_M_combine_281 ⟨Nat.le_of_ble_eq_true rfl, Nat.le_of_ble_eq_true rfl⟩) (fun r281 F281 H locs q281 hw => ?_)
                          obtain ⟨er281, eF281⟩ := q281
                          rw [eF281] at hw
                          clear eF281
                          subst er281
                          refine pw_callv hw (va_runV (As := [.int (iI (32)), .int (iI ((ua : Int))), .int (iI (((16 + ub1 : Nat) : Int)))]) (rest := []) ⟨hx, hb, hml, hown, hq⟩ (c_M_times l D ty ad M F91 H.size hM (0) ((nS g : Int)) (pS g) hO (32) (ua) (16 + ub1) (zS g ua) (((bS g ub1 : Nat) : Int)) (by omega) (by omega) (by omega) (by omega) (by omega) Nua N16ub1 ((hok.mm h16a h16b1).toMd)) (cwV 3 hq (gV ml_M_92 im_M_times se_M_times in_M m_M_times) rfl rfl rfl (by decide +kernel) ⟨Nat.le_of_ble_eq_true rfl, Nat.le_of_ble_eq_true rfl⟩) (pw_preV hw (by omega) hO rfl) rfl rfl hl.1 rfl (lv_room (Nat.le_of_ble_eq_true rfl)) d_M_combine_284 ⟨Nat.le_of_ble_eq_true rfl, Nat.le_of_ble_eq_true rfl⟩) (fun F284 H locs q284 hw => ?_)
                          obtain ⟨N32, hk284, hf284⟩ := q284
                          have hO_at_284 : F284 (98) = .inr (6, [.int (iI (0)), .ref (ad (99)), .ref (ad (100)), .ref (ad (101)), .ref (ad (102)), .int (iI ((nS g : Int))), .int (iI (pS g)), .ref (ad (103))]) := (hf284 (98) (by omega) (by omega) (by omega)).trans hO
                          have hRn_at_284 : Rn ty F284 (g) := hRn.kq hk284 (fun c9 h8 h9 => by first | omega | (dsimp only at h9; omega))
                          have Nua_at_284 : Nm ty F284 (ua) (zS g ua) := hk284 _ _ (by omega) (by first | omega | (dsimp only; omega)) Nua
                          have N16ua_at_284 : Nm ty F284 (16 + ua) (((bS g ua : Nat) : Int)) := hk284 _ _ (by omega) (by first | omega | (dsimp only; omega)) N16ua
                          have Nub1_at_284 : Nm ty F284 (ub1) (zS g ub1) := hk284 _ _ (by omega) (by first | omega | (dsimp only; omega)) Nub1
                          have N16ub1_at_284 : Nm ty F284 (16 + ub1) (((bS g ub1 : Nat) : Int)) := hk284 _ _ (by omega) (by first | omega | (dsimp only; omega)) N16ub1
                          have h102_at_284 : F284 (102) = .inl (ty 0, 1400, .inl (tt)) := (hf284 (102) (by omega) (by omega) (by omega)).trans h102
                          have h103_at_284 : F284 (103) = .inl (ty 0, 700, .inl (dd)) := (hf284 (103) (by omega) (by omega) (by omega)).trans h103
                          refine lv_aload_n hx hb d_M_combine_287 rfl (lv_at hl 0 rfl) ?_
                          refine wz_bipush (n := 33) hx hb d_M_combine_288 (by decide) ?_
                          refine lv_iload_n hx hb d_M_combine_290 rfl (lv_at hl 3 rfl) ?_
                          refine pw_calli hw (va_runS (As := [.int (iI ((ua : Int)))]) (rest := [.int (iI (33)), .ref (ad (98))]) ⟨hx, hb, hml, hown, hq⟩ (c_M_below l D ty ad M F284 H.size (ua) (by omega)) (va_cwS 1 hq (gS ml_M_82 st_M_below in_M m_M_below) rfl rfl rfl (by decide +kernel) ⟨Nat.le_of_ble_eq_true rfl, Nat.le_of_ble_eq_true rfl⟩) (pw_preS hw) rfl rfl hl.1 rfl (lv_room (Nat.le_of_ble_eq_true rfl)) d_M_combine_291 ⟨Nat.le_of_ble_eq_true rfl, Nat.le_of_ble_eq_true rfl⟩) (fun r291 F291 H locs q291 hw => ?_)
                          obtain ⟨er291, eF291⟩ := q291
                          rw [eF291] at hw
                          clear eF291
                          subst er291
                          refine lv_iload hx hb d_M_combine_294 (lv_at hl 4 rfl) ?_
                          refine pw_callv hw (va_runV (As := [.int (iI (33)), .int (iI (((16 + ua : Nat) : Int))), .int (iI ((ub1 : Int)))]) (rest := []) ⟨hx, hb, hml, hown, hq⟩ (c_M_times l D ty ad M F284 H.size hM (0) ((nS g : Int)) (pS g) hO_at_284 (33) (16 + ua) (ub1) (((bS g ua : Nat) : Int)) (zS g ub1) (by omega) (by omega) (by omega) (by omega) (by omega) N16ua_at_284 Nub1_at_284 (by rw [Nat.mul_comm]; exact (hok.mm h16b1 h16a).toMd)) (cwV 3 hq (gV ml_M_92 im_M_times se_M_times in_M m_M_times) rfl rfl rfl (by decide +kernel) ⟨Nat.le_of_ble_eq_true rfl, Nat.le_of_ble_eq_true rfl⟩) (pw_preV hw (by omega) hO_at_284 rfl) rfl rfl hl.1 rfl (lv_room (Nat.le_of_ble_eq_true rfl)) d_M_combine_296 ⟨Nat.le_of_ble_eq_true rfl, Nat.le_of_ble_eq_true rfl⟩) (fun F296 H locs q296 hw => ?_)
                          obtain ⟨N33, hk296, hf296⟩ := q296
                          have hO_at_296 : F296 (98) = .inr (6, [.int (iI (0)), .ref (ad (99)), .ref (ad (100)), .ref (ad (101)), .ref (ad (102)), .int (iI ((nS g : Int))), .int (iI (pS g)), .ref (ad (103))]) := (hf296 (98) (by omega) (by omega) (by omega)).trans hO_at_284
                          have hRn_at_296 : Rn ty F296 (g) := hRn_at_284.kq hk296 (fun c9 h8 h9 => by first | omega | (dsimp only at h9; omega))
                          have Nua_at_296 : Nm ty F296 (ua) (zS g ua) := hk296 _ _ (by omega) (by first | omega | (dsimp only; omega)) Nua_at_284
                          have N16ua_at_296 : Nm ty F296 (16 + ua) (((bS g ua : Nat) : Int)) := hk296 _ _ (by omega) (by first | omega | (dsimp only; omega)) N16ua_at_284
                          have Nub1_at_296 : Nm ty F296 (ub1) (zS g ub1) := hk296 _ _ (by omega) (by first | omega | (dsimp only; omega)) Nub1_at_284
                          have N16ub1_at_296 : Nm ty F296 (16 + ub1) (((bS g ub1 : Nat) : Int)) := hk296 _ _ (by omega) (by first | omega | (dsimp only; omega)) N16ub1_at_284
                          have h102_at_296 : F296 (102) = .inl (ty 0, 1400, .inl (tt)) := (hf296 (102) (by omega) (by omega) (by omega)).trans h102_at_284
                          have h103_at_296 : F296 (103) = .inl (ty 0, 700, .inl (dd)) := (hf296 (103) (by omega) (by omega) (by omega)).trans h103_at_284
                          have N32_at_296 : Nm ty F296 (32) ((zS g ua) * ((bS g ub1 : Nat) : Int)) := hk296 _ _ (by omega) (by first | omega | (dsimp only; omega)) N32
                          refine lv_aload_n hx hb d_M_combine_299 rfl (lv_at hl 0 rfl) ?_
                          refine lv_iload_n hx hb d_M_combine_300 rfl (lv_at hl 1 rfl) ?_
                          refine pw_calli hw (va_runV (As := [.int (iI ((uto : Int)))]) (rest := []) ⟨hx, hb, hml, hown, hq⟩ (c_M_lay l D ty ad M F296 H.size hM (0) ((nS g : Int)) (pS g) hO_at_296 (uto) ((zS g ua) * ((bS g ub1 : Nat) : Int)) (((bS g ua : Nat) : Int) * (zS g ub1)) (g) (by omega) (Int.mul_ne_zero (by omega) (hy0 (by omega))) N32_at_296 N33 hRn_at_296 (by rw [Int.natAbs_mul]; exact (hok.mm h16a h16b1).toMd) (by rw [Int.natAbs_mul, Nat.mul_comm]; exact (hok.mm h16b1 h16a).toMd)) (cwV 1 hq (gV ml_M_89 im_M_lay se_M_lay in_M m_M_lay) rfl rfl rfl (by decide +kernel) ⟨Nat.le_of_ble_eq_true rfl, Nat.le_of_ble_eq_true rfl⟩) (pw_preV hw (by omega) hO_at_296 rfl) rfl rfl hl.1 rfl (lv_room (Nat.le_of_ble_eq_true rfl)) d_M_combine_301 ⟨Nat.le_of_ble_eq_true rfl, Nat.le_of_ble_eq_true rfl⟩) (fun r301 F301 H locs q301 hw => ?_)
                          obtain ⟨er301, hRn, hf301⟩ := q301
                          have hO_at_301 : F301 (98) = .inr (6, [.int (iI (0)), .ref (ad (99)), .ref (ad (100)), .ref (ad (101)), .ref (ad (102)), .int (iI ((nS g : Int))), .int (iI (pS g)), .ref (ad (103))]) := (hf301 (98) (by omega) (by omega) (by omega)).trans hO_at_296
                          have h102_at_301 : F301 (102) = .inl (ty 0, 1400, .inl (tt)) := (hf301 (102) (by omega) (by omega) (by omega)).trans h102_at_296
                          have h103_at_301 : F301 (103) = .inl (ty 0, 700, .inl (dd)) := (hf301 (103) (by omega) (by omega) (by omega)).trans h103_at_296
                          rw [← hQ]
                          exact pw_iret hx hb hr hlocks hw (by
                            rw [o_combine_ok ⟨hRto, hRa, hRb1⟩ ⟨by omega, by omega⟩ h8 hd9 (u := uto) (x := ua) (y := ub1) (by omega) (by omega) (by omega), c134_3, cmb_3]
                            rw [flz_mul (by omega), Int.natAbs_mul, Int.natAbs_natCast, Nat.mul_comm] at er301 hRn
                            exact ⟨er301, Mo.mk' (s_lay_t ..) hO_at_301 hRn h102_at_301 htt h103_at_301, fun y9 h1 => ((hf301 (y9) (by omega) (by omega) (by omega)).trans ((hf296 (y9) (by omega) (by omega) (by omega)).trans (hf284 (y9) (by omega) (by omega) (by omega)))).trans (hfr y9 (by omega))⟩) d_M_combine_304
                        · skip
                          by_cases c134_4 : kd = 4
                          · refine wz_tabIn (k := 4) (off := 171) (tgt := 305) hx hb d_M_combine_134 c134_4 (by omega) (by omega) (by decide) rfl (by decide) ?_
                            refine lv_aload_n hx hb d_M_combine_305 rfl (lv_at hl 0 rfl) ?_
                            refine lv_iload_n hx hb d_M_combine_306 rfl (lv_at hl 1 rfl) ?_
                            refine lv_aload_n hx hb d_M_combine_307 rfl (lv_at hl 0 rfl) ?_
                            refine lv_iload_n hx hb d_M_combine_308 rfl (lv_at hl 3 rfl) ?_
                            refine lv_iload hx hb d_M_combine_309 (lv_at hl 4 rfl) ?_
                            refine pw_calli hw (va_runV (As := [.int (iI ((ua : Int))), .int (iI ((ub1 : Int)))]) (rest := [.int (iI ((uto : Int))), .ref (ad (98))]) ⟨hx, hb, hml, hown, hq⟩ (c_M_compare l D ty ad M F91 H.size hM (0) ((nS g : Int)) (pS g) hO g ua ub1 h16a h16b1 hRn hok) (cwV 2 hq (gV ml_M_101 im_M_compare se_M_compare in_M m_M_compare) rfl rfl rfl (by decide +kernel) ⟨Nat.le_of_ble_eq_true rfl, Nat.le_of_ble_eq_true rfl⟩) (pw_preV hw (by omega) hO rfl) rfl rfl hl.1 rfl (lv_room (Nat.le_of_ble_eq_true rfl)) d_M_combine_311 ⟨Nat.le_of_ble_eq_true rfl, Nat.le_of_ble_eq_true rfl⟩) (fun r311 F311 H locs q311 hw => ?_)
                            obtain ⟨er311, hk311, hf311⟩ := q311
                            subst er311
                            have hcb := cmpZ_b (zS g ua * ((bS g ub1 : Nat) : Int)) (zS g ub1 * ((bS g ua : Nat) : Int))
                            have hO_at_311 : F311 (98) = .inr (6, [.int (iI (0)), .ref (ad (99)), .ref (ad (100)), .ref (ad (101)), .ref (ad (102)), .int (iI ((nS g : Int))), .int (iI (pS g)), .ref (ad (103))]) := (hf311 (98) (by omega) (by omega) (by omega)).trans hO
                            have hRn_at_311 : Rn ty F311 (g) := hRn.kq hk311 (fun c9 h8 h9 => by first | omega | (dsimp only at h9; omega))
                            have Nua_at_311 : Nm ty F311 (ua) (zS g ua) := hk311 _ _ (by omega) (by first | omega | (dsimp only; omega)) Nua
                            have N16ua_at_311 : Nm ty F311 (16 + ua) (((bS g ua : Nat) : Int)) := hk311 _ _ (by omega) (by first | omega | (dsimp only; omega)) N16ua
                            have Nub1_at_311 : Nm ty F311 (ub1) (zS g ub1) := hk311 _ _ (by omega) (by first | omega | (dsimp only; omega)) Nub1
                            have N16ub1_at_311 : Nm ty F311 (16 + ub1) (((bS g ub1 : Nat) : Int)) := hk311 _ _ (by omega) (by first | omega | (dsimp only; omega)) N16ub1
                            have h102_at_311 : F311 (102) = .inl (ty 0, 1400, .inl (tt)) := (hf311 (102) (by omega) (by omega) (by omega)).trans h102
                            have h103_at_311 : F311 (103) = .inl (ty 0, 700, .inl (dd)) := (hf311 (103) (by omega) (by omega) (by omega)).trans h103
                            refine wz_if_gt (tgt := 321) hx hb d_M_combine_314 (by decide) (by omega) (by omega) (fun c314 => ?_) (fun c314 => ?_)
                            · have hc9 : ¬ zS g ua * ((bS g ub1 : Nat) : Int) ≤ zS g ub1 * ((bS g ua : Nat) : Int) := fun h9 => by have := cmpZ_le.mpr h9; omega
                              refine lv_iload hx hb d_M_combine_321 (lv_at hl 4 rfl) ?_
                              refine pw_calli hw (va_runV (As := [.int (iI ((uto : Int))), .int (iI ((ub1 : Int)))]) (rest := []) ⟨hx, hb, hml, hown, hq⟩ (c_M_take l D ty ad M F311 H.size hM (0) ((nS g : Int)) (pS g) hO_at_311 g uto ub1 h16to (h16b1) hRn_at_311 hok) (cwV 2 hq (gV ml_M_104 im_M_take se_M_take in_M m_M_take) rfl rfl rfl (by decide +kernel) ⟨Nat.le_of_ble_eq_true rfl, Nat.le_of_ble_eq_true rfl⟩) (pw_preV hw (by omega) hO_at_311 rfl) rfl rfl hl.1 rfl (lv_room (Nat.le_of_ble_eq_true rfl)) d_M_combine_323 ⟨Nat.le_of_ble_eq_true rfl, Nat.le_of_ble_eq_true rfl⟩) (fun r323 F323 H locs q323 hw => ?_)
                              obtain ⟨er323, hRn, hf323⟩ := q323
                              have hO_at_323 : F323 (98) = .inr (6, [.int (iI (0)), .ref (ad (99)), .ref (ad (100)), .ref (ad (101)), .ref (ad (102)), .int (iI ((nS g : Int))), .int (iI (pS g)), .ref (ad (103))]) := (hf323 (98) (by omega) (by omega) (by omega)).trans hO_at_311
                              have h102_at_323 : F323 (102) = .inl (ty 0, 1400, .inl (tt)) := (hf323 (102) (by omega) (by omega) (by omega)).trans h102_at_311
                              have h103_at_323 : F323 (103) = .inl (ty 0, 700, .inl (dd)) := (hf323 (103) (by omega) (by omega) (by omega)).trans h103_at_311
                              rw [← hQ]
                              exact pw_iret hx hb hr hlocks hw (by
                                rw [o_combine_ok ⟨hRto, hRa, hRb1⟩ ⟨by omega, by omega⟩ h8 hd9 (u := uto) (x := ua) (y := ub1) (by omega) (by omega) (by omega), c134_4, cmb_4, if_neg (by exact hc9)]
                                exact ⟨er323, Mo.mk' (s_lay_t ..) hO_at_323 hRn h102_at_323 htt h103_at_323, fun y9 h1 => ((hf323 (y9) (by omega) (by omega) (by omega)).trans (hf311 (y9) (by omega) (by omega) (by omega))).trans (hfr y9 (by omega))⟩) d_M_combine_326
                            · have hc9 : zS g ua * ((bS g ub1 : Nat) : Int) ≤ zS g ub1 * ((bS g ua : Nat) : Int) := cmpZ_le.mp (by omega)
                              refine lv_iload_n hx hb d_M_combine_317 rfl (lv_at hl 3 rfl) ?_
                              refine lv_goto (tgt := 323) hx hb d_M_combine_318 (by decide) ?_
                              refine pw_calli hw (va_runV (As := [.int (iI ((uto : Int))), .int (iI ((ua : Int)))]) (rest := []) ⟨hx, hb, hml, hown, hq⟩ (c_M_take l D ty ad M F311 H.size hM (0) ((nS g : Int)) (pS g) hO_at_311 g uto ua h16to (h16a) hRn_at_311 hok) (cwV 2 hq (gV ml_M_104 im_M_take se_M_take in_M m_M_take) rfl rfl rfl (by decide +kernel) ⟨Nat.le_of_ble_eq_true rfl, Nat.le_of_ble_eq_true rfl⟩) (pw_preV hw (by omega) hO_at_311 rfl) rfl rfl hl.1 rfl (lv_room (Nat.le_of_ble_eq_true rfl)) d_M_combine_323 ⟨Nat.le_of_ble_eq_true rfl, Nat.le_of_ble_eq_true rfl⟩) (fun r323 F323 H locs q323 hw => ?_)
                              obtain ⟨er323, hRn, hf323⟩ := q323
                              have hO_at_323 : F323 (98) = .inr (6, [.int (iI (0)), .ref (ad (99)), .ref (ad (100)), .ref (ad (101)), .ref (ad (102)), .int (iI ((nS g : Int))), .int (iI (pS g)), .ref (ad (103))]) := (hf323 (98) (by omega) (by omega) (by omega)).trans hO_at_311
                              have h102_at_323 : F323 (102) = .inl (ty 0, 1400, .inl (tt)) := (hf323 (102) (by omega) (by omega) (by omega)).trans h102_at_311
                              have h103_at_323 : F323 (103) = .inl (ty 0, 700, .inl (dd)) := (hf323 (103) (by omega) (by omega) (by omega)).trans h103_at_311
                              rw [← hQ]
                              exact pw_iret hx hb hr hlocks hw (by
                                rw [o_combine_ok ⟨hRto, hRa, hRb1⟩ ⟨by omega, by omega⟩ h8 hd9 (u := uto) (x := ua) (y := ub1) (by omega) (by omega) (by omega), c134_4, cmb_4, if_pos (by exact hc9)]
                                exact ⟨er323, Mo.mk' (s_lay_t ..) hO_at_323 hRn h102_at_323 htt h103_at_323, fun y9 h1 => ((hf323 (y9) (by omega) (by omega) (by omega)).trans (hf311 (y9) (by omega) (by omega) (by omega))).trans (hfr y9 (by omega))⟩) d_M_combine_326
                          · skip
                            by_cases c134_5 : kd = 5
                            · refine wz_tabIn (k := 5) (off := 193) (tgt := 327) hx hb d_M_combine_134 c134_5 (by omega) (by omega) (by decide) rfl (by decide) ?_
                              refine lv_aload_n hx hb d_M_combine_327 rfl (lv_at hl 0 rfl) ?_
                              refine lv_iload_n hx hb d_M_combine_328 rfl (lv_at hl 1 rfl) ?_
                              refine lv_aload_n hx hb d_M_combine_329 rfl (lv_at hl 0 rfl) ?_
                              refine lv_iload_n hx hb d_M_combine_330 rfl (lv_at hl 3 rfl) ?_
                              refine lv_iload hx hb d_M_combine_331 (lv_at hl 4 rfl) ?_
                              refine pw_calli hw (va_runV (As := [.int (iI ((ua : Int))), .int (iI ((ub1 : Int)))]) (rest := [.int (iI ((uto : Int))), .ref (ad (98))]) ⟨hx, hb, hml, hown, hq⟩ (c_M_compare l D ty ad M F91 H.size hM (0) ((nS g : Int)) (pS g) hO g ua ub1 h16a h16b1 hRn hok) (cwV 2 hq (gV ml_M_101 im_M_compare se_M_compare in_M m_M_compare) rfl rfl rfl (by decide +kernel) ⟨Nat.le_of_ble_eq_true rfl, Nat.le_of_ble_eq_true rfl⟩) (pw_preV hw (by omega) hO rfl) rfl rfl hl.1 rfl (lv_room (Nat.le_of_ble_eq_true rfl)) d_M_combine_333 ⟨Nat.le_of_ble_eq_true rfl, Nat.le_of_ble_eq_true rfl⟩) (fun r333 F333 H locs q333 hw => ?_)
                              obtain ⟨er333, hk333, hf333⟩ := q333
                              subst er333
                              have hcb := cmpZ_b (zS g ua * ((bS g ub1 : Nat) : Int)) (zS g ub1 * ((bS g ua : Nat) : Int))
                              have hO_at_333 : F333 (98) = .inr (6, [.int (iI (0)), .ref (ad (99)), .ref (ad (100)), .ref (ad (101)), .ref (ad (102)), .int (iI ((nS g : Int))), .int (iI (pS g)), .ref (ad (103))]) := (hf333 (98) (by omega) (by omega) (by omega)).trans hO
                              have hRn_at_333 : Rn ty F333 (g) := hRn.kq hk333 (fun c9 h8 h9 => by first | omega | (dsimp only at h9; omega))
                              have Nua_at_333 : Nm ty F333 (ua) (zS g ua) := hk333 _ _ (by omega) (by first | omega | (dsimp only; omega)) Nua
                              have N16ua_at_333 : Nm ty F333 (16 + ua) (((bS g ua : Nat) : Int)) := hk333 _ _ (by omega) (by first | omega | (dsimp only; omega)) N16ua
                              have Nub1_at_333 : Nm ty F333 (ub1) (zS g ub1) := hk333 _ _ (by omega) (by first | omega | (dsimp only; omega)) Nub1
                              have N16ub1_at_333 : Nm ty F333 (16 + ub1) (((bS g ub1 : Nat) : Int)) := hk333 _ _ (by omega) (by first | omega | (dsimp only; omega)) N16ub1
                              have h102_at_333 : F333 (102) = .inl (ty 0, 1400, .inl (tt)) := (hf333 (102) (by omega) (by omega) (by omega)).trans h102
                              have h103_at_333 : F333 (103) = .inl (ty 0, 700, .inl (dd)) := (hf333 (103) (by omega) (by omega) (by omega)).trans h103
                              refine wz_if_lt (tgt := 343) hx hb d_M_combine_336 (by decide) (by omega) (by omega) (fun c336 => ?_) (fun c336 => ?_)
                              · have hc9 : ¬ zS g ub1 * ((bS g ua : Nat) : Int) ≤ zS g ua * ((bS g ub1 : Nat) : Int) := fun h9 => by have := cmpZ_ge.mpr h9; omega
                                refine lv_iload hx hb d_M_combine_343 (lv_at hl 4 rfl) ?_
                                refine pw_calli hw (va_runV (As := [.int (iI ((uto : Int))), .int (iI ((ub1 : Int)))]) (rest := []) ⟨hx, hb, hml, hown, hq⟩ (c_M_take l D ty ad M F333 H.size hM (0) ((nS g : Int)) (pS g) hO_at_333 g uto ub1 h16to (h16b1) hRn_at_333 hok) (cwV 2 hq (gV ml_M_104 im_M_take se_M_take in_M m_M_take) rfl rfl rfl (by decide +kernel) ⟨Nat.le_of_ble_eq_true rfl, Nat.le_of_ble_eq_true rfl⟩) (pw_preV hw (by omega) hO_at_333 rfl) rfl rfl hl.1 rfl (lv_room (Nat.le_of_ble_eq_true rfl)) d_M_combine_345 ⟨Nat.le_of_ble_eq_true rfl, Nat.le_of_ble_eq_true rfl⟩) (fun r345 F345 H locs q345 hw => ?_)
                                obtain ⟨er345, hRn, hf345⟩ := q345
                                have hO_at_345 : F345 (98) = .inr (6, [.int (iI (0)), .ref (ad (99)), .ref (ad (100)), .ref (ad (101)), .ref (ad (102)), .int (iI ((nS g : Int))), .int (iI (pS g)), .ref (ad (103))]) := (hf345 (98) (by omega) (by omega) (by omega)).trans hO_at_333
                                have h102_at_345 : F345 (102) = .inl (ty 0, 1400, .inl (tt)) := (hf345 (102) (by omega) (by omega) (by omega)).trans h102_at_333
                                have h103_at_345 : F345 (103) = .inl (ty 0, 700, .inl (dd)) := (hf345 (103) (by omega) (by omega) (by omega)).trans h103_at_333
                                rw [← hQ]
                                exact pw_iret hx hb hr hlocks hw (by
                                  rw [o_combine_ok ⟨hRto, hRa, hRb1⟩ ⟨by omega, by omega⟩ h8 hd9 (u := uto) (x := ua) (y := ub1) (by omega) (by omega) (by omega), c134_5, cmb_5, if_neg (by exact hc9)]
                                  exact ⟨er345, Mo.mk' (s_lay_t ..) hO_at_345 hRn h102_at_345 htt h103_at_345, fun y9 h1 => ((hf345 (y9) (by omega) (by omega) (by omega)).trans (hf333 (y9) (by omega) (by omega) (by omega))).trans (hfr y9 (by omega))⟩) d_M_combine_348
                              · have hc9 : zS g ub1 * ((bS g ua : Nat) : Int) ≤ zS g ua * ((bS g ub1 : Nat) : Int) := cmpZ_ge.mp (by omega)
                                refine lv_iload_n hx hb d_M_combine_339 rfl (lv_at hl 3 rfl) ?_
                                refine lv_goto (tgt := 345) hx hb d_M_combine_340 (by decide) ?_
                                refine pw_calli hw (va_runV (As := [.int (iI ((uto : Int))), .int (iI ((ua : Int)))]) (rest := []) ⟨hx, hb, hml, hown, hq⟩ (c_M_take l D ty ad M F333 H.size hM (0) ((nS g : Int)) (pS g) hO_at_333 g uto ua h16to (h16a) hRn_at_333 hok) (cwV 2 hq (gV ml_M_104 im_M_take se_M_take in_M m_M_take) rfl rfl rfl (by decide +kernel) ⟨Nat.le_of_ble_eq_true rfl, Nat.le_of_ble_eq_true rfl⟩) (pw_preV hw (by omega) hO_at_333 rfl) rfl rfl hl.1 rfl (lv_room (Nat.le_of_ble_eq_true rfl)) d_M_combine_345 ⟨Nat.le_of_ble_eq_true rfl, Nat.le_of_ble_eq_true rfl⟩) (fun r345 F345 H locs q345 hw => ?_)
                                obtain ⟨er345, hRn, hf345⟩ := q345
                                have hO_at_345 : F345 (98) = .inr (6, [.int (iI (0)), .ref (ad (99)), .ref (ad (100)), .ref (ad (101)), .ref (ad (102)), .int (iI ((nS g : Int))), .int (iI (pS g)), .ref (ad (103))]) := (hf345 (98) (by omega) (by omega) (by omega)).trans hO_at_333
                                have h102_at_345 : F345 (102) = .inl (ty 0, 1400, .inl (tt)) := (hf345 (102) (by omega) (by omega) (by omega)).trans h102_at_333
                                have h103_at_345 : F345 (103) = .inl (ty 0, 700, .inl (dd)) := (hf345 (103) (by omega) (by omega) (by omega)).trans h103_at_333
                                rw [← hQ]
                                exact pw_iret hx hb hr hlocks hw (by
                                  rw [o_combine_ok ⟨hRto, hRa, hRb1⟩ ⟨by omega, by omega⟩ h8 hd9 (u := uto) (x := ua) (y := ub1) (by omega) (by omega) (by omega), c134_5, cmb_5, if_pos (by exact hc9)]
                                  exact ⟨er345, Mo.mk' (s_lay_t ..) hO_at_345 hRn h102_at_345 htt h103_at_345, fun y9 h1 => ((hf345 (y9) (by omega) (by omega) (by omega)).trans (hf333 (y9) (by omega) (by omega) (by omega))).trans (hfr y9 (by omega))⟩) d_M_combine_348
                            · skip
                              by_cases c134_6 : kd = 6
                              · refine wz_tabIn (k := 6) (off := 215) (tgt := 349) hx hb d_M_combine_134 c134_6 (by omega) (by omega) (by decide) rfl (by decide) ?_
                                refine lv_aload_n hx hb d_M_combine_349 rfl (lv_at hl 0 rfl) ?_
                                refine lv_iload_n hx hb d_M_combine_350 rfl (lv_at hl 3 rfl) ?_
                                refine lv_iload hx hb d_M_combine_351 (lv_at hl 4 rfl) ?_
                                refine pw_callv hw (va_runV (As := [.int (iI ((ua : Int))), .int (iI ((ub1 : Int)))]) (rest := []) ⟨hx, hb, hml, hown, hq⟩ (c_M_wholeQuotient l D ty ad M F91 H.size hM (0) ((nS g : Int)) (pS g) hO g ua ub1 h16a h16b1 hRn hok (hy0 (by omega))) (cwV 2 hq (gV ml_M_107 im_M_wholeQuotient se_M_wholeQuotient in_M m_M_wholeQuotient) rfl rfl rfl (by decide +kernel) ⟨Nat.le_of_ble_eq_true rfl, Nat.le_of_ble_eq_true rfl⟩) (pw_preV hw (by omega) hO rfl) rfl rfl hl.1 rfl (lv_room (Nat.le_of_ble_eq_true rfl)) d_M_combine_353 ⟨Nat.le_of_ble_eq_true rfl, Nat.le_of_ble_eq_true rfl⟩) (fun F353 H locs q353 hw => ?_)
                                obtain ⟨N41, N39, N40, hk353, hf353⟩ := q353
                                have hO_at_353 : F353 (98) = .inr (6, [.int (iI (0)), .ref (ad (99)), .ref (ad (100)), .ref (ad (101)), .ref (ad (102)), .int (iI ((nS g : Int))), .int (iI (pS g)), .ref (ad (103))]) := (hf353 (98) (by omega) (by omega) (by omega)).trans hO
                                have hRn_at_353 : Rn ty F353 (g) := hRn.kq hk353 (fun c9 h8 h9 => by first | omega | (dsimp only at h9; omega))
                                have Nua_at_353 : Nm ty F353 (ua) (zS g ua) := hk353 _ _ (by omega) (by first | omega | (dsimp only; omega)) Nua
                                have N16ua_at_353 : Nm ty F353 (16 + ua) (((bS g ua : Nat) : Int)) := hk353 _ _ (by omega) (by first | omega | (dsimp only; omega)) N16ua
                                have Nub1_at_353 : Nm ty F353 (ub1) (zS g ub1) := hk353 _ _ (by omega) (by first | omega | (dsimp only; omega)) Nub1
                                have N16ub1_at_353 : Nm ty F353 (16 + ub1) (((bS g ub1 : Nat) : Int)) := hk353 _ _ (by omega) (by first | omega | (dsimp only; omega)) N16ub1
                                have h102_at_353 : F353 (102) = .inl (ty 0, 1400, .inl (tt)) := (hf353 (102) (by omega) (by omega) (by omega)).trans h102
                                have h103_at_353 : F353 (103) = .inl (ty 0, 700, .inl (dd)) := (hf353 (103) (by omega) (by omega) (by omega)).trans h103
                                refine lv_aload_n hx hb d_M_combine_356 rfl (lv_at hl 0 rfl) ?_
                                refine wz_bipush (n := 32) hx hb d_M_combine_357 (by decide) ?_
                                refine wz_bipush (n := 41) hx hb d_M_combine_359 (by decide) ?_
                                refine pw_callv hw (va_runV (As := [.int (iI (32)), .int (iI (41))]) (rest := []) ⟨hx, hb, hml, hown, hq⟩ (c_M_copy l D ty ad M F353 H.size hM (0) ((nS g : Int)) (pS g) hO_at_353 (32) (41) (by omega) (by omega) (by omega) (flZ (zS g ub1) (zS g ua * ((bS g ub1 : Nat) : Int)) / (((zS g ub1).natAbs * bS g ua : Nat) : Int)) N41) (cwV 2 hq (gV ml_M_55 im_M_copy se_M_copy in_M m_M_copy) rfl rfl rfl (by decide +kernel) ⟨Nat.le_of_ble_eq_true rfl, Nat.le_of_ble_eq_true rfl⟩) (pw_preV hw (by omega) hO_at_353 rfl) rfl rfl hl.1 rfl (lv_room (Nat.le_of_ble_eq_true rfl)) d_M_combine_361 ⟨Nat.le_of_ble_eq_true rfl, Nat.le_of_ble_eq_true rfl⟩) (fun F361 H locs q361 hw => ?_)
                                obtain ⟨N32, hk361, hf361⟩ := q361
                                have hO_at_361 : F361 (98) = .inr (6, [.int (iI (0)), .ref (ad (99)), .ref (ad (100)), .ref (ad (101)), .ref (ad (102)), .int (iI ((nS g : Int))), .int (iI (pS g)), .ref (ad (103))]) := (hf361 (98) (by omega) (by omega) (by omega)).trans hO_at_353
                                have hRn_at_361 : Rn ty F361 (g) := hRn_at_353.kq hk361 (fun c9 h8 h9 => by first | omega | (dsimp only at h9; omega))
                                have Nua_at_361 : Nm ty F361 (ua) (zS g ua) := hk361 _ _ (by omega) (by first | omega | (dsimp only; omega)) Nua_at_353
                                have N16ua_at_361 : Nm ty F361 (16 + ua) (((bS g ua : Nat) : Int)) := hk361 _ _ (by omega) (by first | omega | (dsimp only; omega)) N16ua_at_353
                                have Nub1_at_361 : Nm ty F361 (ub1) (zS g ub1) := hk361 _ _ (by omega) (by first | omega | (dsimp only; omega)) Nub1_at_353
                                have N16ub1_at_361 : Nm ty F361 (16 + ub1) (((bS g ub1 : Nat) : Int)) := hk361 _ _ (by omega) (by first | omega | (dsimp only; omega)) N16ub1_at_353
                                have h102_at_361 : F361 (102) = .inl (ty 0, 1400, .inl (tt)) := (hf361 (102) (by omega) (by omega) (by omega)).trans h102_at_353
                                have h103_at_361 : F361 (103) = .inl (ty 0, 700, .inl (dd)) := (hf361 (103) (by omega) (by omega) (by omega)).trans h103_at_353
                                have N41_at_361 : Nm ty F361 (41) (flZ (zS g ub1) (zS g ua * ((bS g ub1 : Nat) : Int)) / (((zS g ub1).natAbs * bS g ua : Nat) : Int)) := hk361 _ _ (by omega) (by first | omega | (dsimp only; omega)) N41
                                refine lv_aload_n hx hb d_M_combine_364 rfl (lv_at hl 0 rfl) ?_
                                refine wz_bipush (n := 33) hx hb d_M_combine_365 (by decide) ?_
                                refine lv_lconst (v := iL 1) hx hb d_M_combine_367 (by decide) ?_
                                obtain ⟨_, _, _, hA368⟩ := (N32).ma
                                refine pw_callv hw (va_runV (As := [.int (iI (33)), .long (iL (1))]) (rest := []) ⟨hx, hb, hml, hown, hq⟩ (c_M_setLong l D ty ad M F361 H.size hM (0) ((nS g : Int)) (pS g) hO_at_361 _ _ _ hA368 (33) (by omega) (1) (by omega)) (cwV 2 hq (gV ml_M_30 im_M_setLong se_M_setLong in_M m_M_setLong) rfl rfl rfl (by decide +kernel) ⟨Nat.le_of_ble_eq_true rfl, Nat.le_of_ble_eq_true rfl⟩) (pw_preV hw (by omega) hO_at_361 rfl) rfl rfl hl.1 rfl (lv_room (Nat.le_of_ble_eq_true rfl)) d_M_combine_368 ⟨Nat.le_of_ble_eq_true rfl, Nat.le_of_ble_eq_true rfl⟩) (fun F368 H locs q368 hw => ?_)
                                obtain ⟨N33, hk368, hf368⟩ := q368
                                have hO_at_368 : F368 (98) = .inr (6, [.int (iI (0)), .ref (ad (99)), .ref (ad (100)), .ref (ad (101)), .ref (ad (102)), .int (iI ((nS g : Int))), .int (iI (pS g)), .ref (ad (103))]) := (hf368 (98) (by omega) (by omega) (by omega)).trans hO_at_361
                                have hRn_at_368 : Rn ty F368 (g) := hRn_at_361.kq hk368 (fun c9 h8 h9 => by first | omega | (dsimp only at h9; omega))
                                have Nua_at_368 : Nm ty F368 (ua) (zS g ua) := hk368 _ _ (by omega) (by first | omega | (dsimp only; omega)) Nua_at_361
                                have N16ua_at_368 : Nm ty F368 (16 + ua) (((bS g ua : Nat) : Int)) := hk368 _ _ (by omega) (by first | omega | (dsimp only; omega)) N16ua_at_361
                                have Nub1_at_368 : Nm ty F368 (ub1) (zS g ub1) := hk368 _ _ (by omega) (by first | omega | (dsimp only; omega)) Nub1_at_361
                                have N16ub1_at_368 : Nm ty F368 (16 + ub1) (((bS g ub1 : Nat) : Int)) := hk368 _ _ (by omega) (by first | omega | (dsimp only; omega)) N16ub1_at_361
                                have h102_at_368 : F368 (102) = .inl (ty 0, 1400, .inl (tt)) := (hf368 (102) (by omega) (by omega) (by omega)).trans h102_at_361
                                have h103_at_368 : F368 (103) = .inl (ty 0, 700, .inl (dd)) := (hf368 (103) (by omega) (by omega) (by omega)).trans h103_at_361
                                have N41_at_368 : Nm ty F368 (41) (flZ (zS g ub1) (zS g ua * ((bS g ub1 : Nat) : Int)) / (((zS g ub1).natAbs * bS g ua : Nat) : Int)) := hk368 _ _ (by omega) (by first | omega | (dsimp only; omega)) N41_at_361
                                have N32_at_368 : Nm ty F368 (32) (flZ (zS g ub1) (zS g ua * ((bS g ub1 : Nat) : Int)) / (((zS g ub1).natAbs * bS g ua : Nat) : Int)) := hk368 _ _ (by omega) (by first | omega | (dsimp only; omega)) N32
                                refine lv_aload_n hx hb d_M_combine_371 rfl (lv_at hl 0 rfl) ?_
                                refine lv_iload_n hx hb d_M_combine_372 rfl (lv_at hl 1 rfl) ?_
                                refine pw_calli hw (va_runV (As := [.int (iI ((uto : Int)))]) (rest := []) ⟨hx, hb, hml, hown, hq⟩ (c_M_lay l D ty ad M F368 H.size hM (0) ((nS g : Int)) (pS g) hO_at_368 (uto) (flZ (zS g ub1) (zS g ua * ((bS g ub1 : Nat) : Int)) / (((zS g ub1).natAbs * bS g ua : Nat) : Int)) (1) (g) (by omega) (by decide) N32_at_368 N33 hRn_at_368 (fl_md1 (by rw [flZ_abs, Int.natAbs_mul]; exact (hok.mm h16a h16b1).toMd)) (md_1)) (cwV 1 hq (gV ml_M_89 im_M_lay se_M_lay in_M m_M_lay) rfl rfl rfl (by decide +kernel) ⟨Nat.le_of_ble_eq_true rfl, Nat.le_of_ble_eq_true rfl⟩) (pw_preV hw (by omega) hO_at_368 rfl) rfl rfl hl.1 rfl (lv_room (Nat.le_of_ble_eq_true rfl)) d_M_combine_373 ⟨Nat.le_of_ble_eq_true rfl, Nat.le_of_ble_eq_true rfl⟩) (fun r373 F373 H locs q373 hw => ?_)
                                obtain ⟨er373, hRn, hf373⟩ := q373
                                have hO_at_373 : F373 (98) = .inr (6, [.int (iI (0)), .ref (ad (99)), .ref (ad (100)), .ref (ad (101)), .ref (ad (102)), .int (iI ((nS g : Int))), .int (iI (pS g)), .ref (ad (103))]) := (hf373 (98) (by omega) (by omega) (by omega)).trans hO_at_368
                                have h102_at_373 : F373 (102) = .inl (ty 0, 1400, .inl (tt)) := (hf373 (102) (by omega) (by omega) (by omega)).trans h102_at_368
                                have h103_at_373 : F373 (103) = .inl (ty 0, 700, .inl (dd)) := (hf373 (103) (by omega) (by omega) (by omega)).trans h103_at_368
                                rw [← hQ]
                                exact pw_iret hx hb hr hlocks hw (by
                                  rw [o_combine_ok ⟨hRto, hRa, hRb1⟩ ⟨by omega, by omega⟩ h8 hd9 (u := uto) (x := ua) (y := ub1) (by omega) (by omega) (by omega), c134_6, cmb_6]
                                  rw [flz_n (by decide)] at er373 hRn
                                  exact ⟨er373, Mo.mk' (s_lay_t ..) hO_at_373 hRn h102_at_373 htt h103_at_373, fun y9 h1 => ((hf373 (y9) (by omega) (by omega) (by omega)).trans ((hf368 (y9) (by omega) (by omega) (by omega)).trans ((hf361 (y9) (by omega) (by omega) (by omega)).trans (hf353 (y9) (by omega) (by omega) (by omega))))).trans (hfr y9 (by omega))⟩) d_M_combine_376
                              · skip
                                by_cases c134_7 : kd = 7
                                · refine wz_tabIn (k := 7) (off := 243) (tgt := 377) hx hb d_M_combine_134 c134_7 (by omega) (by omega) (by decide) rfl (by decide) ?_
                                  refine lv_aload_n hx hb d_M_combine_377 rfl (lv_at hl 0 rfl) ?_
                                  refine lv_iload_n hx hb d_M_combine_378 rfl (lv_at hl 1 rfl) ?_
                                  refine lv_iload_n hx hb d_M_combine_379 rfl (lv_at hl 3 rfl) ?_
                                  refine lv_iload hx hb d_M_combine_380 (lv_at hl 4 rfl) ?_
                                  refine pw_calli hw (va_runV (As := [.int (iI ((uto : Int))), .int (iI ((ua : Int))), .int (iI ((ub1 : Int)))]) (rest := []) ⟨hx, hb, hml, hown, hq⟩ (c_M_rest l D ty ad M F91 H.size hM (0) ((nS g : Int)) (pS g) hO g ua ub1 h16a h16b1 hRn hok uto h16to (hy0 (by omega))) (cwV 3 hq (gV ml_M_110 im_M_rest se_M_rest in_M m_M_rest) rfl rfl rfl (by decide +kernel) ⟨Nat.le_of_ble_eq_true rfl, Nat.le_of_ble_eq_true rfl⟩) (pw_preV hw (by omega) hO rfl) rfl rfl hl.1 rfl (lv_room (Nat.le_of_ble_eq_true rfl)) d_M_combine_382 ⟨Nat.le_of_ble_eq_true rfl, Nat.le_of_ble_eq_true rfl⟩) (fun r382 F382 H locs q382 hw => ?_)
                                  obtain ⟨er382, hRn, hf382⟩ := q382
                                  have hO_at_382 : F382 (98) = .inr (6, [.int (iI (0)), .ref (ad (99)), .ref (ad (100)), .ref (ad (101)), .ref (ad (102)), .int (iI ((nS g : Int))), .int (iI (pS g)), .ref (ad (103))]) := (hf382 (98) (by omega) (by omega) (by omega)).trans hO
                                  have h102_at_382 : F382 (102) = .inl (ty 0, 1400, .inl (tt)) := (hf382 (102) (by omega) (by omega) (by omega)).trans h102
                                  have h103_at_382 : F382 (103) = .inl (ty 0, 700, .inl (dd)) := (hf382 (103) (by omega) (by omega) (by omega)).trans h103
                                  rw [← hQ]
                                  exact pw_iret hx hb hr hlocks hw (by
                                    rw [o_combine_ok ⟨hRto, hRa, hRb1⟩ ⟨by omega, by omega⟩ h8 hd9 (u := uto) (x := ua) (y := ub1) (by omega) (by omega) (by omega), c134_7, cmb_7]
                                    skip
                                    exact ⟨er382, Mo.mk' (s_lay_t ..) hO_at_382 hRn h102_at_382 htt h103_at_382, fun y9 h1 => (hf382 (y9) (by omega) (by omega) (by omega)).trans (hfr y9 (by omega))⟩) d_M_combine_385
                                · skip
                                  refine wz_tabOut (tgt := 386) hx hb d_M_combine_134 (by omega) (by omega) (by omega) (by decide) ?_
                                  refine lv_aload_n hx hb d_M_combine_386 rfl (lv_at hl 0 rfl) ?_
                                  refine lv_iload_n hx hb d_M_combine_387 rfl (lv_at hl 3 rfl) ?_
                                  refine lv_iload hx hb d_M_combine_388 (lv_at hl 4 rfl) ?_
                                  refine pw_callv hw (va_runV (As := [.int (iI ((ua : Int))), .int (iI ((ub1 : Int)))]) (rest := []) ⟨hx, hb, hml, hown, hq⟩ (c_M_common l D ty ad M F91 H.size hM (0) ((nS g : Int)) (pS g) hO (ua) (ub1) (zS g ua) (zS g ub1) (by omega) (by omega) (by omega) (by omega) Nua Nub1 ((hok.at h16a).1.toMd) ((hok.at h16b1).1.toMd)) (cwV 2 hq (gV ml_M_79 im_M_common se_M_common in_M m_M_common) rfl rfl rfl (by decide +kernel) ⟨Nat.le_of_ble_eq_true rfl, Nat.le_of_ble_eq_true rfl⟩) (pw_preV hw (by omega) hO rfl) rfl rfl hl.1 rfl (lv_room (Nat.le_of_ble_eq_true rfl)) d_M_combine_390 ⟨Nat.le_of_ble_eq_true rfl, Nat.le_of_ble_eq_true rfl⟩) (fun F390 H locs q390 hw => ?_)
                                  obtain ⟨N34, hk390, hf390⟩ := q390
                                  have hO_at_390 : F390 (98) = .inr (6, [.int (iI (0)), .ref (ad (99)), .ref (ad (100)), .ref (ad (101)), .ref (ad (102)), .int (iI ((nS g : Int))), .int (iI (pS g)), .ref (ad (103))]) := (hf390 (98) (by omega) (by omega) (by omega)).trans hO
                                  have hRn_at_390 : Rn ty F390 (g) := hRn.kq hk390 (fun c9 h8 h9 => by first | omega | (dsimp only at h9; omega))
                                  have Nua_at_390 : Nm ty F390 (ua) (zS g ua) := hk390 _ _ (by omega) (by first | omega | (dsimp only; omega)) Nua
                                  have N16ua_at_390 : Nm ty F390 (16 + ua) (((bS g ua : Nat) : Int)) := hk390 _ _ (by omega) (by first | omega | (dsimp only; omega)) N16ua
                                  have Nub1_at_390 : Nm ty F390 (ub1) (zS g ub1) := hk390 _ _ (by omega) (by first | omega | (dsimp only; omega)) Nub1
                                  have N16ub1_at_390 : Nm ty F390 (16 + ub1) (((bS g ub1 : Nat) : Int)) := hk390 _ _ (by omega) (by first | omega | (dsimp only; omega)) N16ub1
                                  have h102_at_390 : F390 (102) = .inl (ty 0, 1400, .inl (tt)) := (hf390 (102) (by omega) (by omega) (by omega)).trans h102
                                  have h103_at_390 : F390 (103) = .inl (ty 0, 700, .inl (dd)) := (hf390 (103) (by omega) (by omega) (by omega)).trans h103
                                  refine lv_aload_n hx hb d_M_combine_393 rfl (lv_at hl 0 rfl) ?_
                                  refine wz_bipush (n := 32) hx hb d_M_combine_394 (by decide) ?_
                                  refine wz_bipush (n := 34) hx hb d_M_combine_396 (by decide) ?_
                                  refine pw_callv hw (va_runV (As := [.int (iI (32)), .int (iI (34))]) (rest := []) ⟨hx, hb, hml, hown, hq⟩ (c_M_copy l D ty ad M F390 H.size hM (0) ((nS g : Int)) (pS g) hO_at_390 (32) (34) (by omega) (by omega) (by omega) (((Nat.gcd (Int.natAbs (zS g ua)) (Int.natAbs (zS g ub1)) : Nat) : Int)) N34) (cwV 2 hq (gV ml_M_55 im_M_copy se_M_copy in_M m_M_copy) rfl rfl rfl (by decide +kernel) ⟨Nat.le_of_ble_eq_true rfl, Nat.le_of_ble_eq_true rfl⟩) (pw_preV hw (by omega) hO_at_390 rfl) rfl rfl hl.1 rfl (lv_room (Nat.le_of_ble_eq_true rfl)) d_M_combine_398 ⟨Nat.le_of_ble_eq_true rfl, Nat.le_of_ble_eq_true rfl⟩) (fun F398 H locs q398 hw => ?_)
                                  obtain ⟨N32, hk398, hf398⟩ := q398
                                  have hO_at_398 : F398 (98) = .inr (6, [.int (iI (0)), .ref (ad (99)), .ref (ad (100)), .ref (ad (101)), .ref (ad (102)), .int (iI ((nS g : Int))), .int (iI (pS g)), .ref (ad (103))]) := (hf398 (98) (by omega) (by omega) (by omega)).trans hO_at_390
                                  have hRn_at_398 : Rn ty F398 (g) := hRn_at_390.kq hk398 (fun c9 h8 h9 => by first | omega | (dsimp only at h9; omega))
                                  have Nua_at_398 : Nm ty F398 (ua) (zS g ua) := hk398 _ _ (by omega) (by first | omega | (dsimp only; omega)) Nua_at_390
                                  have N16ua_at_398 : Nm ty F398 (16 + ua) (((bS g ua : Nat) : Int)) := hk398 _ _ (by omega) (by first | omega | (dsimp only; omega)) N16ua_at_390
                                  have Nub1_at_398 : Nm ty F398 (ub1) (zS g ub1) := hk398 _ _ (by omega) (by first | omega | (dsimp only; omega)) Nub1_at_390
                                  have N16ub1_at_398 : Nm ty F398 (16 + ub1) (((bS g ub1 : Nat) : Int)) := hk398 _ _ (by omega) (by first | omega | (dsimp only; omega)) N16ub1_at_390
                                  have h102_at_398 : F398 (102) = .inl (ty 0, 1400, .inl (tt)) := (hf398 (102) (by omega) (by omega) (by omega)).trans h102_at_390
                                  have h103_at_398 : F398 (103) = .inl (ty 0, 700, .inl (dd)) := (hf398 (103) (by omega) (by omega) (by omega)).trans h103_at_390
                                  have N34_at_398 : Nm ty F398 (34) (((Nat.gcd (Int.natAbs (zS g ua)) (Int.natAbs (zS g ub1)) : Nat) : Int)) := hk398 _ _ (by omega) (by first | omega | (dsimp only; omega)) N34
                                  refine lv_aload_n hx hb d_M_combine_401 rfl (lv_at hl 0 rfl) ?_
                                  refine wz_bipush (n := 33) hx hb d_M_combine_402 (by decide) ?_
                                  refine lv_lconst (v := iL 1) hx hb d_M_combine_404 (by decide) ?_
                                  obtain ⟨_, _, _, hA405⟩ := (N32).ma
                                  refine pw_callv hw (va_runV (As := [.int (iI (33)), .long (iL (1))]) (rest := []) ⟨hx, hb, hml, hown, hq⟩ (c_M_setLong l D ty ad M F398 H.size hM (0) ((nS g : Int)) (pS g) hO_at_398 _ _ _ hA405 (33) (by omega) (1) (by omega)) (cwV 2 hq (gV ml_M_30 im_M_setLong se_M_setLong in_M m_M_setLong) rfl rfl rfl (by decide +kernel) ⟨Nat.le_of_ble_eq_true rfl, Nat.le_of_ble_eq_true rfl⟩) (pw_preV hw (by omega) hO_at_398 rfl) rfl rfl hl.1 rfl (lv_room (Nat.le_of_ble_eq_true rfl)) d_M_combine_405 ⟨Nat.le_of_ble_eq_true rfl, Nat.le_of_ble_eq_true rfl⟩) (fun F405 H locs q405 hw => ?_)
                                  obtain ⟨N33, hk405, hf405⟩ := q405
                                  have hO_at_405 : F405 (98) = .inr (6, [.int (iI (0)), .ref (ad (99)), .ref (ad (100)), .ref (ad (101)), .ref (ad (102)), .int (iI ((nS g : Int))), .int (iI (pS g)), .ref (ad (103))]) := (hf405 (98) (by omega) (by omega) (by omega)).trans hO_at_398
                                  have hRn_at_405 : Rn ty F405 (g) := hRn_at_398.kq hk405 (fun c9 h8 h9 => by first | omega | (dsimp only at h9; omega))
                                  have Nua_at_405 : Nm ty F405 (ua) (zS g ua) := hk405 _ _ (by omega) (by first | omega | (dsimp only; omega)) Nua_at_398
                                  have N16ua_at_405 : Nm ty F405 (16 + ua) (((bS g ua : Nat) : Int)) := hk405 _ _ (by omega) (by first | omega | (dsimp only; omega)) N16ua_at_398
                                  have Nub1_at_405 : Nm ty F405 (ub1) (zS g ub1) := hk405 _ _ (by omega) (by first | omega | (dsimp only; omega)) Nub1_at_398
                                  have N16ub1_at_405 : Nm ty F405 (16 + ub1) (((bS g ub1 : Nat) : Int)) := hk405 _ _ (by omega) (by first | omega | (dsimp only; omega)) N16ub1_at_398
                                  have h102_at_405 : F405 (102) = .inl (ty 0, 1400, .inl (tt)) := (hf405 (102) (by omega) (by omega) (by omega)).trans h102_at_398
                                  have h103_at_405 : F405 (103) = .inl (ty 0, 700, .inl (dd)) := (hf405 (103) (by omega) (by omega) (by omega)).trans h103_at_398
                                  have N34_at_405 : Nm ty F405 (34) (((Nat.gcd (Int.natAbs (zS g ua)) (Int.natAbs (zS g ub1)) : Nat) : Int)) := hk405 _ _ (by omega) (by first | omega | (dsimp only; omega)) N34_at_398
                                  have N32_at_405 : Nm ty F405 (32) (((Nat.gcd (Int.natAbs (zS g ua)) (Int.natAbs (zS g ub1)) : Nat) : Int)) := hk405 _ _ (by omega) (by first | omega | (dsimp only; omega)) N32
                                  refine lv_aload_n hx hb d_M_combine_408 rfl (lv_at hl 0 rfl) ?_
                                  refine lv_iload_n hx hb d_M_combine_409 rfl (lv_at hl 1 rfl) ?_
                                  refine pw_calli hw (va_runV (As := [.int (iI ((uto : Int)))]) (rest := []) ⟨hx, hb, hml, hown, hq⟩ (c_M_lay l D ty ad M F405 H.size hM (0) ((nS g : Int)) (pS g) hO_at_405 (uto) (((Nat.gcd (Int.natAbs (zS g ua)) (Int.natAbs (zS g ub1)) : Nat) : Int)) (1) (g) (by omega) (by decide) N32_at_405 N33 hRn_at_405 (gcd_md (hok.at h16a).1 (hok.at h16b1).1) (md_1)) (cwV 1 hq (gV ml_M_89 im_M_lay se_M_lay in_M m_M_lay) rfl rfl rfl (by decide +kernel) ⟨Nat.le_of_ble_eq_true rfl, Nat.le_of_ble_eq_true rfl⟩) (pw_preV hw (by omega) hO_at_405 rfl) rfl rfl hl.1 rfl (lv_room (Nat.le_of_ble_eq_true rfl)) d_M_combine_410 ⟨Nat.le_of_ble_eq_true rfl, Nat.le_of_ble_eq_true rfl⟩) (fun r410 F410 H locs q410 hw => ?_)
                                  obtain ⟨er410, hRn, hf410⟩ := q410
                                  have hO_at_410 : F410 (98) = .inr (6, [.int (iI (0)), .ref (ad (99)), .ref (ad (100)), .ref (ad (101)), .ref (ad (102)), .int (iI ((nS g : Int))), .int (iI (pS g)), .ref (ad (103))]) := (hf410 (98) (by omega) (by omega) (by omega)).trans hO_at_405
                                  have h102_at_410 : F410 (102) = .inl (ty 0, 1400, .inl (tt)) := (hf410 (102) (by omega) (by omega) (by omega)).trans h102_at_405
                                  have h103_at_410 : F410 (103) = .inl (ty 0, 700, .inl (dd)) := (hf410 (103) (by omega) (by omega) (by omega)).trans h103_at_405
                                  rw [← hQ]
                                  exact pw_iret hx hb hr hlocks hw (by
                                    rw [o_combine_ok ⟨hRto, hRa, hRb1⟩ ⟨by omega, by omega⟩ h8 hd9 (u := uto) (x := ua) (y := ub1) (by omega) (by omega) (by omega), show kd = 8 by omega, cmb_8]
                                    rw [flz_n (by decide)] at er410 hRn
                                    exact ⟨er410, Mo.mk' (s_lay_t ..) hO_at_410 hRn h102_at_410 htt h103_at_410, fun y9 h1 => ((hf410 (y9) (by omega) (by omega) (by omega)).trans ((hf405 (y9) (by omega) (by omega) (by omega)).trans ((hf398 (y9) (by omega) (by omega) (by omega)).trans (hf390 (y9) (by omega) (by omega) (by omega))))).trans (hfr y9 (by omega))⟩) d_M_combine_413
                refine wz_icmp_eq (tgt := 108) hx hb d_M_combine_93 (by decide) (by omega) (by omega) (by omega) (by omega) (fun c93 => ?_) (fun c93 => ?_)
                · refine wz_iconst (n := 1) hx hb d_M_combine_108 ?_
                  refine lv_goto (tgt := 113) hx hb d_M_combine_109 (by decide) ?_
                  refine lv_istore (lv' := [(6, .int (iI (1))), (0, .ref (ad (98))), (1, .int (iI ((uto : Int)))), (2, .int (iI (kd))), (3, .int (iI ((ua : Int)))), (4, .int (iI ((ub1 : Int))))]) hx hb d_M_combine_113 hl (by decide) rfl (fun ls hl => ?_)
                  refine lv_iload hx hb d_M_combine_115 (lv_at hl 0 rfl) ?_
                  refine wz_if_eq (tgt := 133) hx hb d_M_combine_117 (by decide) (by omega) (by omega) (fun c117 => ?_) (fun c117 => ?_)
                  · exact absurd c117 (by omega)
                  · refine lv_aload_n hx hb d_M_combine_120 rfl (lv_at hl 1 rfl) ?_
                    refine pw_get (ci := 6) (C := R_M) (T := T_M) (N := 8) hx hb hq i_M hown hw (by omega) hO rfl 2 (by decide) (hq _ fl_M_13) (fun _ h9 => h9) rfl d_M_combine_121 ?_
                    refine lv_iload hx hb d_M_combine_124 (lv_at hl 5 rfl) ?_
                    obtain ⟨P126, S126, G126, ⟨a126_99, a126_100, a126_101⟩, ⟨ns, hS126, h3126, hD126, ht126, hv126⟩, hG126⟩ := id Nub1
                    have hz126 := bvP_z ht126
                    rw [hv126] at hz126
                    refine pw_iald (k := ub1) hx hb hw 0 (by omega) a126_100 rfl (iI_in (by omega) (by omega) (by omega)) ((iI_cl (by omega) (by omega)).trans (by omega)) d_M_combine_126 ?_
                    refine lv_topi (fun x126 ex126 => ?_)
                    obtain rfl : x126 = iI ((ns : Int)) := ex126.trans (hS126)
                    refine wz_if_ne (tgt := 133) hx hb d_M_combine_127 (by decide) (by omega) (by omega) (fun c127 => ?_) (fun c127 => ?_)
                    · have hd9 : ¬ ((kd = 3 ∨ kd = 6 ∨ kd = 7) ∧ zS g ub1 = 0) := by omega
                      exact K133  ls (hd9) (fun h8 h9 => hd9 ⟨h8, h9⟩) (lv_sub hl [1, 2, 3, 4, 5] rfl)
                    · have hd9 : (kd = 3 ∨ kd = 6 ∨ kd = 7) ∧ zS g ub1 = 0 := by omega
                      refine wz_bipush (n := -2) hx hb d_M_combine_130 (by decide) ?_
                      rw [← hQ]
                      exact pw_iret hx hb hr hlocks hw (by
                        rw [o_combine_0 ⟨hRto, hRa, hRb1⟩ ⟨by omega, by omega⟩ h8 hd9 (by omega) (by omega)]
                        exact ⟨rfl, Mo.mk' ⟨rfl, rfl, rfl⟩ hO hRn h102 htt h103, fun y9 h1 => (rfl).trans (hfr y9 (by omega))⟩) d_M_combine_132
                · refine lv_iload_n hx hb d_M_combine_96 rfl (lv_at hl 2 rfl) ?_
                  refine wz_bipush (n := 6) hx hb d_M_combine_97 (by decide) ?_
                  refine wz_icmp_eq (tgt := 108) hx hb d_M_combine_99 (by decide) (by omega) (by omega) (by omega) (by omega) (fun c99 => ?_) (fun c99 => ?_)
                  · refine wz_iconst (n := 1) hx hb d_M_combine_108 ?_
                    refine lv_goto (tgt := 113) hx hb d_M_combine_109 (by decide) ?_
                    refine lv_istore (lv' := [(6, .int (iI (1))), (0, .ref (ad (98))), (1, .int (iI ((uto : Int)))), (2, .int (iI (kd))), (3, .int (iI ((ua : Int)))), (4, .int (iI ((ub1 : Int))))]) hx hb d_M_combine_113 hl (by decide) rfl (fun ls hl => ?_)
                    refine lv_iload hx hb d_M_combine_115 (lv_at hl 0 rfl) ?_
                    refine wz_if_eq (tgt := 133) hx hb d_M_combine_117 (by decide) (by omega) (by omega) (fun c117 => ?_) (fun c117 => ?_)
                    · exact absurd c117 (by omega)
                    · refine lv_aload_n hx hb d_M_combine_120 rfl (lv_at hl 1 rfl) ?_
                      refine pw_get (ci := 6) (C := R_M) (T := T_M) (N := 8) hx hb hq i_M hown hw (by omega) hO rfl 2 (by decide) (hq _ fl_M_13) (fun _ h9 => h9) rfl d_M_combine_121 ?_
                      refine lv_iload hx hb d_M_combine_124 (lv_at hl 5 rfl) ?_
                      obtain ⟨P126, S126, G126, ⟨a126_99, a126_100, a126_101⟩, ⟨ns, hS126, h3126, hD126, ht126, hv126⟩, hG126⟩ := id Nub1
                      have hz126 := bvP_z ht126
                      rw [hv126] at hz126
                      refine pw_iald (k := ub1) hx hb hw 0 (by omega) a126_100 rfl (iI_in (by omega) (by omega) (by omega)) ((iI_cl (by omega) (by omega)).trans (by omega)) d_M_combine_126 ?_
                      refine lv_topi (fun x126 ex126 => ?_)
                      obtain rfl : x126 = iI ((ns : Int)) := ex126.trans (hS126)
                      refine wz_if_ne (tgt := 133) hx hb d_M_combine_127 (by decide) (by omega) (by omega) (fun c127 => ?_) (fun c127 => ?_)
                      · have hd9 : ¬ ((kd = 3 ∨ kd = 6 ∨ kd = 7) ∧ zS g ub1 = 0) := by omega
                        exact K133  ls (hd9) (fun h8 h9 => hd9 ⟨h8, h9⟩) (lv_sub hl [1, 2, 3, 4, 5] rfl)
                      · have hd9 : (kd = 3 ∨ kd = 6 ∨ kd = 7) ∧ zS g ub1 = 0 := by omega
                        refine wz_bipush (n := -2) hx hb d_M_combine_130 (by decide) ?_
                        rw [← hQ]
                        exact pw_iret hx hb hr hlocks hw (by
                          rw [o_combine_0 ⟨hRto, hRa, hRb1⟩ ⟨by omega, by omega⟩ h8 hd9 (by omega) (by omega)]
                          exact ⟨rfl, Mo.mk' ⟨rfl, rfl, rfl⟩ hO hRn h102 htt h103, fun y9 h1 => (rfl).trans (hfr y9 (by omega))⟩) d_M_combine_132
                  · refine lv_iload_n hx hb d_M_combine_102 rfl (lv_at hl 2 rfl) ?_
                    refine wz_bipush (n := 7) hx hb d_M_combine_103 (by decide) ?_
                    refine wz_icmp_ne (tgt := 112) hx hb d_M_combine_105 (by decide) (by omega) (by omega) (by omega) (by omega) (fun c105 => ?_) (fun c105 => ?_)
                    · have hd9 : ¬ ((kd = 3 ∨ kd = 6 ∨ kd = 7) ∧ zS g ub1 = 0) := by omega
                      refine wz_iconst (n := 0) hx hb d_M_combine_112 ?_
                      refine lv_istore (lv' := [(6, .int (iI (0))), (0, .ref (ad (98))), (1, .int (iI ((uto : Int)))), (2, .int (iI (kd))), (3, .int (iI ((ua : Int)))), (4, .int (iI ((ub1 : Int))))]) hx hb d_M_combine_113 hl (by decide) rfl (fun ls hl => ?_)
                      refine lv_iload hx hb d_M_combine_115 (lv_at hl 0 rfl) ?_
                      refine wz_if_eq (tgt := 133) hx hb d_M_combine_117 (by decide) (by omega) (by omega) (fun c117 => ?_) (fun c117 => ?_)
                      · exact K133  ls (hd9) (fun h8 h9 => hd9 ⟨h8, h9⟩) (lv_sub hl [1, 2, 3, 4, 5] rfl)
                      · exact absurd c117 (by omega)
                    · refine wz_iconst (n := 1) hx hb d_M_combine_108 ?_
                      refine lv_goto (tgt := 113) hx hb d_M_combine_109 (by decide) ?_
                      refine lv_istore (lv' := [(6, .int (iI (1))), (0, .ref (ad (98))), (1, .int (iI ((uto : Int)))), (2, .int (iI (kd))), (3, .int (iI ((ua : Int)))), (4, .int (iI ((ub1 : Int))))]) hx hb d_M_combine_113 hl (by decide) rfl (fun ls hl => ?_)
                      refine lv_iload hx hb d_M_combine_115 (lv_at hl 0 rfl) ?_
                      refine wz_if_eq (tgt := 133) hx hb d_M_combine_117 (by decide) (by omega) (by omega) (fun c117 => ?_) (fun c117 => ?_)
                      · exact absurd c117 (by omega)
                      · refine lv_aload_n hx hb d_M_combine_120 rfl (lv_at hl 1 rfl) ?_
                        refine pw_get (ci := 6) (C := R_M) (T := T_M) (N := 8) hx hb hq i_M hown hw (by omega) hO rfl 2 (by decide) (hq _ fl_M_13) (fun _ h9 => h9) rfl d_M_combine_121 ?_
                        refine lv_iload hx hb d_M_combine_124 (lv_at hl 5 rfl) ?_
                        obtain ⟨P126, S126, G126, ⟨a126_99, a126_100, a126_101⟩, ⟨ns, hS126, h3126, hD126, ht126, hv126⟩, hG126⟩ := id Nub1
                        have hz126 := bvP_z ht126
                        rw [hv126] at hz126
                        refine pw_iald (k := ub1) hx hb hw 0 (by omega) a126_100 rfl (iI_in (by omega) (by omega) (by omega)) ((iI_cl (by omega) (by omega)).trans (by omega)) d_M_combine_126 ?_
                        refine lv_topi (fun x126 ex126 => ?_)
                        obtain rfl : x126 = iI ((ns : Int)) := ex126.trans (hS126)
                        refine wz_if_ne (tgt := 133) hx hb d_M_combine_127 (by decide) (by omega) (by omega) (fun c127 => ?_) (fun c127 => ?_)
                        · have hd9 : ¬ ((kd = 3 ∨ kd = 6 ∨ kd = 7) ∧ zS g ub1 = 0) := by omega
                          exact K133  ls (hd9) (fun h8 h9 => hd9 ⟨h8, h9⟩) (lv_sub hl [1, 2, 3, 4, 5] rfl)
                        · have hd9 : (kd = 3 ∨ kd = 6 ∨ kd = 7) ∧ zS g ub1 = 0 := by omega
                          refine wz_bipush (n := -2) hx hb d_M_combine_130 (by decide) ?_
                          rw [← hQ]
                          exact pw_iret hx hb hr hlocks hw (by
                            rw [o_combine_0 ⟨hRto, hRa, hRb1⟩ ⟨by omega, by omega⟩ h8 hd9 (by omega) (by omega)]
                            exact ⟨rfl, Mo.mk' ⟨rfl, rfl, rfl⟩ hO hRn h102 htt h103, fun y9 h1 => (rfl).trans (hfr y9 (by omega))⟩) d_M_combine_132
              refine wz_iconst (n := 1) hx hb d_M_combine_32 ?_
              refine lv_goto (tgt := 37) hx hb d_M_combine_33 (by decide) ?_
              refine lv_istore (lv' := [(5, .int (iI (1))), (0, .ref (ad (98))), (1, .int (iI ((uto : Int)))), (2, .int (iI (kd))), (3, .int (iI ((ua : Int)))), (4, .int (iI ((ub1 : Int))))]) hx hb d_M_combine_37 hl (by decide) rfl (fun ls hl => ?_)
              refine lv_aload_n hx hb d_M_combine_39 rfl (lv_at hl 1 rfl) ?_
              refine lv_iload hx hb d_M_combine_40 (lv_at hl 0 rfl) ?_
              refine wz_if_eq (tgt := 78) hx hb d_M_combine_42 (by decide) (by omega) (by omega) (fun c42 => ?_) (fun c42 => ?_)
              · exact absurd c42 (by omega)
              · refine lv_iload_n hx hb d_M_combine_45 rfl (lv_at hl 3 rfl) ?_
                refine wz_bipush (n := 8) hx hb d_M_combine_46 (by decide) ?_
                refine wz_icmp_lt (tgt := 74) hx hb d_M_combine_48 (by decide) (by omega) (by omega) (by omega) (by omega) (fun c48 => ?_) (fun c48 => ?_)
                · refine wz_iconst (n := 0) hx hb d_M_combine_74 ?_
                  refine lv_goto (tgt := 79) hx hb d_M_combine_75 (by decide) ?_
                  refine pw_put (ci := 6) (C := R_M) (T := T_M) (N := 8) (ty := .int) (fs' := [.int (iI (0)), .ref (ad (99)), .ref (ad (100)), .ref (ad (101)), .ref (ad (102)), .int (iI ((nS g : Int))), .int (iI (pS g)), .ref (ad (103))]) hx hb hq i_M ft_M ft_M_ok n_M hown hw (by omega) hO rfl 0 (by decide) (hq _ fl_M_34) (fun _ h9 => h9) rfl (by decide +kernel) rfl rfl (Nat.le_of_ble_eq_true rfl) rfl d_M_combine_79 (fun F79 H locs eF79 hw => ?_)
                  have m79_98 : F79 (98) = .inr (6, [.int (iI (0)), .ref (ad (99)), .ref (ad (100)), .ref (ad (101)), .ref (ad (102)), .int (iI ((nS g : Int))), .int (iI (pS g)), .ref (ad (103))]) := by rw [eF79]; exact va_up_self ..
                  have hRn_at_79 : Rn ty F79 (g) := hRn.m3 (show F79 (99) = F (99) from by rw [eF79]; exact va_up_ne _ _ (by omega)) (show F79 (100) = F (100) from by rw [eF79]; exact va_up_ne _ _ (by omega)) (show F79 (101) = F (101) from by rw [eF79]; exact va_up_ne _ _ (by omega))
                  have N0_at_79 : Nm ty F79 (0) (zS g 0) := N0.m3 (show F79 (99) = F (99) from by rw [eF79]; exact va_up_ne _ _ (by omega)) (show F79 (100) = F (100) from by rw [eF79]; exact va_up_ne _ _ (by omega)) (show F79 (101) = F (101) from by rw [eF79]; exact va_up_ne _ _ (by omega))
                  have h102_at_79 : F79 (102) = .inl (ty 0, 1400, .inl (tt)) := (show F79 (102) = F (102) from by rw [eF79]; exact va_up_ne _ _ (by omega)).trans h102
                  have h103_at_79 : F79 (103) = .inl (ty 0, 700, .inl (dd)) := (show F79 (103) = F (103) from by rw [eF79]; exact va_up_ne _ _ (by omega)).trans h103
                  have Nua_at_79 : Nm ty F79 (ua) (zS g ua) := Nua.m3 (show F79 (99) = F (99) from by rw [eF79]; exact va_up_ne _ _ (by omega)) (show F79 (100) = F (100) from by rw [eF79]; exact va_up_ne _ _ (by omega)) (show F79 (101) = F (101) from by rw [eF79]; exact va_up_ne _ _ (by omega))
                  have N16ua_at_79 : Nm ty F79 (16 + ua) (((bS g ua : Nat) : Int)) := N16ua.m3 (show F79 (99) = F (99) from by rw [eF79]; exact va_up_ne _ _ (by omega)) (show F79 (100) = F (100) from by rw [eF79]; exact va_up_ne _ _ (by omega)) (show F79 (101) = F (101) from by rw [eF79]; exact va_up_ne _ _ (by omega))
                  have Nub1_at_79 : Nm ty F79 (ub1) (zS g ub1) := Nub1.m3 (show F79 (99) = F (99) from by rw [eF79]; exact va_up_ne _ _ (by omega)) (show F79 (100) = F (100) from by rw [eF79]; exact va_up_ne _ _ (by omega)) (show F79 (101) = F (101) from by rw [eF79]; exact va_up_ne _ _ (by omega))
                  have N16ub1_at_79 : Nm ty F79 (16 + ub1) (((bS g ub1 : Nat) : Int)) := N16ub1.m3 (show F79 (99) = F (99) from by rw [eF79]; exact va_up_ne _ _ (by omega)) (show F79 (100) = F (100) from by rw [eF79]; exact va_up_ne _ _ (by omega)) (show F79 (101) = F (101) from by rw [eF79]; exact va_up_ne _ _ (by omega))
                  refine lv_aload_n hx hb d_M_combine_82 rfl (lv_at hl 1 rfl) ?_
                  refine pw_get (ci := 6) (C := R_M) (T := T_M) (N := 8) hx hb hq i_M hown hw (by omega) m79_98 rfl 0 (by decide) (hq _ fl_M_34) (fun _ h9 => h9) rfl d_M_combine_83 ?_
                  refine wz_if_le (tgt := 91) hx hb d_M_combine_86 (by decide) (by omega) (by omega) (fun c86 => ?_) (fun c86 => ?_)
                  · exact K91  _ _ _ ls (fun h9 => absurd h9 (by omega)) (fun y9 h1 => show F79 (y9) = F (y9) from by rw [eF79]; exact va_up_ne _ _ (by omega)) m79_98 hRn_at_79 Nua_at_79 N16ua_at_79 Nub1_at_79 N16ub1_at_79 h102_at_79 h103_at_79 hw (lv_sub hl [1, 2, 3, 4, 5] rfl)
                  · exact absurd c86 (by omega)
                · refine lv_aload_n hx hb d_M_combine_51 rfl (lv_at hl 1 rfl) ?_
                  refine lv_iload_n hx hb d_M_combine_52 rfl (lv_at hl 4 rfl) ?_
                  refine pw_calli hw (va_runS (As := [.int (iI ((ua : Int)))]) (rest := [.ref (ad (98)), .ref (ad (98))]) ⟨hx, hb, hml, hown, hq⟩ (c_M_below l D ty ad M F H.size (ua) (by omega)) (va_cwS 1 hq (gS ml_M_82 st_M_below in_M m_M_below) rfl rfl rfl (by decide +kernel) ⟨Nat.le_of_ble_eq_true rfl, Nat.le_of_ble_eq_true rfl⟩) (pw_preS hw) rfl rfl hl.1 rfl (lv_room (Nat.le_of_ble_eq_true rfl)) d_M_combine_53 ⟨Nat.le_of_ble_eq_true rfl, Nat.le_of_ble_eq_true rfl⟩) (fun r53 F53 H locs q53 hw => ?_)
                  obtain ⟨er53, eF53⟩ := q53
                  rw [eF53] at hw
                  clear eF53
                  subst er53
                  refine pw_calli hw (va_runV (As := [.int (iI (((16 + ua : Nat) : Int)))]) (rest := [.ref (ad (98))]) ⟨hx, hb, hml, hown, hq⟩ (c_M_isOne l D ty ad M F H.size hM (co) ((nS g : Int)) (pS g) hO (16 + ua) (((bS g ua : Nat) : Int)) (by omega) N16ua) (cwV 1 hq (gV ml_M_98 im_M_isOne se_M_isOne in_M m_M_isOne) rfl rfl rfl (by decide +kernel) ⟨Nat.le_of_ble_eq_true rfl, Nat.le_of_ble_eq_true rfl⟩) (pw_preV hw (by omega) hO rfl) rfl rfl hl.1 rfl (lv_room (Nat.le_of_ble_eq_true rfl)) d_M_combine_56 ⟨Nat.le_of_ble_eq_true rfl, Nat.le_of_ble_eq_true rfl⟩) (fun r56 F56 H locs q56 hw => ?_)
                  obtain ⟨er56, eF56⟩ := q56
                  rw [eF56] at hw
                  clear eF56
                  subst er56
                  have hib1 := i1_b ((bS g ua : Nat) : Int)
                  refine wz_if_eq (tgt := 78) hx hb d_M_combine_59 (by decide) (by omega) (by omega) (fun c59 => ?_) (fun c59 => ?_)
                  · have h8e : ¬ (bS g a.toNat = 1 ∧ bS g b1.toNat = 1) := fun h9 => by
                      have h7 := i1_z c59
                      rw [show a.toNat = ua by omega] at h9
                      omega
                    refine wz_iconst (n := 1) hx hb d_M_combine_78 ?_
                    refine pw_put (ci := 6) (C := R_M) (T := T_M) (N := 8) (ty := .int) (fs' := [.int (iI (1)), .ref (ad (99)), .ref (ad (100)), .ref (ad (101)), .ref (ad (102)), .int (iI ((nS g : Int))), .int (iI (pS g)), .ref (ad (103))]) hx hb hq i_M ft_M ft_M_ok n_M hown hw (by omega) hO rfl 0 (by decide) (hq _ fl_M_34) (fun _ h9 => h9) rfl (by decide +kernel) rfl rfl (Nat.le_of_ble_eq_true rfl) rfl d_M_combine_79 (fun F79 H locs eF79 hw => ?_)
                    have m79_98 : F79 (98) = .inr (6, [.int (iI (1)), .ref (ad (99)), .ref (ad (100)), .ref (ad (101)), .ref (ad (102)), .int (iI ((nS g : Int))), .int (iI (pS g)), .ref (ad (103))]) := by rw [eF79]; exact va_up_self ..
                    have hRn_at_79 : Rn ty F79 (g) := hRn.m3 (show F79 (99) = F (99) from by rw [eF79]; exact va_up_ne _ _ (by omega)) (show F79 (100) = F (100) from by rw [eF79]; exact va_up_ne _ _ (by omega)) (show F79 (101) = F (101) from by rw [eF79]; exact va_up_ne _ _ (by omega))
                    have N0_at_79 : Nm ty F79 (0) (zS g 0) := N0.m3 (show F79 (99) = F (99) from by rw [eF79]; exact va_up_ne _ _ (by omega)) (show F79 (100) = F (100) from by rw [eF79]; exact va_up_ne _ _ (by omega)) (show F79 (101) = F (101) from by rw [eF79]; exact va_up_ne _ _ (by omega))
                    have h102_at_79 : F79 (102) = .inl (ty 0, 1400, .inl (tt)) := (show F79 (102) = F (102) from by rw [eF79]; exact va_up_ne _ _ (by omega)).trans h102
                    have h103_at_79 : F79 (103) = .inl (ty 0, 700, .inl (dd)) := (show F79 (103) = F (103) from by rw [eF79]; exact va_up_ne _ _ (by omega)).trans h103
                    have Nua_at_79 : Nm ty F79 (ua) (zS g ua) := Nua.m3 (show F79 (99) = F (99) from by rw [eF79]; exact va_up_ne _ _ (by omega)) (show F79 (100) = F (100) from by rw [eF79]; exact va_up_ne _ _ (by omega)) (show F79 (101) = F (101) from by rw [eF79]; exact va_up_ne _ _ (by omega))
                    have N16ua_at_79 : Nm ty F79 (16 + ua) (((bS g ua : Nat) : Int)) := N16ua.m3 (show F79 (99) = F (99) from by rw [eF79]; exact va_up_ne _ _ (by omega)) (show F79 (100) = F (100) from by rw [eF79]; exact va_up_ne _ _ (by omega)) (show F79 (101) = F (101) from by rw [eF79]; exact va_up_ne _ _ (by omega))
                    have Nub1_at_79 : Nm ty F79 (ub1) (zS g ub1) := Nub1.m3 (show F79 (99) = F (99) from by rw [eF79]; exact va_up_ne _ _ (by omega)) (show F79 (100) = F (100) from by rw [eF79]; exact va_up_ne _ _ (by omega)) (show F79 (101) = F (101) from by rw [eF79]; exact va_up_ne _ _ (by omega))
                    have N16ub1_at_79 : Nm ty F79 (16 + ub1) (((bS g ub1 : Nat) : Int)) := N16ub1.m3 (show F79 (99) = F (99) from by rw [eF79]; exact va_up_ne _ _ (by omega)) (show F79 (100) = F (100) from by rw [eF79]; exact va_up_ne _ _ (by omega)) (show F79 (101) = F (101) from by rw [eF79]; exact va_up_ne _ _ (by omega))
                    refine lv_aload_n hx hb d_M_combine_82 rfl (lv_at hl 1 rfl) ?_
                    refine pw_get (ci := 6) (C := R_M) (T := T_M) (N := 8) hx hb hq i_M hown hw (by omega) m79_98 rfl 0 (by decide) (hq _ fl_M_34) (fun _ h9 => h9) rfl d_M_combine_83 ?_
                    refine wz_if_le (tgt := 91) hx hb d_M_combine_86 (by decide) (by omega) (by omega) (fun c86 => ?_) (fun c86 => ?_)
                    · exact absurd c86 (by omega)
                    · refine wz_iconst (n := 0) hx hb d_M_combine_89 ?_
                      rw [← hQ]
                      exact pw_iret hx hb hr hlocks hw (by
                        rw [o_combine, cif_neg (fun h9 => by first | exact hRe h9.1.1 | exact hRe h9.1.2.1 | exact hRe h9.1.2.2 | (have := h9.2.1; omega) | exact h8e (h9.2.2 (by omega)))]
                        exact ⟨rfl, Mo.mk' ⟨rfl, rfl, rfl⟩ m79_98 hRn_at_79 h102_at_79 htt h103_at_79, fun y9 h1 => show F79 (y9) = F (y9) from by rw [eF79]; exact va_up_ne _ _ (by omega)⟩) d_M_combine_90
                  · have hi1 := i1_nz c59
                    refine lv_aload_n hx hb d_M_combine_62 rfl (lv_at hl 1 rfl) ?_
                    refine lv_iload hx hb d_M_combine_63 (lv_at hl 5 rfl) ?_
                    refine pw_calli hw (va_runS (As := [.int (iI ((ub1 : Int)))]) (rest := [.ref (ad (98)), .ref (ad (98))]) ⟨hx, hb, hml, hown, hq⟩ (c_M_below l D ty ad M F H.size (ub1) (by omega)) (va_cwS 1 hq (gS ml_M_82 st_M_below in_M m_M_below) rfl rfl rfl (by decide +kernel) ⟨Nat.le_of_ble_eq_true rfl, Nat.le_of_ble_eq_true rfl⟩) (pw_preS hw) rfl rfl hl.1 rfl (lv_room (Nat.le_of_ble_eq_true rfl)) d_M_combine_65 ⟨Nat.le_of_ble_eq_true rfl, Nat.le_of_ble_eq_true rfl⟩) (fun r65 F65 H locs q65 hw => ?_)
                    obtain ⟨er65, eF65⟩ := q65
                    rw [eF65] at hw
                    clear eF65
                    subst er65
                    refine pw_calli hw (va_runV (As := [.int (iI (((16 + ub1 : Nat) : Int)))]) (rest := [.ref (ad (98))]) ⟨hx, hb, hml, hown, hq⟩ (c_M_isOne l D ty ad M F H.size hM (co) ((nS g : Int)) (pS g) hO (16 + ub1) (((bS g ub1 : Nat) : Int)) (by omega) N16ub1) (cwV 1 hq (gV ml_M_98 im_M_isOne se_M_isOne in_M m_M_isOne) rfl rfl rfl (by decide +kernel) ⟨Nat.le_of_ble_eq_true rfl, Nat.le_of_ble_eq_true rfl⟩) (pw_preV hw (by omega) hO rfl) rfl rfl hl.1 rfl (lv_room (Nat.le_of_ble_eq_true rfl)) d_M_combine_68 ⟨Nat.le_of_ble_eq_true rfl, Nat.le_of_ble_eq_true rfl⟩) (fun r68 F68 H locs q68 hw => ?_)
                    obtain ⟨er68, eF68⟩ := q68
                    rw [eF68] at hw
                    clear eF68
                    subst er68
                    have hib2 := i1_b ((bS g ub1 : Nat) : Int)
                    refine wz_if_eq (tgt := 78) hx hb d_M_combine_71 (by decide) (by omega) (by omega) (fun c71 => ?_) (fun c71 => ?_)
                    · have h8e : ¬ (bS g a.toNat = 1 ∧ bS g b1.toNat = 1) := fun h9 => by
                        have h7 := i1_z c71
                        rw [show b1.toNat = ub1 by omega] at h9
                        omega
                      refine wz_iconst (n := 1) hx hb d_M_combine_78 ?_
                      refine pw_put (ci := 6) (C := R_M) (T := T_M) (N := 8) (ty := .int) (fs' := [.int (iI (1)), .ref (ad (99)), .ref (ad (100)), .ref (ad (101)), .ref (ad (102)), .int (iI ((nS g : Int))), .int (iI (pS g)), .ref (ad (103))]) hx hb hq i_M ft_M ft_M_ok n_M hown hw (by omega) hO rfl 0 (by decide) (hq _ fl_M_34) (fun _ h9 => h9) rfl (by decide +kernel) rfl rfl (Nat.le_of_ble_eq_true rfl) rfl d_M_combine_79 (fun F79 H locs eF79 hw => ?_)
                      have m79_98 : F79 (98) = .inr (6, [.int (iI (1)), .ref (ad (99)), .ref (ad (100)), .ref (ad (101)), .ref (ad (102)), .int (iI ((nS g : Int))), .int (iI (pS g)), .ref (ad (103))]) := by rw [eF79]; exact va_up_self ..
                      have hRn_at_79 : Rn ty F79 (g) := hRn.m3 (show F79 (99) = F (99) from by rw [eF79]; exact va_up_ne _ _ (by omega)) (show F79 (100) = F (100) from by rw [eF79]; exact va_up_ne _ _ (by omega)) (show F79 (101) = F (101) from by rw [eF79]; exact va_up_ne _ _ (by omega))
                      have N0_at_79 : Nm ty F79 (0) (zS g 0) := N0.m3 (show F79 (99) = F (99) from by rw [eF79]; exact va_up_ne _ _ (by omega)) (show F79 (100) = F (100) from by rw [eF79]; exact va_up_ne _ _ (by omega)) (show F79 (101) = F (101) from by rw [eF79]; exact va_up_ne _ _ (by omega))
                      have h102_at_79 : F79 (102) = .inl (ty 0, 1400, .inl (tt)) := (show F79 (102) = F (102) from by rw [eF79]; exact va_up_ne _ _ (by omega)).trans h102
                      have h103_at_79 : F79 (103) = .inl (ty 0, 700, .inl (dd)) := (show F79 (103) = F (103) from by rw [eF79]; exact va_up_ne _ _ (by omega)).trans h103
                      have Nua_at_79 : Nm ty F79 (ua) (zS g ua) := Nua.m3 (show F79 (99) = F (99) from by rw [eF79]; exact va_up_ne _ _ (by omega)) (show F79 (100) = F (100) from by rw [eF79]; exact va_up_ne _ _ (by omega)) (show F79 (101) = F (101) from by rw [eF79]; exact va_up_ne _ _ (by omega))
                      have N16ua_at_79 : Nm ty F79 (16 + ua) (((bS g ua : Nat) : Int)) := N16ua.m3 (show F79 (99) = F (99) from by rw [eF79]; exact va_up_ne _ _ (by omega)) (show F79 (100) = F (100) from by rw [eF79]; exact va_up_ne _ _ (by omega)) (show F79 (101) = F (101) from by rw [eF79]; exact va_up_ne _ _ (by omega))
                      have Nub1_at_79 : Nm ty F79 (ub1) (zS g ub1) := Nub1.m3 (show F79 (99) = F (99) from by rw [eF79]; exact va_up_ne _ _ (by omega)) (show F79 (100) = F (100) from by rw [eF79]; exact va_up_ne _ _ (by omega)) (show F79 (101) = F (101) from by rw [eF79]; exact va_up_ne _ _ (by omega))
                      have N16ub1_at_79 : Nm ty F79 (16 + ub1) (((bS g ub1 : Nat) : Int)) := N16ub1.m3 (show F79 (99) = F (99) from by rw [eF79]; exact va_up_ne _ _ (by omega)) (show F79 (100) = F (100) from by rw [eF79]; exact va_up_ne _ _ (by omega)) (show F79 (101) = F (101) from by rw [eF79]; exact va_up_ne _ _ (by omega))
                      refine lv_aload_n hx hb d_M_combine_82 rfl (lv_at hl 1 rfl) ?_
                      refine pw_get (ci := 6) (C := R_M) (T := T_M) (N := 8) hx hb hq i_M hown hw (by omega) m79_98 rfl 0 (by decide) (hq _ fl_M_34) (fun _ h9 => h9) rfl d_M_combine_83 ?_
                      refine wz_if_le (tgt := 91) hx hb d_M_combine_86 (by decide) (by omega) (by omega) (fun c86 => ?_) (fun c86 => ?_)
                      · exact absurd c86 (by omega)
                      · refine wz_iconst (n := 0) hx hb d_M_combine_89 ?_
                        rw [← hQ]
                        exact pw_iret hx hb hr hlocks hw (by
                          rw [o_combine, cif_neg (fun h9 => by first | exact hRe h9.1.1 | exact hRe h9.1.2.1 | exact hRe h9.1.2.2 | (have := h9.2.1; omega) | exact h8e (h9.2.2 (by omega)))]
                          exact ⟨rfl, Mo.mk' ⟨rfl, rfl, rfl⟩ m79_98 hRn_at_79 h102_at_79 htt h103_at_79, fun y9 h1 => show F79 (y9) = F (y9) from by rw [eF79]; exact va_up_ne _ _ (by omega)⟩) d_M_combine_90
                    · have hi2 := i1_nz c71
                      refine wz_iconst (n := 0) hx hb d_M_combine_74 ?_
                      refine lv_goto (tgt := 79) hx hb d_M_combine_75 (by decide) ?_
                      refine pw_put (ci := 6) (C := R_M) (T := T_M) (N := 8) (ty := .int) (fs' := [.int (iI (0)), .ref (ad (99)), .ref (ad (100)), .ref (ad (101)), .ref (ad (102)), .int (iI ((nS g : Int))), .int (iI (pS g)), .ref (ad (103))]) hx hb hq i_M ft_M ft_M_ok n_M hown hw (by omega) hO rfl 0 (by decide) (hq _ fl_M_34) (fun _ h9 => h9) rfl (by decide +kernel) rfl rfl (Nat.le_of_ble_eq_true rfl) rfl d_M_combine_79 (fun F79 H locs eF79 hw => ?_)
                      have m79_98 : F79 (98) = .inr (6, [.int (iI (0)), .ref (ad (99)), .ref (ad (100)), .ref (ad (101)), .ref (ad (102)), .int (iI ((nS g : Int))), .int (iI (pS g)), .ref (ad (103))]) := by rw [eF79]; exact va_up_self ..
                      have hRn_at_79 : Rn ty F79 (g) := hRn.m3 (show F79 (99) = F (99) from by rw [eF79]; exact va_up_ne _ _ (by omega)) (show F79 (100) = F (100) from by rw [eF79]; exact va_up_ne _ _ (by omega)) (show F79 (101) = F (101) from by rw [eF79]; exact va_up_ne _ _ (by omega))
                      have N0_at_79 : Nm ty F79 (0) (zS g 0) := N0.m3 (show F79 (99) = F (99) from by rw [eF79]; exact va_up_ne _ _ (by omega)) (show F79 (100) = F (100) from by rw [eF79]; exact va_up_ne _ _ (by omega)) (show F79 (101) = F (101) from by rw [eF79]; exact va_up_ne _ _ (by omega))
                      have h102_at_79 : F79 (102) = .inl (ty 0, 1400, .inl (tt)) := (show F79 (102) = F (102) from by rw [eF79]; exact va_up_ne _ _ (by omega)).trans h102
                      have h103_at_79 : F79 (103) = .inl (ty 0, 700, .inl (dd)) := (show F79 (103) = F (103) from by rw [eF79]; exact va_up_ne _ _ (by omega)).trans h103
                      have Nua_at_79 : Nm ty F79 (ua) (zS g ua) := Nua.m3 (show F79 (99) = F (99) from by rw [eF79]; exact va_up_ne _ _ (by omega)) (show F79 (100) = F (100) from by rw [eF79]; exact va_up_ne _ _ (by omega)) (show F79 (101) = F (101) from by rw [eF79]; exact va_up_ne _ _ (by omega))
                      have N16ua_at_79 : Nm ty F79 (16 + ua) (((bS g ua : Nat) : Int)) := N16ua.m3 (show F79 (99) = F (99) from by rw [eF79]; exact va_up_ne _ _ (by omega)) (show F79 (100) = F (100) from by rw [eF79]; exact va_up_ne _ _ (by omega)) (show F79 (101) = F (101) from by rw [eF79]; exact va_up_ne _ _ (by omega))
                      have Nub1_at_79 : Nm ty F79 (ub1) (zS g ub1) := Nub1.m3 (show F79 (99) = F (99) from by rw [eF79]; exact va_up_ne _ _ (by omega)) (show F79 (100) = F (100) from by rw [eF79]; exact va_up_ne _ _ (by omega)) (show F79 (101) = F (101) from by rw [eF79]; exact va_up_ne _ _ (by omega))
                      have N16ub1_at_79 : Nm ty F79 (16 + ub1) (((bS g ub1 : Nat) : Int)) := N16ub1.m3 (show F79 (99) = F (99) from by rw [eF79]; exact va_up_ne _ _ (by omega)) (show F79 (100) = F (100) from by rw [eF79]; exact va_up_ne _ _ (by omega)) (show F79 (101) = F (101) from by rw [eF79]; exact va_up_ne _ _ (by omega))
                      refine lv_aload_n hx hb d_M_combine_82 rfl (lv_at hl 1 rfl) ?_
                      refine pw_get (ci := 6) (C := R_M) (T := T_M) (N := 8) hx hb hq i_M hown hw (by omega) m79_98 rfl 0 (by decide) (hq _ fl_M_34) (fun _ h9 => h9) rfl d_M_combine_83 ?_
                      refine wz_if_le (tgt := 91) hx hb d_M_combine_86 (by decide) (by omega) (by omega) (fun c86 => ?_) (fun c86 => ?_)
                      · exact K91  _ _ _ ls (fun h9 => ⟨by omega, by omega⟩) (fun y9 h1 => show F79 (y9) = F (y9) from by rw [eF79]; exact va_up_ne _ _ (by omega)) m79_98 hRn_at_79 Nua_at_79 N16ua_at_79 Nub1_at_79 N16ub1_at_79 h102_at_79 h103_at_79 hw (lv_sub hl [1, 2, 3, 4, 5] rfl)
                      · exact absurd c86 (by omega)
  rw [hH, hlo] at hgo
  exact hgo
