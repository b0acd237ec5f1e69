/-! the reference: printDigits: by program -/
set_option maxHeartbeats 4000000 in
set_option maxRecDepth 100000 in
/-- printDigits(a) -/
theorem c_M_printDigits (l : Launch) (D : va_G) (ty : Nat → ClassId) (ad : Nat → Nat) (M : Nat) (F : Nat → va_E) (sz : Nat) (hM : 103 < M) (co wr : Int) (n0 a : Nat) (za : Int) (tt dd : Nat → Int32) (hO : F 98 = oM ad co (n0 : Int) wr) (h102 : F 102 = aN ty 0 1400 tt) (h103 : F 103 = aN ty 0 700 dd) (ha : a < 32) (Na : Nm ty F a za) (hsm : sm za.natAbs) (hn0 : n0 + 620 ≤ 1400) :
    CV l y_M_printDigits w_M_printDigits ({ frames := 1, cells := 0, slots := 0, locals := 23 } : Room) [.ref (ad (98)), .int (iI ((a : Int)))] D ty ad M F sz (fun F1 => ∃ tt' dd' : Nat → Int32, F1 98 = oM ad co ((n0 + dlen za.natAbs : Nat) : Int) wr ∧ F1 102 = aN ty 0 1400 tt' ∧ F1 103 = aN ty 0 700 dd' ∧ (∀ i, i < n0 → tt' i = tt i) ∧ dgT tt' n0 za.natAbs ∧ kp ty F F1 (fun c => c = 41) ∧ frP F F1) := by
  refine Met.ofW (cc := b_M_printDigits) (maxL := 6) (ret := none) (by decide) rfl ?_
  intro p e s m args below meth c s₁ B hml hv
  obtain ⟨rfl, hsz, hP, hK, hD0⟩ := hv
  have hx := B.exec
  have hb := B.bytes
  have hr := B.returns
  have hts := atoms_spec (ws := w_M_printDigits) B.pre
  have hq : ∀ w ∈ wT, w.before _ s = true := fun w h => hts w (List.mem_cons_of_mem _ h)
  have hown : s.vm.findClass R_M = some m.cls := findClass_of_methodNamed B.named
  have hlocks := B.notSynchronized
  subst hsz
  have hw := pw_start hP hK hD0
  have hl := lv_entry ([.ref (ad (98)), .int (iI ((a : Int)))]) (n := 6) (Nat.le_of_ble_eq_true rfl)
  rw [lg_entry_eq]
  generalize (lg_sl ([.ref (ad (98)), .int (iI ((a : Int)))]) ++ List.replicate (6 - (lg_sl ([.ref (ad (98)), .int (iI ((a : Int)))])).length) Slot.unset).toArray = ls at hl ⊢
  have hl : lv_has ls 6 [(0, .ref (ad (98))), (1, .int (iI ((a : Int))))] := hl
  change W p l e ({ frames := 1, cells := 0, slots := 0, locals := 23 } : Room) s m ([.ref (ad (98)), .int (iI ((a : Int)))]).toArray below meth c s.heap [] 0 0 (MQ below (va_Qv (fun F1 => ∃ tt' dd' : Nat → Int32, F1 98 = oM ad co ((n0 + dlen za.natAbs : Nat) : Int) wr ∧ F1 102 = aN ty 0 1400 tt' ∧ F1 103 = aN ty 0 700 dd' ∧ (∀ i, i < n0 → tt' i = tt i) ∧ dgT tt' n0 za.natAbs ∧ kp ty F F1 (fun c => c = 41) ∧ frP F F1) (pAt D classes (tysL ty) ad M (pA ad M s.heap.size)) (pA ad M s.heap.size)) ([.ref (ad (98)), .int (iI ((a : Int)))]).toArray s 0 0 (pA ad M s.heap.size)) (F0 m 0 ls [])
  generalize hQ : MQ below (va_Qv (fun F1 => ∃ tt' dd' : Nat → Int32, F1 98 = oM ad co ((n0 + dlen za.natAbs : Nat) : Int) wr ∧ F1 102 = aN ty 0 1400 tt' ∧ F1 103 = aN ty 0 700 dd' ∧ (∀ i, i < n0 → tt' i = tt i) ∧ dgT tt' n0 za.natAbs ∧ kp ty F F1 (fun c => c = 41) ∧ frP F F1) (pAt D classes (tysL ty) ad M (pA ad M s.heap.size)) (pA ad M s.heap.size)) ([.ref (ad (98)), .int (iI ((a : Int)))]).toArray s 0 0 (pA ad M s.heap.size) = Q
  obtain ⟨H, hH⟩ : ∃ H, H = s.heap := ⟨_, rfl⟩
  obtain ⟨locs, hlo⟩ : ∃ z : List Loc, z = [] := ⟨_, rfl⟩
  have hw : pw D classes (tysL ty) ad M F (pA ad M s.heap.size) s H locs := by rw [hH, hlo]; exact hw
  have hgo : W p l e ({ frames := 1, cells := 0, slots := 0, locals := 23 } : Room) s m ([.ref (ad (98)), .int (iI ((a : Int)))]).toArray below meth c H locs 0 0 Q (F0 m 0 ls []) := by
    refine lv_aload_n hx hb d_M_printDigits_0 rfl (lv_at hl 0 rfl) ?_
    refine wz_bipush (n := 41) hx hb d_M_printDigits_1 (by decide) ?_
    refine lv_iload_n hx hb d_M_printDigits_3 rfl (lv_at hl 1 rfl) ?_
    refine pw_callv hw (va_runV (As := [.int (iI (41)), .int (iI ((a : Int)))]) (rest := []) ⟨hx, hb, hml, hown, hq⟩ (c_M_copy l D ty ad M F H.size hM (co) ((n0 : Int)) (wr) hO 41 a (by omega) (by omega) (by omega) za Na) (cwV 2 hq (gV ml_M_55 im_M_copy se_M_copy in_M m_M_copy) rfl rfl rfl (by decide +kernel) ⟨Nat.le_of_ble_eq_true rfl, Nat.le_of_ble_eq_true rfl⟩) (pw_preV hw (by omega) hO rfl) rfl rfl hl.1 rfl (lv_room (Nat.le_of_ble_eq_true rfl)) d_M_printDigits_4 ⟨Nat.le_of_ble_eq_true rfl, Nat.le_of_ble_eq_true rfl⟩) (fun F4 H locs q4 hw => ?_)
    obtain ⟨N41, hk4, hf4⟩ := q4
    obtain ⟨P4, S4, G4, ⟨g99, g100, g101⟩, ⟨n4, hS4, h34, hD4, ht4, hv4⟩, hG4⟩ := id N41
    have hO_at_4 : F4 (98) = .inr (6, [.int (iI (co)), .ref (ad (99)), .ref (ad (100)), .ref (ad (101)), .ref (ad (102)), .int (iI ((n0 : Int))), .int (iI (wr)), .ref (ad (103))]) := (hf4 (98) (by omega) (by omega) (by omega)).trans hO
    have h102_at_4 : F4 (102) = .inl (ty 0, 1400, .inl (tt)) := (hf4 (102) (by omega) (by omega) (by omega)).trans h102
    have h103_at_4 : F4 (103) = .inl (ty 0, 700, .inl (dd)) := (hf4 (103) (by omega) (by omega) (by omega)).trans h103
    have Na_at_4 : Nm ty F4 (a) (za) := hk4 _ _ (by omega) (by first | omega | (dsimp only; omega)) Na
    refine wz_iconst (n := 0) hx hb d_M_printDigits_7 ?_
    refine lv_istore_n (lv' := [(2, .int (iI (0))), (0, .ref (ad (98))), (1, .int (iI ((a : Int))))]) hx hb d_M_printDigits_8 rfl hl (by decide) rfl (fun ls hl => ?_)
    have K9 : ∀ (fuel : Nat) (m0 : Nat) (P9 S9 G9 dd9 : Nat → Int32) (F9 : Nat → va_E) (H : Heap) (locs : List Loc) (ls : Array Slot), za.natAbs / 10 ^ m0 < fuel → (m0 ≤ 620) → (∀ j, j < m0 → dd9 j = iI ((za.natAbs / 10 ^ j % 10 : Nat) : Int)) → (m0 = 0 ∨ za.natAbs / 10 ^ (m0 - 1) ≠ 0) → (Mg P9 S9 41 (za.natAbs / 10 ^ m0)) → (kp ty F F9 (fun c => c = 41)) → (frP F F9) → F9 (98) = .inr (6, [.int (iI (co)), .ref (ad (99)), .ref (ad (100)), .ref (ad (101)), .ref (ad (102)), .int (iI ((n0 : Int))), .int (iI (wr)), .ref (ad (103))]) → F9 (102) = .inl (ty 0, 1400, .inl (tt)) → F9 (103) = .inl (ty 0, 700, .inl (dd9)) → F9 (99) = .inl (ty 0, 12900, .inl (P9)) → F9 (100) = .inl (ty 0, 43, .inl (S9)) → F9 (101) = .inl (ty 4, 43, .inl (G9)) → pw D classes (tysL ty) ad M F9 (pA ad M s.heap.size) s H locs → lv_has ls 6 [(0, .ref (ad (98))), (2, .int (iI ((m0 : Int))))] → W p l e ({ frames := 1, cells := 0, slots := 0, locals := 23 } : Room) s m ([.ref (ad (98)), .int (iI ((a : Int)))]).toArray below meth c H locs 0 0 Q (F0 m 9 ls []) := by
      intro fuel
      induction fuel with
      | zero => intro m0 P9 S9 G9 dd9 F9 H locs ls hfuel hm0 hdd hpos hMg hkp hfr hO h102 h103 g99 g100 g101 hw hl; exact absurd hfuel (Nat.not_lt_zero _)
      | succ fuel ih9 =>
        intro m0 P9 S9 G9 dd9 F9 H locs ls hfuel hm0 hdd hpos hMg hkp hfr hO h102 h103 g99 g100 g101 hw hl
        obtain ⟨n, hS9, h39, hD9, ht9, hvv⟩ := hMg
        have hz9 := bvP_z ht9
        rw [hvv] at hz9
        have hMA9 : MA ty F9 P9 S9 G9 := ⟨g99, g100, g101⟩
        refine lv_aload_n hx hb d_M_printDigits_9 rfl (lv_at hl 0 rfl) ?_
        refine pw_get (ci := 6) (C := R_M) (T := T_M) (N := 8) hx hb hq i_M hown hw (by omega) hO rfl 2 (by decide) (hq _ fl_M_13) (fun _ h9 => h9) rfl d_M_printDigits_10 ?_
        refine wz_bipush (n := 41) hx hb d_M_printDigits_13 (by decide) ?_
        refine pw_iald (k := 41) hx hb hw 0 (by omega) g100 rfl (iI_in (by omega) (by omega) (by omega)) ((iI_cl (by omega) (by omega)).trans (by omega)) d_M_printDigits_15 ?_
        refine lv_topi (fun x15 ex15 => ?_)
        obtain rfl : x15 = iI ((n : Int)) := ex15.trans (hS9)
        refine wz_if_le (tgt := 102) hx hb d_M_printDigits_16 (by decide) (by omega) (by omega) (fun c16 => ?_) (fun c16 => ?_)
        · have hv9 : za.natAbs / 10 ^ m0 = 0 := by omega
          refine lv_iload_n hx hb d_M_printDigits_102 rfl (lv_at hl 1 rfl) ?_
          have K116 : ∀ (fuel : Nat) (kk ln : Nat) (tt9 : Nat → Int32) (F116 : Nat → va_E) (H : Heap) (locs : List Loc) (ls : Array Slot), kk < fuel → (ln + kk = n0 + dlen za.natAbs) → (n0 ≤ ln ∧ kk ≤ m0) → (∀ i, i < n0 → tt9 i = tt i) → (∀ j, j < ln - n0 → tt9 (n0 + j) = iI ((48 + za.natAbs / 10 ^ (dlen za.natAbs - 1 - j) % 10 : Nat) : Int)) → (kp ty F F116 (fun c => c = 41)) → (frP F F116) → F116 (98) = .inr (6, [.int (iI (co)), .ref (ad (99)), .ref (ad (100)), .ref (ad (101)), .ref (ad (102)), .int (iI ((ln : Int))), .int (iI (wr)), .ref (ad (103))]) → F116 (102) = .inl (ty 0, 1400, .inl (tt9)) → F116 (103) = .inl (ty 0, 700, .inl (dd9)) → pw D classes (tysL ty) ad M F116 (pA ad M s.heap.size) s H locs → lv_has ls 6 [(0, .ref (ad (98))), (3, .int (iI ((kk : Int) - 1)))] → W p l e ({ frames := 1, cells := 0, slots := 0, locals := 23 } : Room) s m ([.ref (ad (98)), .int (iI ((a : Int)))]).toArray below meth c H locs 0 0 Q (F0 m 116 ls []) := by
            intro fuel
            induction fuel with
            | zero => intro kk ln tt9 F116 H locs ls hfuel hln hnl hpre htx hkp hfr9 hO h102 h103 hw hl; exact absurd hfuel (Nat.not_lt_zero _)
            | succ fuel ih116 =>
              intro kk ln tt9 F116 H locs ls hfuel hln hnl hpre htx hkp hfr9 hO h102 h103 hw hl
              refine lv_iload_n hx hb d_M_printDigits_116 rfl (lv_at hl 1 rfl) ?_
              refine wz_if_lt (tgt := 139) hx hb d_M_printDigits_117 (by decide) (by omega) (by omega) (fun c117 => ?_) (fun c117 => ?_)
              · have hkk0 : kk = 0 := by omega
                subst hkk0
                rw [← hQ]
                exact pw_vret hx hb hr hlocks hw (by
                  rw [← hln, Nat.add_zero]
                  exact ⟨tt9, dd9, hO, h102, h103, hpre, fun j hj => htx j (by omega), hkp, hfr9⟩) d_M_printDigits_139
              · obtain ⟨k, rfl⟩ : ∃ k, kk = k + 1 := ⟨kk - 1, by omega⟩
                rw [show ((k + 1 : Nat) : Int) - 1 = (k : Int) by omega] at hl
                have hl620 := isLen_620 (isLen_dlen za.natAbs) hsm
                refine lv_aload_n hx hb d_M_printDigits_120 rfl (lv_at hl 0 rfl) ?_
                refine wz_bipush (n := 48) hx hb d_M_printDigits_121 (by decide) ?_
                refine lv_aload_n hx hb d_M_printDigits_123 rfl (lv_at hl 0 rfl) ?_
                refine pw_get (ci := 6) (C := R_M) (T := T_M) (N := 8) hx hb hq i_M hown hw (by omega) hO rfl 7 (by decide) (hq _ fl_M_27) (fun _ h9 => h9) rfl d_M_printDigits_124 ?_
                refine lv_iload_n hx hb d_M_printDigits_127 rfl (lv_at hl 1 rfl) ?_
                refine pw_iald (k := k) hx hb hw 0 (by omega) h103 rfl (iI_in (by omega) (by omega) (by omega)) ((iI_cl (by omega) (by omega)).trans (by omega)) d_M_printDigits_128 ?_
                refine lv_topi (fun x128 ex128 => ?_)
                obtain rfl : x128 = iI (((za.natAbs / 10 ^ k % 10 : Nat) : Int)) := ex128.trans (hdd k (by omega))
                refine wz_iadd (z := ((48 + za.natAbs / 10 ^ k % 10 : Nat) : Int)) hx hb d_M_printDigits_129 (by omega) ?_
                refine pw_callv hw (va_runV (As := [.int (iI (((48 + za.natAbs / 10 ^ k % 10 : Nat) : Int)))]) (rest := []) ⟨hx, hb, hml, hown, hq⟩ (c_M_print l D ty ad M F116 H.size hM (co) (wr) (ln) (48 + za.natAbs / 10 ^ k % 10) _ hO h102 (by omega)) (cwV 1 hq (gV ml_M_128 im_M_print se_M_print in_M m_M_print) rfl rfl rfl (by decide +kernel) ⟨Nat.le_of_ble_eq_true rfl, Nat.le_of_ble_eq_true rfl⟩) (pw_preV hw (by omega) hO rfl) rfl rfl hl.1 rfl (lv_room (Nat.le_of_ble_eq_true rfl)) d_M_printDigits_130 ⟨Nat.le_of_ble_eq_true rfl, Nat.le_of_ble_eq_true rfl⟩) (fun F130 H locs q130 hw => ?_)
                obtain ⟨u98_130, u102_130, hf130⟩ := q130
                have h103_at_130 : F130 (103) = .inl (ty 0, 700, .inl (dd9)) := (hf130 (103) (by omega) (by omega)).trans h103
                refine wz_iinc (z := (k : Int) - 1) (lv' := [(3, .int (iI ((k : Int) - 1))), (0, .ref (ad (98)))]) hx hb d_M_printDigits_133 hl (k := 1) rfl (by omega) (by decide) rfl (fun ls hl => ?_)
                refine lv_goto (tgt := 116) hx hb d_M_printDigits_136 (by decide) ?_
                exact ih116 k (ln + 1) (upd tt9 ln (iI ((48 + za.natAbs / 10 ^ k % 10 : Nat) : Int))) _ _ _ ls (by omega) (by omega) (by omega) (fun i hi => by rw [pk_un (by omega)]; exact hpre i hi) (dgT_up (by omega) (by omega) htx) (((hkp).trans (kp_mem (T := fun c => c = 43) (hf130 (99) (by omega) (by omega)) (hf130 (100) (by omega) (by omega)) (hf130 (101) (by omega) (by omega)))).weak (fun c9 _ h9 => by first | omega | ((try dsimp only at h9); (try dsimp only); omega))) (fun y9 h1 => (hf130 (y9) (by omega) (by omega)).trans (hfr9 y9 h1)) u98_130 u102_130 h103_at_130 hw (lv_sub hl [1, 0] rfl)
          refine wz_if_ne (tgt := 112) hx hb d_M_printDigits_103 (by decide) (by omega) (by omega) (fun c103 => ?_) (fun c103 => ?_)
          · have hlen := len_m hv9 (hpos.resolve_left (by omega)) (by omega)
            refine lv_iload_n hx hb d_M_printDigits_112 rfl (lv_at hl 1 rfl) ?_
            refine wz_iconst (n := 1) hx hb d_M_printDigits_113 ?_
            refine wz_isub hx hb d_M_printDigits_114 rfl ?_
            refine lv_istore_n (lv' := [(3, .int (iI ((m0 : Int) - 1))), (0, .ref (ad (98))), (2, .int (iI ((m0 : Int))))]) hx hb d_M_printDigits_115 rfl hl (by decide) rfl (fun ls hl => ?_)
            exact K116 _ m0 n0 tt _ _ _ ls (Nat.lt_succ_self _) (by omega) (by omega) (fun i hi => rfl) (fun j hj => absurd hj (by omega)) (hkp) (hfr) hO h102 h103 hw (lv_sub hl [1, 0] rfl)
          · have hm00 : m0 = 0 := by omega
            have hv0 : za.natAbs = 0 := by rw [hm00, Nat.pow_zero, Nat.div_one] at hv9; exact hv9
            refine lv_aload_n hx hb d_M_printDigits_106 rfl (lv_at hl 0 rfl) ?_
            refine wz_bipush (n := 48) hx hb d_M_printDigits_107 (by decide) ?_
            refine pw_callv hw (va_runV (As := [.int (iI (48))]) (rest := []) ⟨hx, hb, hml, hown, hq⟩ (c_M_print l D ty ad M F9 H.size hM (co) (wr) (n0) (48) _ hO h102 (by omega)) (cwV 1 hq (gV ml_M_128 im_M_print se_M_print in_M m_M_print) rfl rfl rfl (by decide +kernel) ⟨Nat.le_of_ble_eq_true rfl, Nat.le_of_ble_eq_true rfl⟩) (pw_preV hw (by omega) hO rfl) rfl rfl hl.1 rfl (lv_room (Nat.le_of_ble_eq_true rfl)) d_M_printDigits_109 ⟨Nat.le_of_ble_eq_true rfl, Nat.le_of_ble_eq_true rfl⟩) (fun F109 H locs q109 hw => ?_)
            obtain ⟨u98_109, u102_109, hf109⟩ := q109
            have h103_at_109 : F109 (103) = .inl (ty 0, 700, .inl (dd9)) := (hf109 (103) (by omega) (by omega)).trans h103
            have g99_at_109 : F109 (99) = .inl (ty 0, 12900, .inl (P9)) := (hf109 (99) (by omega) (by omega)).trans g99
            have g100_at_109 : F109 (100) = .inl (ty 0, 43, .inl (S9)) := (hf109 (100) (by omega) (by omega)).trans g100
            have g101_at_109 : F109 (101) = .inl (ty 4, 43, .inl (G9)) := (hf109 (101) (by omega) (by omega)).trans g101
            refine lv_iload_n hx hb d_M_printDigits_112 rfl (lv_at hl 1 rfl) ?_
            refine wz_iconst (n := 1) hx hb d_M_printDigits_113 ?_
            refine wz_isub (z := ((0 : Nat) : Int) - 1) hx hb d_M_printDigits_114 (by omega) ?_
            refine lv_istore_n (lv' := [(3, .int (iI (((0 : Nat) : Int) - 1))), (0, .ref (ad (98))), (2, .int (iI ((m0 : Int))))]) hx hb d_M_printDigits_115 rfl hl (by decide) rfl (fun ls hl => ?_)
            exact K116 _ 0 (n0 + 1) (upd tt n0 (iI ((48 : Nat) : Int))) _ _ _ ls (Nat.lt_succ_self _) (by rw [hv0, len_0]) (by omega) (fun i hi => pk_un (by omega)) (fun j hj => by rw [show n0 + j = n0 by omega, pk_us, hv0]; simp) (((hkp).trans (kp_mem (T := fun c => c = 43) (hf109 (99) (by omega) (by omega)) (hf109 (100) (by omega) (by omega)) (hf109 (101) (by omega) (by omega)))).weak (fun c9 _ h9 => by first | omega | ((try dsimp only at h9); (try dsimp only); omega))) (fun y9 h1 => (hf109 (y9) (by omega) (by omega)).trans (hfr y9 h1)) u98_109 u102_109 h103_at_109 hw (lv_sub hl [1, 0] rfl)
        · have hv9 : za.natAbs / 10 ^ m0 ≠ 0 := by omega
          have hm9 := dec_620 hsm hv9
          refine wz_iconst (n := 0) hx hb d_M_printDigits_19 ?_
          refine lv_istore_n (lv' := [(3, .int (iI (0))), (0, .ref (ad (98))), (2, .int (iI ((m0 : Int))))]) hx hb d_M_printDigits_20 rfl hl (by decide) rfl (fun ls hl => ?_)
          refine lv_aload_n hx hb d_M_printDigits_21 rfl (lv_at hl 1 rfl) ?_
          refine pw_get (ci := 6) (C := R_M) (T := T_M) (N := 8) hx hb hq i_M hown hw (by omega) hO rfl 2 (by decide) (hq _ fl_M_13) (fun _ h9 => h9) rfl d_M_printDigits_22 ?_
          refine wz_bipush (n := 41) hx hb d_M_printDigits_25 (by decide) ?_
          refine pw_iald (k := 41) hx hb hw 0 (by omega) g100 rfl (iI_in (by omega) (by omega) (by omega)) ((iI_cl (by omega) (by omega)).trans (by omega)) d_M_printDigits_27 ?_
          refine lv_topi (fun x27 ex27 => ?_)
          obtain rfl : x27 = iI ((n : Int)) := ex27.trans (hS9)
          refine wz_iconst (n := 1) hx hb d_M_printDigits_28 ?_
          refine wz_isub hx hb d_M_printDigits_29 rfl ?_
          refine lv_istore (lv' := [(4, .int (iI ((n : Int) - 1))), (3, .int (iI (0))), (0, .ref (ad (98))), (2, .int (iI ((m0 : Int))))]) hx hb d_M_printDigits_30 hl (by decide) rfl (fun ls hl => ?_)
          have K32 : ∀ (fuel : Nat) (kk r0 : Nat) (P8 : Nat → Int32) (F32 : Nat → va_E) (H : Heap) (locs : List Loc) (ls : Array Slot), kk < fuel → (kk ≤ n) → (r0 < 10) → (xx P9 kk (n - kk) = xx P8 kk (n - kk) * 10 + r0) → (∀ t, kk ≤ t → t < n → dl P8 (12300 + t) < 65536) → (∀ j, j < 12300 + kk ∨ 12300 + n ≤ j → P8 j = P9 j) → (frP F F32) → F32 (98) = .inr (6, [.int (iI (co)), .ref (ad (99)), .ref (ad (100)), .ref (ad (101)), .ref (ad (102)), .int (iI ((n0 : Int))), .int (iI (wr)), .ref (ad (103))]) → F32 (102) = .inl (ty 0, 1400, .inl (tt)) → F32 (103) = .inl (ty 0, 700, .inl (dd9)) → F32 (99) = .inl (ty 0, 12900, .inl (P8)) → F32 (100) = .inl (ty 0, 43, .inl (S9)) → F32 (101) = .inl (ty 4, 43, .inl (G9)) → pw D classes (tysL ty) ad M F32 (pA ad M s.heap.size) s H locs → lv_has ls 6 [(0, .ref (ad (98))), (2, .int (iI ((m0 : Int)))), (3, .int (iI ((r0 : Int)))), (4, .int (iI ((kk : Int) - 1)))] → W p l e ({ frames := 1, cells := 0, slots := 0, locals := 23 } : Room) s m ([.ref (ad (98)), .int (iI ((a : Int)))]).toArray below meth c H locs 0 0 Q (F0 m 32 ls []) := by
            intro fuel
            induction fuel with
            | zero => intro kk r0 P8 F32 H locs ls hfuel hkk hr9 hU hDw hlo hfr9 hO h102 h103 g99 g100 g101 hw hl; exact absurd hfuel (Nat.not_lt_zero _)
            | succ fuel ih32 =>
              intro kk r0 P8 F32 H locs ls hfuel hkk hr9 hU hDw hlo hfr9 hO h102 h103 g99 g100 g101 hw hl
              refine lv_iload hx hb d_M_printDigits_32 (lv_at hl 3 rfl) ?_
              refine wz_if_lt (tgt := 83) hx hb d_M_printDigits_34 (by decide) (by omega) (by omega) (fun c34 => ?_) (fun c34 => ?_)
              · have hkk0 : kk = 0 := by omega
                rw [hkk0, xx_0, xx_0, Nat.sub_zero, hvv] at hU
                obtain ⟨q9, hq9⟩ : ∃ q9, bvP P8 41 n = q9 := ⟨_, rfl⟩
                rw [hq9] at hU
                have hq0 : q9 = za.natAbs / 10 ^ m0 / 10 := by omega
                have hr0 : za.natAbs / 10 ^ m0 % 10 = r0 := by omega
                refine lv_aload_n hx hb d_M_printDigits_83 rfl (lv_at hl 0 rfl) ?_
                refine wz_bipush (n := 41) hx hb d_M_printDigits_84 (by decide) ?_
                refine pw_callv hw (va_runV (As := [.int (iI (41))]) (rest := []) ⟨hx, hb, hml, hown, hq⟩ (c_M_trim l D ty ad M F32 H.size hM co (n0 : Int) wr hO P8 S9 G9 ⟨g99, g100, g101⟩ 41 n (by omega) (hS9) (by omega) (fun i hi => hDw i (by omega) hi)) (cwV 1 hq (gV ml_M_39 im_M_trim se_M_trim in_M m_M_trim) rfl rfl rfl (by decide +kernel) ⟨Nat.le_of_ble_eq_true rfl, Nat.le_of_ble_eq_true rfl⟩) (pw_preV hw (by omega) hO rfl) rfl rfl hl.1 rfl (lv_room (Nat.le_of_ble_eq_true rfl)) d_M_printDigits_86 ⟨Nat.le_of_ble_eq_true rfl, Nat.le_of_ble_eq_true rfl⟩) (fun F86 H locs q86 hw => ?_)
                obtain ⟨S8, B8, hMA8, hMg8, hB8, ho8, hf8⟩ := q86
                obtain ⟨k99, k100, k101⟩ := hMA8
                rw [hq9] at hMg8
                have hO_at_86 : F86 (98) = .inr (6, [.int (iI (co)), .ref (ad (99)), .ref (ad (100)), .ref (ad (101)), .ref (ad (102)), .int (iI ((n0 : Int))), .int (iI (wr)), .ref (ad (103))]) := (hf8 (98) (by omega) (by omega) (by omega)).trans hO
                have h102_at_86 : F86 (102) = .inl (ty 0, 1400, .inl (tt)) := (hf8 (102) (by omega) (by omega) (by omega)).trans h102
                have h103_at_86 : F86 (103) = .inl (ty 0, 700, .inl (dd9)) := (hf8 (103) (by omega) (by omega) (by omega)).trans h103
                refine lv_aload_n hx hb d_M_printDigits_89 rfl (lv_at hl 0 rfl) ?_
                refine pw_get (ci := 6) (C := R_M) (T := T_M) (N := 8) hx hb hq i_M hown hw (by omega) hO_at_86 rfl 7 (by decide) (hq _ fl_M_27) (fun _ h9 => h9) rfl d_M_printDigits_90 ?_
                refine lv_iload_n hx hb d_M_printDigits_93 rfl (lv_at hl 1 rfl) ?_
                refine lv_iload_n hx hb d_M_printDigits_94 rfl (lv_at hl 2 rfl) ?_
                refine pw_iast (k := m0) hx hb hw 0 (by omega) h103_at_86 rfl (iI_in (by omega) (by omega) (by omega)) ((iI_cl (by omega) (by omega)).trans (by omega)) d_M_printDigits_95 (fun F95 H locs eF95 hw => ?_)
                have m95_103 : F95 (103) = .inl (ty 0, 700, .inl (upd dd9 (m0) (iI ((r0 : Int))))) := by rw [eF95]; exact va_up_self ..
                have hO_at_95 : F95 (98) = .inr (6, [.int (iI (co)), .ref (ad (99)), .ref (ad (100)), .ref (ad (101)), .ref (ad (102)), .int (iI ((n0 : Int))), .int (iI (wr)), .ref (ad (103))]) := (show F95 (98) = F86 (98) from by rw [eF95]; exact va_up_ne _ _ (by omega)).trans hO_at_86
                have h102_at_95 : F95 (102) = .inl (ty 0, 1400, .inl (tt)) := (show F95 (102) = F86 (102) from by rw [eF95]; exact va_up_ne _ _ (by omega)).trans h102_at_86
                have k99_at_95 : F95 (99) = .inl (ty 0, 12900, .inl (P8)) := (show F95 (99) = F86 (99) from by rw [eF95]; exact va_up_ne _ _ (by omega)).trans k99
                have k100_at_95 : F95 (100) = .inl (ty 0, 43, .inl (S8)) := (show F95 (100) = F86 (100) from by rw [eF95]; exact va_up_ne _ _ (by omega)).trans k100
                have k101_at_95 : F95 (101) = .inl (ty 4, 43, .inl (B8)) := (show F95 (101) = F86 (101) from by rw [eF95]; exact va_up_ne _ _ (by omega)).trans k101
                refine wz_iinc (z := ((m0 + 1 : Nat) : Int)) (lv' := [(2, .int (iI (((m0 + 1 : Nat) : Int)))), (0, .ref (ad (98))), (3, .int (iI ((r0 : Int)))), (4, .int (iI ((kk : Int) - 1)))]) hx hb d_M_printDigits_96 hl (k := 1) rfl (by omega) (by decide) rfl (fun ls hl => ?_)
                refine lv_goto (tgt := 9) hx hb d_M_printDigits_99 (by decide) ?_
                exact ih9 (m0 + 1) P8 S8 B8 (upd dd9 m0 (iI ((r0 : Nat) : Int))) _ _ _ ls (by rw [Nat.pow_succ, ← Nat.div_div_eq_div_mul]; omega) (by omega) (fun j hj => by
                  by_cases h9 : j = m0
                  · rw [h9, pk_us, ← hr0]
                  · rw [pk_un h9]; exact hdd j (by omega)) (Or.inr hv9) (by rw [Nat.pow_succ, ← Nat.div_div_eq_div_mul, ← hq0]; exact hMg8) ((hkp.trans (kp_of (T := fun c => c = 41) hMA9 ⟨k99_at_95, k100_at_95, k101_at_95⟩ (fun c9 h8 h9 => ⟨(ho8 c9 h9).1, (ho8 c9 h9).2, fun i9 h7 => hlo _ (by first | omega | ((try dsimp only at h9); (try dsimp only); omega))⟩))).weak (fun c9 _ h9 => by first | omega | ((try dsimp only at h9); (try dsimp only); omega))) (fun y9 h1 => ((show F95 (y9) = F86 (y9) from by rw [eF95]; exact va_up_ne _ _ (by omega)).trans (hf8 (y9) (by omega) (by omega) (by omega))).trans (hfr9 y9 h1)) hO_at_95 h102_at_95 m95_103 k99_at_95 k100_at_95 k101_at_95 hw (lv_sub hl [1, 0] rfl)
              · obtain ⟨k, rfl⟩ : ∃ k, kk = k + 1 := ⟨kk - 1, by omega⟩
                rw [show ((k + 1 : Nat) : Int) - 1 = (k : Int) by omega] at hl
                have hdk : dl P9 (12300 + k) < 65536 := hD9 k (by omega)
                obtain ⟨x0, hx0⟩ : ∃ x0, x0 = r0 * 65536 + dl P9 (12300 + k) := ⟨_, rfl⟩
                refine lv_iload_n hx hb d_M_printDigits_37 rfl (lv_at hl 2 rfl) ?_
                refine lv_ldc (v := iI (65536)) hx hb hown (hq _ co_M_43) d_M_printDigits_38 ?_
                refine wz_imul hx hb d_M_printDigits_40 rfl ?_
                refine lv_aload_n hx hb d_M_printDigits_41 rfl (lv_at hl 0 rfl) ?_
                refine pw_get (ci := 6) (C := R_M) (T := T_M) (N := 8) hx hb hq i_M hown hw (by omega) hO rfl 1 (by decide) (hq _ fl_M_7) (fun _ h9 => h9) rfl d_M_printDigits_42 ?_
                refine wz_sipush (n := 12300) hx hb d_M_printDigits_45 (by decide) ?_
                refine lv_iload hx hb d_M_printDigits_48 (lv_at hl 3 rfl) ?_
                refine wz_iadd hx hb d_M_printDigits_50 rfl ?_
                refine pw_iald (k := 12300 + k) hx hb hw 0 (by omega) g99 rfl (iI_in (by omega) (by omega) (by omega)) ((iI_cl (by omega) (by omega)).trans (by omega)) d_M_printDigits_51 ?_
                refine lv_topi (fun x51 ex51 => ?_)
                obtain rfl : x51 = iI ((dl P9 (12300 + k) : Int)) := ex51.trans ((hlo _ (by omega)).trans (dl_get (by omega)))
                refine wz_iadd (z := (x0 : Int)) hx hb d_M_printDigits_52 (by omega) ?_
                refine lv_istore (lv' := [(5, .int (iI ((x0 : Int)))), (0, .ref (ad (98))), (2, .int (iI ((m0 : Int)))), (3, .int (iI ((r0 : Int)))), (4, .int (iI ((k : Int))))]) hx hb d_M_printDigits_53 hl (by decide) rfl (fun ls hl => ?_)
                refine lv_aload_n hx hb d_M_printDigits_55 rfl (lv_at hl 1 rfl) ?_
                refine pw_get (ci := 6) (C := R_M) (T := T_M) (N := 8) hx hb hq i_M hown hw (by omega) hO rfl 1 (by decide) (hq _ fl_M_7) (fun _ h9 => h9) rfl d_M_printDigits_56 ?_
                refine wz_sipush (n := 12300) hx hb d_M_printDigits_59 (by decide) ?_
                refine lv_iload hx hb d_M_printDigits_62 (lv_at hl 4 rfl) ?_
                refine wz_iadd hx hb d_M_printDigits_64 rfl ?_
                refine lv_iload hx hb d_M_printDigits_65 (lv_at hl 0 rfl) ?_
                refine wz_bipush (n := 10) hx hb d_M_printDigits_67 (by decide) ?_
                refine wz_idiv (a := x0) (b := 10) (z := x0 / 10) hx hb d_M_printDigits_69 (by omega) (by omega) (by omega) (rfl) ?_
                refine pw_iast (k := 12300 + k) hx hb hw 0 (by omega) g99 rfl (iI_in (by omega) (by omega) (by omega)) ((iI_cl (by omega) (by omega)).trans (by omega)) d_M_printDigits_70 (fun F70 H locs eF70 hw => ?_)
                have m70_99 : F70 (99) = .inl (ty 0, 12900, .inl (upd P8 (12300 + k) (iI (((x0 / 10 : Nat) : Int))))) := by rw [eF70]; exact va_up_self ..
                have hO_at_70 : F70 (98) = .inr (6, [.int (iI (co)), .ref (ad (99)), .ref (ad (100)), .ref (ad (101)), .ref (ad (102)), .int (iI ((n0 : Int))), .int (iI (wr)), .ref (ad (103))]) := (show F70 (98) = F32 (98) from by rw [eF70]; exact va_up_ne _ _ (by omega)).trans hO
                have h102_at_70 : F70 (102) = .inl (ty 0, 1400, .inl (tt)) := (show F70 (102) = F32 (102) from by rw [eF70]; exact va_up_ne _ _ (by omega)).trans h102
                have h103_at_70 : F70 (103) = .inl (ty 0, 700, .inl (dd9)) := (show F70 (103) = F32 (103) from by rw [eF70]; exact va_up_ne _ _ (by omega)).trans h103
                have g100_at_70 : F70 (100) = .inl (ty 0, 43, .inl (S9)) := (show F70 (100) = F32 (100) from by rw [eF70]; exact va_up_ne _ _ (by omega)).trans g100
                have g101_at_70 : F70 (101) = .inl (ty 4, 43, .inl (G9)) := (show F70 (101) = F32 (101) from by rw [eF70]; exact va_up_ne _ _ (by omega)).trans g101
                refine lv_iload hx hb d_M_printDigits_71 (lv_at hl 0 rfl) ?_
                refine wz_bipush (n := 10) hx hb d_M_printDigits_73 (by decide) ?_
                refine wz_irem (a := x0) (b := 10) (z := x0 % 10) hx hb d_M_printDigits_75 (by omega) (by omega) (by omega) (rfl) ?_
                refine lv_istore_n (lv' := [(3, .int (iI (((x0 % 10 : Nat) : Int)))), (5, .int (iI ((x0 : Int)))), (0, .ref (ad (98))), (2, .int (iI ((m0 : Int)))), (4, .int (iI ((k : Int))))]) hx hb d_M_printDigits_76 rfl hl (by decide) rfl (fun ls hl => ?_)
                refine wz_iinc (z := (k : Int) - 1) (lv' := [(4, .int (iI ((k : Int) - 1))), (3, .int (iI (((x0 % 10 : Nat) : Int)))), (5, .int (iI ((x0 : Int)))), (0, .ref (ad (98))), (2, .int (iI ((m0 : Int))))]) hx hb d_M_printDigits_77 hl (k := 4) rfl (by omega) (by decide) rfl (fun ls hl => ?_)
                refine lv_goto (tgt := 32) hx hb d_M_printDigits_80 (by decide) ?_
                exact ih32 k (x0 % 10) (upd P8 (12300 + k) (iI ((x0 / 10 : Nat) : Int))) _ _ _ ls (by omega) (by omega) (by omega) (xs_loop hkk hU hx0 (by omega)) (fun t h1 h2 => by
                  by_cases h9 : t = k
                  · rw [h9, dl_us (by omega)]; omega
                  · rw [dl_un (by omega)]; exact hDw t (by omega) h2) (fun j hj => by rw [pk_un (by omega)]; exact hlo j (by omega)) (fun y9 h1 => (show F70 (y9) = F32 (y9) from by rw [eF70]; exact va_up_ne _ _ (by omega)).trans (hfr9 y9 h1)) hO_at_70 h102_at_70 h103_at_70 m70_99 g100_at_70 g101_at_70 hw (lv_sub hl [3, 4, 1, 0] rfl)
          exact K32 _ n 0 P9 _ _ _ ls (Nat.lt_succ_self _) (Nat.le_refl _) (by omega) (by simp [xx, bv_0]) (fun t h1 h2 => absurd h1 (by omega)) (fun j hj => rfl) (hfr) hO h102 h103 g99 g100 g101 hw (lv_sub hl [2, 3, 1, 0] rfl)
    exact K9 _ 0 P4 S4 G4 dd _ _ _ ls (Nat.lt_succ_self _) (by omega) (fun j hj => absurd hj (by omega)) (Or.inl rfl) (by rw [Nat.pow_zero, Nat.div_one]; exact ⟨n4, hS4, h34, hD4, ht4, hv4⟩) ((hk4).weak (fun c9 _ h9 => by first | omega | ((try dsimp only at h9); (try dsimp only); omega))) (fun y9 h1 => hf4 (y9) (by omega) (by omega) (by omega)) hO_at_4 h102_at_4 h103_at_4 g99 g100 g101 hw (lv_sub hl [1, 0] rfl)
  rw [hH, hlo] at hgo
  exact hgo
