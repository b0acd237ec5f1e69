/-! the reference: read: by program -/
set_option maxHeartbeats 4000000 in
set_option maxRecDepth 100000 in
/-- read(to) -/
theorem c_M_read (l : Launch) (D : va_G) (ty : Nat → ClassId) (ad : Nat → Nat) (M : Nat) (F : Nat → va_E) (sz : Nat) (hM : 103 < M) (g : Sg) (co : Int) (hMo : Mo ty ad F co g) (hok : okS g) (to : Int) (hto : -2147483648 ≤ to ∧ to < 2147483648) :
    CI l y_M_read w_M_read ({ frames := 5, cells := 0, slots := 0, locals := 127 } : Room) [.ref (ad (98)), .int (iI (to))] D ty ad M F sz (fun r F1 => r = iI (o_read g to).2.1 ∧ Mo ty ad F1 (o_read g to).1 (o_read g to).2.2 ∧ frP F F1) := by
  refine Met.ofW (cc := b_M_read) (maxL := 7) (ret := (some .int)) (by decide) rfl ?_
  intro p e s m args below meth c s₁ B hml hv
  obtain ⟨rfl, hsz, hP, hK, hD0⟩ := hv
  have hx := B.exec
  have hb := B.bytes
  have hr := B.returns
  have hts := atoms_spec (ws := w_M_read) B.pre
  have hq : ∀ w ∈ wT, w.before _ s = true := fun w h => hts w (List.mem_cons_of_mem _ h)
  have hown : s.vm.findClass R_M = some m.cls := findClass_of_methodNamed B.named
  have hlocks := B.notSynchronized
  subst hsz
  have hw := pw_start hP hK hD0
  have hl := lv_entry ([.ref (ad (98)), .int (iI (to))]) (n := 7) (Nat.le_of_ble_eq_true rfl)
  rw [lg_entry_eq]
  generalize (lg_sl ([.ref (ad (98)), .int (iI (to))]) ++ List.replicate (7 - (lg_sl ([.ref (ad (98)), .int (iI (to))])).length) Slot.unset).toArray = ls at hl ⊢
  have hl : lv_has ls 7 [(0, .ref (ad (98))), (1, .int (iI (to)))] := hl
  change W p l e ({ frames := 5, cells := 0, slots := 0, locals := 127 } : Room) s m ([.ref (ad (98)), .int (iI (to))]).toArray below meth c s.heap [] 0 0 (MQ below (va_Qi (fun r F1 => r = iI (o_read g to).2.1 ∧ Mo ty ad F1 (o_read g to).1 (o_read g to).2.2 ∧ frP F F1) (pAt D classes (tysL ty) ad M (pA ad M s.heap.size)) (pA ad M s.heap.size)) ([.ref (ad (98)), .int (iI (to))]).toArray s 0 0 (pA ad M s.heap.size)) (F0 m 0 ls [])
  generalize hQ : MQ below (va_Qi (fun r F1 => r = iI (o_read g to).2.1 ∧ Mo ty ad F1 (o_read g to).1 (o_read g to).2.2 ∧ frP F F1) (pAt D classes (tysL ty) ad M (pA ad M s.heap.size)) (pA ad M s.heap.size)) ([.ref (ad (98)), .int (iI (to))]).toArray s 0 0 (pA ad M s.heap.size) = Q
  obtain ⟨H, hH⟩ : ∃ H, H = s.heap := ⟨_, rfl⟩
  obtain ⟨locs, hlo⟩ : ∃ z : List Loc, z = [] := ⟨_, rfl⟩
  have hw : pw D classes (tysL ty) ad M F (pA ad M s.heap.size) s H locs := by rw [hH, hlo]; exact hw
  have hgo : W p l e ({ frames := 5, cells := 0, slots := 0, locals := 127 } : Room) s m ([.ref (ad (98)), .int (iI (to))]).toArray below meth c H locs 0 0 Q (F0 m 0 ls []) := by
    obtain ⟨hO, hRn, tt, dd, h102, htt, h103⟩ := id hMo
    have N0 := (hRn 0 (by decide)).1
    have hn14 := hok.2.1
    obtain ⟨n, hnS⟩ : ∃ n, n = nS g := ⟨_, rfl⟩
    obtain ⟨tx, htx⟩ : ∃ tx, tx = tS g := ⟨_, rfl⟩
    have hn : n ≤ 1400 := by omega
    have hch : ∀ i, i < n → tx i < 128 := by rw [hnS, htx]; exact hok.2.2.1
    rw [← hnS] at hO
    rw [← hnS, ← htx] at htt
    obtain ⟨fd, hfd⟩ : ∃ fd, fd = fdig tx n := ⟨_, rfl⟩
    obtain ⟨e1, he1⟩ : ∃ e1, e1 = dend tx (n - fd) fd := ⟨_, rfl⟩
    obtain ⟨e2, he2⟩ : ∃ e2, e2 = dend tx (n - (e1 + 1)) (e1 + 1) := ⟨_, rfl⟩
    have hfd1 := @fdig_le tx n
    rw [← hfd] at hfd1
    have hb1 := dend_b tx (n - fd) fd
    rw [← he1] at hb1
    have hb2 := dend_b tx (n - (e1 + 1)) (e1 + 1)
    rw [← he2] at hb2
    obtain ⟨wt, hwt⟩ : ∃ wt, wt = wrongT tx n := ⟨_, rfl⟩
    refine lv_aload_n hx hb d_M_read_0 rfl (lv_at hl 0 rfl) ?_
    refine lv_iload_n hx hb d_M_read_1 rfl (lv_at hl 1 rfl) ?_
    refine pw_calli hw (va_runS (As := [.int (iI (to))]) (rest := [.ref (ad (98))]) ⟨hx, hb, hml, hown, hq⟩ (c_M_isRegister l D ty ad M F H.size (to) (by omega)) (va_cwS 1 hq (gS ml_M_86 st_M_isRegister in_M m_M_isRegister) rfl rfl rfl (by decide +kernel) ⟨Nat.le_of_ble_eq_true rfl, Nat.le_of_ble_eq_true rfl⟩) (pw_preS hw) rfl rfl hl.1 rfl (lv_room (Nat.le_of_ble_eq_true rfl)) d_M_read_2 ⟨Nat.le_of_ble_eq_true rfl, Nat.le_of_ble_eq_true rfl⟩) (fun r2 F2 H locs q2 hw => ?_)
    obtain ⟨er2, eF2⟩ := q2
    rw [eF2] at hw
    clear eF2
    subst er2
    have hrg5 := rg_le to
    refine wz_if_eq (tgt := 12) hx hb d_M_read_5 (by decide) (by omega) (by omega) (fun c5 => ?_) (fun c5 => ?_)
    · have hRe : ¬ isR to := rg_z c5
      refine wz_iconst (n := 1) hx hb d_M_read_12 ?_
      refine pw_put (ci := 6) (C := R_M) (T := T_M) (N := 8) (ty := .int) (fs' := [.int (iI (1)), .ref (ad (99)), .ref (ad (100)), .ref (ad (101)), .ref (ad (102)), .int (iI ((n : Int))), .int (iI (pS g)), .ref (ad (103))]) hx hb hq i_M ft_M ft_M_ok n_M hown hw (by omega) hO rfl 0 (by decide) (hq _ fl_M_34) (fun _ h9 => h9) rfl (by decide +kernel) rfl rfl (Nat.le_of_ble_eq_true rfl) rfl d_M_read_13 (fun F13 H locs eF13 hw => ?_)
      have m13_98 : F13 (98) = .inr (6, [.int (iI (1)), .ref (ad (99)), .ref (ad (100)), .ref (ad (101)), .ref (ad (102)), .int (iI ((n : Int))), .int (iI (pS g)), .ref (ad (103))]) := by rw [eF13]; exact va_up_self ..
      have hRn_at_13 : Rn ty F13 (g) := hRn.m3 (show F13 (99) = F (99) from by rw [eF13]; exact va_up_ne _ _ (by omega)) (show F13 (100) = F (100) from by rw [eF13]; exact va_up_ne _ _ (by omega)) (show F13 (101) = F (101) from by rw [eF13]; exact va_up_ne _ _ (by omega))
      have N0_at_13 : Nm ty F13 (0) (zS g 0) := N0.m3 (show F13 (99) = F (99) from by rw [eF13]; exact va_up_ne _ _ (by omega)) (show F13 (100) = F (100) from by rw [eF13]; exact va_up_ne _ _ (by omega)) (show F13 (101) = F (101) from by rw [eF13]; exact va_up_ne _ _ (by omega))
      have h102_at_13 : F13 (102) = .inl (ty 0, 1400, .inl (tt)) := (show F13 (102) = F (102) from by rw [eF13]; exact va_up_ne _ _ (by omega)).trans h102
      have h103_at_13 : F13 (103) = .inl (ty 0, 700, .inl (dd)) := (show F13 (103) = F (103) from by rw [eF13]; exact va_up_ne _ _ (by omega)).trans h103
      refine lv_aload_n hx hb d_M_read_16 rfl (lv_at hl 0 rfl) ?_
      refine pw_get (ci := 6) (C := R_M) (T := T_M) (N := 8) hx hb hq i_M hown hw (by omega) m13_98 rfl 0 (by decide) (hq _ fl_M_34) (fun _ h9 => h9) rfl d_M_read_17 ?_
      refine wz_if_le (tgt := 25) hx hb d_M_read_20 (by decide) (by omega) (by omega) (fun c20 => ?_) (fun c20 => ?_)
      · exact absurd c20 (by omega)
      · refine wz_iconst (n := 0) hx hb d_M_read_23 ?_
        rw [← hQ]
        exact pw_iret hx hb hr hlocks hw (by
          rw [o_read, cif_neg hRe]
          exact ⟨rfl, ⟨by rw [← hnS]; exact m13_98, hRn_at_13, _, _, h102_at_13, by rw [← hnS, ← htx]; exact htt, h103_at_13⟩, fun y9 h1 => show F13 (y9) = F (y9) from by rw [eF13]; exact va_up_ne _ _ (by omega)⟩) d_M_read_24
    · have hRto : isR to := rg_nz c5
      refine wz_iconst (n := 0) hx hb d_M_read_8 ?_
      refine lv_goto (tgt := 13) hx hb d_M_read_9 (by decide) ?_
      refine pw_put (ci := 6) (C := R_M) (T := T_M) (N := 8) (ty := .int) (fs' := [.int (iI (0)), .ref (ad (99)), .ref (ad (100)), .ref (ad (101)), .ref (ad (102)), .int (iI ((n : Int))), .int (iI (pS g)), .ref (ad (103))]) hx hb hq i_M ft_M ft_M_ok n_M hown hw (by omega) hO rfl 0 (by decide) (hq _ fl_M_34) (fun _ h9 => h9) rfl (by decide +kernel) rfl rfl (Nat.le_of_ble_eq_true rfl) rfl d_M_read_13 (fun F13 H locs eF13 hw => ?_)
      have m13_98 : F13 (98) = .inr (6, [.int (iI (0)), .ref (ad (99)), .ref (ad (100)), .ref (ad (101)), .ref (ad (102)), .int (iI ((n : Int))), .int (iI (pS g)), .ref (ad (103))]) := by rw [eF13]; exact va_up_self ..
      have hRn_at_13 : Rn ty F13 (g) := hRn.m3 (show F13 (99) = F (99) from by rw [eF13]; exact va_up_ne _ _ (by omega)) (show F13 (100) = F (100) from by rw [eF13]; exact va_up_ne _ _ (by omega)) (show F13 (101) = F (101) from by rw [eF13]; exact va_up_ne _ _ (by omega))
      have N0_at_13 : Nm ty F13 (0) (zS g 0) := N0.m3 (show F13 (99) = F (99) from by rw [eF13]; exact va_up_ne _ _ (by omega)) (show F13 (100) = F (100) from by rw [eF13]; exact va_up_ne _ _ (by omega)) (show F13 (101) = F (101) from by rw [eF13]; exact va_up_ne _ _ (by omega))
      have h102_at_13 : F13 (102) = .inl (ty 0, 1400, .inl (tt)) := (show F13 (102) = F (102) from by rw [eF13]; exact va_up_ne _ _ (by omega)).trans h102
      have h103_at_13 : F13 (103) = .inl (ty 0, 700, .inl (dd)) := (show F13 (103) = F (103) from by rw [eF13]; exact va_up_ne _ _ (by omega)).trans h103
      refine lv_aload_n hx hb d_M_read_16 rfl (lv_at hl 0 rfl) ?_
      refine pw_get (ci := 6) (C := R_M) (T := T_M) (N := 8) hx hb hq i_M hown hw (by omega) m13_98 rfl 0 (by decide) (hq _ fl_M_34) (fun _ h9 => h9) rfl d_M_read_17 ?_
      refine wz_if_le (tgt := 25) hx hb d_M_read_20 (by decide) (by omega) (by omega) (fun c20 => ?_) (fun c20 => ?_)
      · obtain ⟨uto, huto⟩ : ∃ u : Nat, to = (u : Int) := ⟨(to).toNat, by have := hRto.1; omega⟩
        have h16to : uto < 16 := by have := hRto.2; omega
        rw [huto] at hl
        refine lv_aload_n hx hb d_M_read_25 rfl (lv_at hl 0 rfl) ?_
        refine pw_get (ci := 6) (C := R_M) (T := T_M) (N := 8) hx hb hq i_M hown hw (by omega) m13_98 rfl 5 (by decide) (hq _ fl_M_125) (fun _ h9 => h9) rfl d_M_read_26 ?_
        have K49 : ∀  (ls : Array Slot), lv_has ls 7 [(0, .ref (ad (98))), (1, .int (iI ((uto : Int)))), (2, .int (iI ((fd : Int))))] → W p l e ({ frames := 5, cells := 0, slots := 0, locals := 127 } : Room) s m ([.ref (ad (98)), .int (iI (to))]).toArray below meth c H locs 0 0 Q (F0 m 49 ls []) := by
          intro ls hl
          refine lv_aload_n hx hb d_M_read_49 rfl (lv_at hl 0 rfl) ?_
          refine lv_iload_n hx hb d_M_read_50 rfl (lv_at hl 2 rfl) ?_
          refine pw_calli hw (va_runV (As := [.int (iI ((fd : Int)))]) (rest := []) ⟨hx, hb, hml, hown, hq⟩ (c_M_endOf l D ty ad M F13 H.size hM (0) (pS g) n tx _ m13_98 h102_at_13 htt hn hch (fd) (by omega)) (cwV 1 hq (gV ml_M_143 im_M_endOf se_M_endOf in_M m_M_endOf) rfl rfl rfl (by decide +kernel) ⟨Nat.le_of_ble_eq_true rfl, Nat.le_of_ble_eq_true rfl⟩) (pw_preV hw (by omega) m13_98 rfl) rfl rfl hl.1 rfl (lv_room (Nat.le_of_ble_eq_true rfl)) d_M_read_51 ⟨Nat.le_of_ble_eq_true rfl, Nat.le_of_ble_eq_true rfl⟩) (fun r51 F51 H locs q51 hw => ?_)
          obtain ⟨er51, eF51⟩ := q51
          rw [eF51] at hw
          clear eF51
          subst er51
          rw [← he1]
          refine lv_istore_n (lv' := [(3, .int (iI ((e1 : Int)))), (0, .ref (ad (98))), (1, .int (iI ((uto : Int)))), (2, .int (iI ((fd : Int))))]) hx hb d_M_read_54 rfl hl (by decide) rfl (fun ls hl => ?_)
          refine lv_iload_n hx hb d_M_read_55 rfl (lv_at hl 0 rfl) ?_
          refine lv_iload_n hx hb d_M_read_56 rfl (lv_at hl 3 rfl) ?_
          have K86 : ∀ (ov : Nat) (ls : Array Slot), ((ov = 1 ∧ fd < e1 ∧ e1 < n ∧ tx e1 = 47) ∨ (ov = 0 ∧ ¬ (fd < e1 ∧ e1 < n ∧ tx e1 = 47))) → lv_has ls 7 [(0, .ref (ad (98))), (1, .int (iI ((uto : Int)))), (2, .int (iI ((fd : Int)))), (3, .int (iI ((e1 : Int)))), (4, .int (iI ((ov : Int))))] → W p l e ({ frames := 5, cells := 0, slots := 0, locals := 127 } : Room) s m ([.ref (ad (98)), .int (iI (to))]).toArray below meth c H locs 0 0 Q (F0 m 86 ls []) := by
            intro ov ls hov hl
            refine lv_iload hx hb d_M_read_86 (lv_at hl 4 rfl) ?_
            have K104 : ∀ (la : Nat) (F104 : Nat → va_E) (H : Heap) (locs : List Loc) (ls : Array Slot), ((ov = 1 ∧ la = e2) ∨ (ov = 0 ∧ la = e1)) → (la ≤ n) → (∀ y, y ≠ 98 → F104 y = F y) → F104 (98) = .inr (6, [.int (iI (0)), .ref (ad (99)), .ref (ad (100)), .ref (ad (101)), .ref (ad (102)), .int (iI ((n : Int))), .int (iI (pS g)), .ref (ad (103))]) → Rn ty F104 (g) → Nm ty F104 (0) (zS g 0) → F104 (102) = .inl (ty 0, 1400, .inl (tt)) → F104 (103) = .inl (ty 0, 700, .inl (dd)) → pw D classes (tysL ty) ad M F104 (pA ad M s.heap.size) s H locs → lv_has ls 7 [(0, .ref (ad (98))), (1, .int (iI ((uto : Int)))), (2, .int (iI ((fd : Int)))), (3, .int (iI ((e1 : Int)))), (4, .int (iI ((ov : Int)))), (5, .int (iI ((la : Int))))] → W p l e ({ frames := 5, cells := 0, slots := 0, locals := 127 } : Room) s m ([.ref (ad (98)), .int (iI (to))]).toArray below meth c H locs 0 0 Q (F0 m 104 ls []) := by
              intro la F104 H locs ls hla hlan hfr hO hRn N0 h102 h103 hw hl
              refine lv_iload_n hx hb d_M_read_104 rfl (lv_at hl 3 rfl) ?_
              refine lv_iload_n hx hb d_M_read_105 rfl (lv_at hl 2 rfl) ?_
              have K139 : ∀  (F139 : Nat → va_E) (H : Heap) (locs : List Loc) (ls : Array Slot), (wt = (la : Int)) → (∀ y, y ≠ 98 → F139 y = F y) → F139 (98) = .inr (6, [.int (iI (0)), .ref (ad (99)), .ref (ad (100)), .ref (ad (101)), .ref (ad (102)), .int (iI ((n : Int))), .int (iI (pS g)), .ref (ad (103))]) → Rn ty F139 (g) → Nm ty F139 (0) (zS g 0) → F139 (102) = .inl (ty 0, 1400, .inl (tt)) → F139 (103) = .inl (ty 0, 700, .inl (dd)) → pw D classes (tysL ty) ad M F139 (pA ad M s.heap.size) s H locs → lv_has ls 7 [(0, .ref (ad (98))), (1, .int (iI ((uto : Int)))), (2, .int (iI ((fd : Int)))), (3, .int (iI ((e1 : Int)))), (4, .int (iI ((ov : Int)))), (5, .int (iI ((la : Int))))] → W p l e ({ frames := 5, cells := 0, slots := 0, locals := 127 } : Room) s m ([.ref (ad (98)), .int (iI (to))]).toArray below meth c H locs 0 0 Q (F0 m 139 ls []) := by
                intro F139 H locs ls hbad hfr hO hRn N0 h102 h103 hw hl
                refine wz_iconst (n := 0) hx hb d_M_read_139 ?_
                refine lv_istore (lv' := [(6, .int (iI (0))), (0, .ref (ad (98))), (1, .int (iI ((uto : Int)))), (2, .int (iI ((fd : Int)))), (3, .int (iI ((e1 : Int)))), (4, .int (iI ((ov : Int)))), (5, .int (iI ((la : Int))))]) hx hb d_M_read_140 hl (by decide) rfl (fun ls hl => ?_)
                refine lv_iload hx hb d_M_read_142 (lv_at hl 0 rfl) ?_
                refine wz_if_ne (tgt := 160) hx hb d_M_read_144 (by decide) (by omega) (by omega) (fun c144 => ?_) (fun c144 => ?_)
                · exact absurd c144 (by omega)
                · refine lv_aload_n hx hb d_M_read_147 rfl (lv_at hl 1 rfl) ?_
                  refine wz_iconst (n := 2) hx hb d_M_read_148 ?_
                  refine pw_put (ci := 6) (C := R_M) (T := T_M) (N := 8) (ty := .int) (fs' := [.int (iI (2)), .ref (ad (99)), .ref (ad (100)), .ref (ad (101)), .ref (ad (102)), .int (iI ((n : Int))), .int (iI (pS g)), .ref (ad (103))]) hx hb hq i_M ft_M ft_M_ok n_M hown hw (by omega) hO rfl 0 (by decide) (hq _ fl_M_34) (fun _ h9 => h9) rfl (by decide +kernel) rfl rfl (Nat.le_of_ble_eq_true rfl) rfl d_M_read_149 (fun F149 H locs eF149 hw => ?_)
                  have m149_98 : F149 (98) = .inr (6, [.int (iI (2)), .ref (ad (99)), .ref (ad (100)), .ref (ad (101)), .ref (ad (102)), .int (iI ((n : Int))), .int (iI (pS g)), .ref (ad (103))]) := by rw [eF149]; exact va_up_self ..
                  have hRn_at_149 : Rn ty F149 (g) := hRn.m3 (show F149 (99) = F139 (99) from by rw [eF149]; exact va_up_ne _ _ (by omega)) (show F149 (100) = F139 (100) from by rw [eF149]; exact va_up_ne _ _ (by omega)) (show F149 (101) = F139 (101) from by rw [eF149]; exact va_up_ne _ _ (by omega))
                  have N0_at_149 : Nm ty F149 (0) (zS g 0) := N0.m3 (show F149 (99) = F139 (99) from by rw [eF149]; exact va_up_ne _ _ (by omega)) (show F149 (100) = F139 (100) from by rw [eF149]; exact va_up_ne _ _ (by omega)) (show F149 (101) = F139 (101) from by rw [eF149]; exact va_up_ne _ _ (by omega))
                  have h102_at_149 : F149 (102) = .inl (ty 0, 1400, .inl (tt)) := (show F149 (102) = F139 (102) from by rw [eF149]; exact va_up_ne _ _ (by omega)).trans h102
                  have h103_at_149 : F149 (103) = .inl (ty 0, 700, .inl (dd)) := (show F149 (103) = F139 (103) from by rw [eF149]; exact va_up_ne _ _ (by omega)).trans h103
                  refine lv_aload_n hx hb d_M_read_152 rfl (lv_at hl 1 rfl) ?_
                  refine lv_iload hx hb d_M_read_153 (lv_at hl 6 rfl) ?_
                  refine pw_put (ci := 6) (C := R_M) (T := T_M) (N := 8) (ty := .int) (fs' := [.int (iI (2)), .ref (ad (99)), .ref (ad (100)), .ref (ad (101)), .ref (ad (102)), .int (iI ((n : Int))), .int (iI ((la : Int))), .ref (ad (103))]) hx hb hq i_M ft_M ft_M_ok n_M hown hw (by omega) m149_98 rfl 6 (by decide) (hq _ fl_M_23) (fun _ h9 => h9) rfl (by decide +kernel) rfl rfl (Nat.le_of_ble_eq_true rfl) rfl d_M_read_155 (fun F155 H locs eF155 hw => ?_)
                  have m155_98 : F155 (98) = .inr (6, [.int (iI (2)), .ref (ad (99)), .ref (ad (100)), .ref (ad (101)), .ref (ad (102)), .int (iI ((n : Int))), .int (iI ((la : Int))), .ref (ad (103))]) := by rw [eF155]; exact va_up_self ..
                  have hRn_at_155 : Rn ty F155 (g) := hRn_at_149.m3 (show F155 (99) = F149 (99) from by rw [eF155]; exact va_up_ne _ _ (by omega)) (show F155 (100) = F149 (100) from by rw [eF155]; exact va_up_ne _ _ (by omega)) (show F155 (101) = F149 (101) from by rw [eF155]; exact va_up_ne _ _ (by omega))
                  have N0_at_155 : Nm ty F155 (0) (zS g 0) := N0_at_149.m3 (show F155 (99) = F149 (99) from by rw [eF155]; exact va_up_ne _ _ (by omega)) (show F155 (100) = F149 (100) from by rw [eF155]; exact va_up_ne _ _ (by omega)) (show F155 (101) = F149 (101) from by rw [eF155]; exact va_up_ne _ _ (by omega))
                  have h102_at_155 : F155 (102) = .inl (ty 0, 1400, .inl (tt)) := (show F155 (102) = F149 (102) from by rw [eF155]; exact va_up_ne _ _ (by omega)).trans h102_at_149
                  have h103_at_155 : F155 (103) = .inl (ty 0, 700, .inl (dd)) := (show F155 (103) = F149 (103) from by rw [eF155]; exact va_up_ne _ _ (by omega)).trans h103_at_149
                  refine wz_iconst (n := 0) hx hb d_M_read_158 ?_
                  rw [← hQ]
                  exact pw_iret hx hb hr hlocks hw (by
                    have hne : ¬ wrongT tx n = -1 := by rw [← hwt, hbad]; omega
                    rw [o_read, cif_pos hRto, ← htx, ← hnS, cif_neg hne, ← hwt, hbad]
                    exact ⟨rfl, ⟨m155_98, hRn_at_155, _, _, h102_at_155, htt, h103_at_155⟩, fun y9 h1 => ((show F155 (y9) = F149 (y9) from by rw [eF155]; exact va_up_ne _ _ (by omega)).trans (show F149 (y9) = F139 (y9) from by rw [eF149]; exact va_up_ne _ _ (by omega))).trans (hfr y9 (by omega))⟩) d_M_read_159
              have K135 : ∀  (F135 : Nat → va_E) (H : Heap) (locs : List Loc) (ls : Array Slot), (wt = -1) → (fd < e1) → (la = n) → (∀ y, y ≠ 98 → F135 y = F y) → F135 (98) = .inr (6, [.int (iI (0)), .ref (ad (99)), .ref (ad (100)), .ref (ad (101)), .ref (ad (102)), .int (iI ((n : Int))), .int (iI (pS g)), .ref (ad (103))]) → Rn ty F135 (g) → Nm ty F135 (0) (zS g 0) → F135 (102) = .inl (ty 0, 1400, .inl (tt)) → F135 (103) = .inl (ty 0, 700, .inl (dd)) → pw D classes (tysL ty) ad M F135 (pA ad M s.heap.size) s H locs → lv_has ls 7 [(0, .ref (ad (98))), (1, .int (iI ((uto : Int)))), (2, .int (iI ((fd : Int)))), (3, .int (iI ((e1 : Int)))), (4, .int (iI ((ov : Int)))), (5, .int (iI ((la : Int))))] → W p l e ({ frames := 5, cells := 0, slots := 0, locals := 127 } : Room) s m ([.ref (ad (98)), .int (iI (to))]).toArray below meth c H locs 0 0 Q (F0 m 135 ls []) := by
                intro F135 H locs ls hgood hfe hlan9 hfr hO hRn N0 h102 h103 hw hl
                refine wz_iconst (n := 1) hx hb d_M_read_135 ?_
                refine lv_goto (tgt := 140) hx hb d_M_read_136 (by decide) ?_
                refine lv_istore (lv' := [(6, .int (iI (1))), (0, .ref (ad (98))), (1, .int (iI ((uto : Int)))), (2, .int (iI ((fd : Int)))), (3, .int (iI ((e1 : Int)))), (4, .int (iI ((ov : Int)))), (5, .int (iI ((la : Int))))]) hx hb d_M_read_140 hl (by decide) rfl (fun ls hl => ?_)
                refine lv_iload hx hb d_M_read_142 (lv_at hl 0 rfl) ?_
                refine wz_if_ne (tgt := 160) hx hb d_M_read_144 (by decide) (by omega) (by omega) (fun c144 => ?_) (fun c144 => ?_)
                · refine lv_aload_n hx hb d_M_read_160 rfl (lv_at hl 1 rfl) ?_
                  refine wz_bipush (n := 33) hx hb d_M_read_161 (by decide) ?_
                  refine lv_lconst (v := iL 1) hx hb d_M_read_163 (by decide) ?_
                  obtain ⟨_, _, _, hA164⟩ := (N0).ma
                  refine pw_callv hw (va_runV (As := [.int (iI (33)), .long (iL (1))]) (rest := []) ⟨hx, hb, hml, hown, hq⟩ (c_M_setLong l D ty ad M F135 H.size hM (0) ((n : Int)) (pS g) hO _ _ _ hA164 (33) (by omega) (1) (by omega)) (cwV 2 hq (gV ml_M_30 im_M_setLong se_M_setLong in_M m_M_setLong) rfl rfl rfl (by decide +kernel) ⟨Nat.le_of_ble_eq_true rfl, Nat.le_of_ble_eq_true rfl⟩) (pw_preV hw (by omega) hO rfl) rfl rfl hl.1 rfl (lv_room (Nat.le_of_ble_eq_true rfl)) d_M_read_164 ⟨Nat.le_of_ble_eq_true rfl, Nat.le_of_ble_eq_true rfl⟩) (fun F164 H locs q164 hw => ?_)
                  obtain ⟨N33, hk164, hf164⟩ := q164
                  have hO_at_164 : F164 (98) = .inr (6, [.int (iI (0)), .ref (ad (99)), .ref (ad (100)), .ref (ad (101)), .ref (ad (102)), .int (iI ((n : Int))), .int (iI (pS g)), .ref (ad (103))]) := (hf164 (98) (by omega) (by omega) (by omega)).trans hO
                  have hRn_at_164 : Rn ty F164 (g) := hRn.kq hk164 (fun c9 h8 h9 => by first | omega | (dsimp only at h9; omega))
                  have N0_at_164 : Nm ty F164 (0) (zS g 0) := hk164 _ _ (by omega) (by first | omega | (dsimp only; omega)) N0
                  have h102_at_164 : F164 (102) = .inl (ty 0, 1400, .inl (tt)) := (hf164 (102) (by omega) (by omega) (by omega)).trans h102
                  have h103_at_164 : F164 (103) = .inl (ty 0, 700, .inl (dd)) := (hf164 (103) (by omega) (by omega) (by omega)).trans h103
                  refine lv_aload_n hx hb d_M_read_167 rfl (lv_at hl 1 rfl) ?_
                  refine wz_bipush (n := 32) hx hb d_M_read_168 (by decide) ?_
                  refine lv_iload_n hx hb d_M_read_170 rfl (lv_at hl 3 rfl) ?_
                  refine lv_iload_n hx hb d_M_read_171 rfl (lv_at hl 4 rfl) ?_
                  refine pw_calli hw (va_runV (As := [.int (iI (32)), .int (iI ((fd : Int))), .int (iI ((e1 : Int)))]) (rest := []) ⟨hx, hb, hml, hown, hq⟩ (c_M_tell l D ty ad M F164 H.size hM (0) (pS g) n tx _ hO_at_164 h102_at_164 htt hn hch 32 (fd) (e1) (by omega) (by omega) (by omega) (fun j h1 h2 => dend_d tx (n - fd) fd j h1 (by omega)) (zS g 0) N0_at_164) (cwV 3 hq (gV ml_M_150 im_M_tell se_M_tell in_M m_M_tell) rfl rfl rfl (by decide +kernel) ⟨Nat.le_of_ble_eq_true rfl, Nat.le_of_ble_eq_true rfl⟩) (pw_preV hw (by omega) hO_at_164 rfl) rfl rfl hl.1 rfl (lv_room (Nat.le_of_ble_eq_true rfl)) d_M_read_172 ⟨Nat.le_of_ble_eq_true rfl, Nat.le_of_ble_eq_true rfl⟩) (fun r172 F172 H locs q172 hw => ?_)
                  obtain ⟨hc172, hk172, hf172⟩ := q172
                  have hO_at_172 : F172 (98) = .inr (6, [.int (iI (0)), .ref (ad (99)), .ref (ad (100)), .ref (ad (101)), .ref (ad (102)), .int (iI ((n : Int))), .int (iI (pS g)), .ref (ad (103))]) := (hf172 (98) (by omega) (by omega) (by omega)).trans hO_at_164
                  have hRn_at_172 : Rn ty F172 (g) := hRn_at_164.kq hk172 (fun c9 h8 h9 => by first | omega | (dsimp only at h9; omega))
                  have N0_at_172 : Nm ty F172 (0) (zS g 0) := hk172 _ _ (by omega) (by first | omega | (dsimp only; omega)) N0_at_164
                  have h102_at_172 : F172 (102) = .inl (ty 0, 1400, .inl (tt)) := (hf172 (102) (by omega) (by omega) (by omega)).trans h102_at_164
                  have h103_at_172 : F172 (103) = .inl (ty 0, 700, .inl (dd)) := (hf172 (103) (by omega) (by omega) (by omega)).trans h103_at_164
                  have N33_at_172 : Nm ty F172 (33) (1) := hk172 _ _ (by omega) (by first | omega | (dsimp only; omega)) N33
                  refine lv_if_eq (tgt := 197) hx hb d_M_read_175 (by decide) (fun c175 => ?_) (fun c175 => ?_)
                  · have hbg := raise_n hc172 c175
                    have hbig : ¬ (sm (numT tx n) ∧ sm (denT tx n)) := fun h9 => hbg (by have := h9.1; unfold numT at this; rw [← hfd, ← he1] at this; exact this)
                    refine wz_iconst (n := -1) hx hb d_M_read_197 ?_
                    rw [← hQ]
                    exact pw_iret hx hb hr hlocks hw (by
                      rw [o_read, cif_pos hRto, ← htx, ← hnS, cif_pos (hwt ▸ hgood), cif_neg hbig]
                      exact ⟨rfl, ⟨by rw [← hnS]; exact hO_at_172, hRn_at_172, _, _, h102_at_172, by rw [← hnS, ← htx]; exact htt, h103_at_172⟩, fun y9 h1 => ((hf172 (y9) (by omega) (by omega) (by omega)).trans (hf164 (y9) (by omega) (by omega) (by omega))).trans (hfr y9 (by omega))⟩) d_M_read_198
                  · obtain ⟨hsn9, N32⟩ := raise_y hc172 c175
                    have hnum : dval tx fd (e1 - fd) = numT tx n := by unfold numT; rw [← hfd, ← he1]
                    rw [hnum] at hsn9 N32
                    refine lv_iload hx hb d_M_read_178 (lv_at hl 5 rfl) ?_
                    have K199 : ∀  (F199 : Nat → va_E) (H : Heap) (locs : List Loc) (ls : Array Slot), (sm (numT tx n)) → (sm (denT tx n)) → (0 < denT tx n) → (frP F F199) → F199 (98) = .inr (6, [.int (iI (0)), .ref (ad (99)), .ref (ad (100)), .ref (ad (101)), .ref (ad (102)), .int (iI ((n : Int))), .int (iI (pS g)), .ref (ad (103))]) → Rn ty F199 (g) → Nm ty F199 (32) (((numT tx n : Nat) : Int)) → Nm ty F199 (33) (((denT tx n : Nat) : Int)) → F199 (102) = .inl (ty 0, 1400, .inl (tt)) → F199 (103) = .inl (ty 0, 700, .inl (dd)) → pw D classes (tysL ty) ad M F199 (pA ad M s.heap.size) s H locs → lv_has ls 7 [(0, .ref (ad (98))), (1, .int (iI ((uto : Int)))), (2, .int (iI ((fd : Int))))] → W p l e ({ frames := 5, cells := 0, slots := 0, locals := 127 } : Room) s m ([.ref (ad (98)), .int (iI (to))]).toArray below meth c H locs 0 0 Q (F0 m 199 ls []) := by
                      intro F199 H locs ls hsn hsd hd0 hfr hO hRn N32 N33 h102 h103 hw hl
                      refine lv_aload_n hx hb d_M_read_199 rfl (lv_at hl 0 rfl) ?_
                      refine pw_get (ci := 6) (C := R_M) (T := T_M) (N := 8) hx hb hq i_M hown hw (by omega) hO rfl 3 (by decide) (hq _ fl_M_16) (fun _ h9 => h9) rfl d_M_read_200 ?_
                      refine wz_bipush (n := 32) hx hb d_M_read_203 (by decide) ?_
                      obtain ⟨P2, S2, G2, ⟨b_99, b_100, b_101⟩, ⟨n2, hS2, h32, hD2, ht2, hv2⟩, hG2⟩ := id N32
                      have hz2 := bvP_z ht2
                      rw [hv2, Int.natAbs_natCast] at hz2
                      refine lv_iload_n hx hb d_M_read_205 rfl (lv_at hl 2 rfl) ?_
                      refine wz_iconst (n := 1) hx hb d_M_read_206 ?_
                      refine wz_icmp_ne (tgt := 224) hx hb d_M_read_207 (by decide) (by omega) (by omega) (by omega) (by omega) (fun c207 => ?_) (fun c207 => ?_)
                      · refine wz_iconst (n := 0) hx hb d_M_read_224 ?_
                        refine pw_zast (k := 32) hx hb hw 4 (by omega) b_101 rfl (iI_in (by omega) (by omega) (by omega)) ((iI_cl (by omega) (by omega)).trans (by omega)) (y := iI (0)) (by decide) d_M_read_225 (fun F225 H locs eF225 hw => ?_)
                        have m225_101 : F225 (101) = .inl (ty 4, 43, .inl (upd G2 (32) (iI (0)))) := by rw [eF225]; exact va_up_self ..
                        obtain ⟨N32, hk225⟩ := Nm_sign (t := 32) (z' := sg fd (numT tx n)) ⟨b_99, b_100, b_101⟩ ⟨(show F225 (99) = F199 (99) from by rw [eF225]; exact va_up_ne _ _ (by omega)).trans b_99, (show F225 (100) = F199 (100) from by rw [eF225]; exact va_up_ne _ _ (by omega)).trans b_100, m225_101⟩ N32 (by rw [sg_abs]; rfl) (by rw [zB_0 (sg_nn (by omega))]; rfl)
                        have hO_at_225 : F225 (98) = .inr (6, [.int (iI (0)), .ref (ad (99)), .ref (ad (100)), .ref (ad (101)), .ref (ad (102)), .int (iI ((n : Int))), .int (iI (pS g)), .ref (ad (103))]) := (show F225 (98) = F199 (98) from by rw [eF225]; exact va_up_ne _ _ (by omega)).trans hO
                        have hRn_at_225 : Rn ty F225 (g) := hRn.kq hk225 (fun c9 h8 h9 => by first | omega | (dsimp only at h9; omega))
                        have N33_at_225 : Nm ty F225 (33) (((denT tx n : Nat) : Int)) := hk225 _ _ (by omega) (by first | omega | (dsimp only; omega)) N33
                        have h102_at_225 : F225 (102) = .inl (ty 0, 1400, .inl (tt)) := (show F225 (102) = F199 (102) from by rw [eF225]; exact va_up_ne _ _ (by omega)).trans h102
                        have h103_at_225 : F225 (103) = .inl (ty 0, 700, .inl (dd)) := (show F225 (103) = F199 (103) from by rw [eF225]; exact va_up_ne _ _ (by omega)).trans h103
                        have b_99_at_225 : F225 (99) = .inl (ty 0, 12900, .inl (P2)) := (show F225 (99) = F199 (99) from by rw [eF225]; exact va_up_ne _ _ (by omega)).trans b_99
                        have b_100_at_225 : F225 (100) = .inl (ty 0, 43, .inl (S2)) := (show F225 (100) = F199 (100) from by rw [eF225]; exact va_up_ne _ _ (by omega)).trans b_100
                        refine lv_aload_n hx hb d_M_read_226 rfl (lv_at hl 0 rfl) ?_
                        refine lv_iload_n hx hb d_M_read_227 rfl (lv_at hl 1 rfl) ?_
                        refine pw_calli hw (va_runV (As := [.int (iI ((uto : Int)))]) (rest := []) ⟨hx, hb, hml, hown, hq⟩ (c_M_lay l D ty ad M F225 H.size hM (0) ((n : Int)) (pS g) hO_at_225 uto (sg fd (numT tx n)) (((denT tx n : Nat) : Int)) (zS g, bS g, 0, tx, pS g) (by omega) (by omega) N32 N33_at_225 (show Rn ty F225 (zS g, bS g, 0, tx, pS g) from hRn_at_225) (by rw [sg_abs]; exact hsn.toMd) (by rw [Int.natAbs_natCast]; exact hsd.toMd)) (cwV 1 hq (gV ml_M_89 im_M_lay se_M_lay in_M m_M_lay) rfl rfl rfl (by decide +kernel) ⟨Nat.le_of_ble_eq_true rfl, Nat.le_of_ble_eq_true rfl⟩) (pw_preV hw (by omega) hO_at_225 rfl) rfl rfl hl.1 rfl (lv_room (Nat.le_of_ble_eq_true rfl)) d_M_read_228 ⟨Nat.le_of_ble_eq_true rfl, Nat.le_of_ble_eq_true rfl⟩) (fun r228 F228 H locs q228 hw => ?_)
                        obtain ⟨er228, hRn, hf228⟩ := q228
                        rw [flz_n (Int.natCast_nonneg _), Int.natAbs_natCast] at hRn
                        have hO_at_228 : F228 (98) = .inr (6, [.int (iI (0)), .ref (ad (99)), .ref (ad (100)), .ref (ad (101)), .ref (ad (102)), .int (iI ((n : Int))), .int (iI (pS g)), .ref (ad (103))]) := (hf228 (98) (by omega) (by omega) (by omega)).trans hO_at_225
                        have h102_at_228 : F228 (102) = .inl (ty 0, 1400, .inl (tt)) := (hf228 (102) (by omega) (by omega) (by omega)).trans h102_at_225
                        have h103_at_228 : F228 (103) = .inl (ty 0, 700, .inl (dd)) := (hf228 (103) (by omega) (by omega) (by omega)).trans h103_at_225
                        refine lv_pop hx hb d_M_read_231 rfl ?_
                        refine lv_aload_n hx hb d_M_read_232 rfl (lv_at hl 0 rfl) ?_
                        refine wz_iconst (n := 0) hx hb d_M_read_233 ?_
                        refine pw_put (ci := 6) (C := R_M) (T := T_M) (N := 8) (ty := .int) (fs' := [.int (iI (0)), .ref (ad (99)), .ref (ad (100)), .ref (ad (101)), .ref (ad (102)), .int (iI (0)), .int (iI (pS g)), .ref (ad (103))]) hx hb hq i_M ft_M ft_M_ok n_M hown hw (by omega) hO_at_228 rfl 5 (by decide) (hq _ fl_M_125) (fun _ h9 => h9) rfl (by decide +kernel) rfl rfl (Nat.le_of_ble_eq_true rfl) rfl d_M_read_234 (fun F234 H locs eF234 hw => ?_)
                        have m234_98 : F234 (98) = .inr (6, [.int (iI (0)), .ref (ad (99)), .ref (ad (100)), .ref (ad (101)), .ref (ad (102)), .int (iI (0)), .int (iI (pS g)), .ref (ad (103))]) := by rw [eF234]; exact va_up_self ..
                        have h102_at_234 : F234 (102) = .inl (ty 0, 1400, .inl (tt)) := (show F234 (102) = F228 (102) from by rw [eF234]; exact va_up_ne _ _ (by omega)).trans h102_at_228
                        have h103_at_234 : F234 (103) = .inl (ty 0, 700, .inl (dd)) := (show F234 (103) = F228 (103) from by rw [eF234]; exact va_up_ne _ _ (by omega)).trans h103_at_228
                        have hRn_at_234 : Rn ty F234 ((s_lay (zS g, bS g, 0, tx, pS g) uto (sg fd (numT tx n)) (denT tx n)).2) := hRn.m3 (show F234 (99) = F228 (99) from by rw [eF234]; exact va_up_ne _ _ (by omega)) (show F234 (100) = F228 (100) from by rw [eF234]; exact va_up_ne _ _ (by omega)) (show F234 (101) = F228 (101) from by rw [eF234]; exact va_up_ne _ _ (by omega))
                        refine wz_iconst (n := 0) hx hb d_M_read_237 ?_
                        rw [← hQ]
                        exact pw_iret hx hb hr hlocks hw (by
                          rw [o_read, cif_pos hRto, ← htx, ← hnS, cif_pos (hwt ▸ hgood), cif_pos ⟨hsn, hsd⟩, show to.toNat = uto by omega, ← hfd]
                          have ht9 := s_lay_t (zS g, bS g, 0, tx, pS g) uto (sg fd (numT tx n)) (denT tx n)
                          refine ⟨rfl, ⟨?_, hRn_at_234, _, _, h102_at_234, ?_, h103_at_234⟩, fun y9 h1 => ((show F234 (y9) = F228 (y9) from by rw [eF234]; exact va_up_ne _ _ (by omega)).trans ((hf228 (y9) (by omega) (by omega) (by omega)).trans (show F225 (y9) = F199 (y9) from by rw [eF225]; exact va_up_ne _ _ (by omega)))).trans (hfr y9 (by omega))⟩
                          · rw [ht9.1, ht9.2.2]; exact m234_98
                          · rw [ht9.1]; exact fun i hi => absurd hi (Nat.not_lt_zero _)) d_M_read_238
                      · refine lv_aload_n hx hb d_M_read_210 rfl (lv_at hl 0 rfl) ?_
                        refine pw_get (ci := 6) (C := R_M) (T := T_M) (N := 8) hx hb hq i_M hown hw (by omega) hO rfl 2 (by decide) (hq _ fl_M_13) (fun _ h9 => h9) rfl d_M_read_211 ?_
                        refine wz_bipush (n := 32) hx hb d_M_read_214 (by decide) ?_
                        refine pw_iald (k := 32) hx hb hw 0 (by omega) b_100 rfl (iI_in (by omega) (by omega) (by omega)) ((iI_cl (by omega) (by omega)).trans (by omega)) d_M_read_216 ?_
                        refine lv_topi (fun x216 ex216 => ?_)
                        obtain rfl : x216 = iI ((n2 : Int)) := ex216.trans (hS2)
                        refine wz_if_le (tgt := 224) hx hb d_M_read_217 (by decide) (by omega) (by omega) (fun c217 => ?_) (fun c217 => ?_)
                        · refine wz_iconst (n := 0) hx hb d_M_read_224 ?_
                          refine pw_zast (k := 32) hx hb hw 4 (by omega) b_101 rfl (iI_in (by omega) (by omega) (by omega)) ((iI_cl (by omega) (by omega)).trans (by omega)) (y := iI (0)) (by decide) d_M_read_225 (fun F225 H locs eF225 hw => ?_)
                          have m225_101 : F225 (101) = .inl (ty 4, 43, .inl (upd G2 (32) (iI (0)))) := by rw [eF225]; exact va_up_self ..
                          obtain ⟨N32, hk225⟩ := Nm_sign (t := 32) (z' := sg fd (numT tx n)) ⟨b_99, b_100, b_101⟩ ⟨(show F225 (99) = F199 (99) from by rw [eF225]; exact va_up_ne _ _ (by omega)).trans b_99, (show F225 (100) = F199 (100) from by rw [eF225]; exact va_up_ne _ _ (by omega)).trans b_100, m225_101⟩ N32 (by rw [sg_abs]; rfl) (by rw [zB_0 (sg_nn (by omega))]; rfl)
                          have hO_at_225 : F225 (98) = .inr (6, [.int (iI (0)), .ref (ad (99)), .ref (ad (100)), .ref (ad (101)), .ref (ad (102)), .int (iI ((n : Int))), .int (iI (pS g)), .ref (ad (103))]) := (show F225 (98) = F199 (98) from by rw [eF225]; exact va_up_ne _ _ (by omega)).trans hO
                          have hRn_at_225 : Rn ty F225 (g) := hRn.kq hk225 (fun c9 h8 h9 => by first | omega | (dsimp only at h9; omega))
                          have N33_at_225 : Nm ty F225 (33) (((denT tx n : Nat) : Int)) := hk225 _ _ (by omega) (by first | omega | (dsimp only; omega)) N33
                          have h102_at_225 : F225 (102) = .inl (ty 0, 1400, .inl (tt)) := (show F225 (102) = F199 (102) from by rw [eF225]; exact va_up_ne _ _ (by omega)).trans h102
                          have h103_at_225 : F225 (103) = .inl (ty 0, 700, .inl (dd)) := (show F225 (103) = F199 (103) from by rw [eF225]; exact va_up_ne _ _ (by omega)).trans h103
                          have b_99_at_225 : F225 (99) = .inl (ty 0, 12900, .inl (P2)) := (show F225 (99) = F199 (99) from by rw [eF225]; exact va_up_ne _ _ (by omega)).trans b_99
                          have b_100_at_225 : F225 (100) = .inl (ty 0, 43, .inl (S2)) := (show F225 (100) = F199 (100) from by rw [eF225]; exact va_up_ne _ _ (by omega)).trans b_100
                          refine lv_aload_n hx hb d_M_read_226 rfl (lv_at hl 0 rfl) ?_
                          refine lv_iload_n hx hb d_M_read_227 rfl (lv_at hl 1 rfl) ?_
                          refine pw_calli hw (va_runV (As := [.int (iI ((uto : Int)))]) (rest := []) ⟨hx, hb, hml, hown, hq⟩ (c_M_lay l D ty ad M F225 H.size hM (0) ((n : Int)) (pS g) hO_at_225 uto (sg fd (numT tx n)) (((denT tx n : Nat) : Int)) (zS g, bS g, 0, tx, pS g) (by omega) (by omega) N32 N33_at_225 (show Rn ty F225 (zS g, bS g, 0, tx, pS g) from hRn_at_225) (by rw [sg_abs]; exact hsn.toMd) (by rw [Int.natAbs_natCast]; exact hsd.toMd)) (cwV 1 hq (gV ml_M_89 im_M_lay se_M_lay in_M m_M_lay) rfl rfl rfl (by decide +kernel) ⟨Nat.le_of_ble_eq_true rfl, Nat.le_of_ble_eq_true rfl⟩) (pw_preV hw (by omega) hO_at_225 rfl) rfl rfl hl.1 rfl (lv_room (Nat.le_of_ble_eq_true rfl)) d_M_read_228 ⟨Nat.le_of_ble_eq_true rfl, Nat.le_of_ble_eq_true rfl⟩) (fun r228 F228 H locs q228 hw => ?_)
                          obtain ⟨er228, hRn, hf228⟩ := q228
                          rw [flz_n (Int.natCast_nonneg _), Int.natAbs_natCast] at hRn
                          have hO_at_228 : F228 (98) = .inr (6, [.int (iI (0)), .ref (ad (99)), .ref (ad (100)), .ref (ad (101)), .ref (ad (102)), .int (iI ((n : Int))), .int (iI (pS g)), .ref (ad (103))]) := (hf228 (98) (by omega) (by omega) (by omega)).trans hO_at_225
                          have h102_at_228 : F228 (102) = .inl (ty 0, 1400, .inl (tt)) := (hf228 (102) (by omega) (by omega) (by omega)).trans h102_at_225
                          have h103_at_228 : F228 (103) = .inl (ty 0, 700, .inl (dd)) := (hf228 (103) (by omega) (by omega) (by omega)).trans h103_at_225
                          refine lv_pop hx hb d_M_read_231 rfl ?_
                          refine lv_aload_n hx hb d_M_read_232 rfl (lv_at hl 0 rfl) ?_
                          refine wz_iconst (n := 0) hx hb d_M_read_233 ?_
                          refine pw_put (ci := 6) (C := R_M) (T := T_M) (N := 8) (ty := .int) (fs' := [.int (iI (0)), .ref (ad (99)), .ref (ad (100)), .ref (ad (101)), .ref (ad (102)), .int (iI (0)), .int (iI (pS g)), .ref (ad (103))]) hx hb hq i_M ft_M ft_M_ok n_M hown hw (by omega) hO_at_228 rfl 5 (by decide) (hq _ fl_M_125) (fun _ h9 => h9) rfl (by decide +kernel) rfl rfl (Nat.le_of_ble_eq_true rfl) rfl d_M_read_234 (fun F234 H locs eF234 hw => ?_)
                          have m234_98 : F234 (98) = .inr (6, [.int (iI (0)), .ref (ad (99)), .ref (ad (100)), .ref (ad (101)), .ref (ad (102)), .int (iI (0)), .int (iI (pS g)), .ref (ad (103))]) := by rw [eF234]; exact va_up_self ..
                          have h102_at_234 : F234 (102) = .inl (ty 0, 1400, .inl (tt)) := (show F234 (102) = F228 (102) from by rw [eF234]; exact va_up_ne _ _ (by omega)).trans h102_at_228
                          have h103_at_234 : F234 (103) = .inl (ty 0, 700, .inl (dd)) := (show F234 (103) = F228 (103) from by rw [eF234]; exact va_up_ne _ _ (by omega)).trans h103_at_228
                          have hRn_at_234 : Rn ty F234 ((s_lay (zS g, bS g, 0, tx, pS g) uto (sg fd (numT tx n)) (denT tx n)).2) := hRn.m3 (show F234 (99) = F228 (99) from by rw [eF234]; exact va_up_ne _ _ (by omega)) (show F234 (100) = F228 (100) from by rw [eF234]; exact va_up_ne _ _ (by omega)) (show F234 (101) = F228 (101) from by rw [eF234]; exact va_up_ne _ _ (by omega))
                          refine wz_iconst (n := 0) hx hb d_M_read_237 ?_
                          rw [← hQ]
                          exact pw_iret hx hb hr hlocks hw (by
                            rw [o_read, cif_pos hRto, ← htx, ← hnS, cif_pos (hwt ▸ hgood), cif_pos ⟨hsn, hsd⟩, show to.toNat = uto by omega, ← hfd]
                            have ht9 := s_lay_t (zS g, bS g, 0, tx, pS g) uto (sg fd (numT tx n)) (denT tx n)
                            refine ⟨rfl, ⟨?_, hRn_at_234, _, _, h102_at_234, ?_, h103_at_234⟩, fun y9 h1 => ((show F234 (y9) = F228 (y9) from by rw [eF234]; exact va_up_ne _ _ (by omega)).trans ((hf228 (y9) (by omega) (by omega) (by omega)).trans (show F225 (y9) = F199 (y9) from by rw [eF225]; exact va_up_ne _ _ (by omega)))).trans (hfr y9 (by omega))⟩
                            · rw [ht9.1, ht9.2.2]; exact m234_98
                            · rw [ht9.1]; exact fun i hi => absurd hi (Nat.not_lt_zero _)) d_M_read_238
                        · refine wz_iconst (n := 1) hx hb d_M_read_220 ?_
                          refine lv_goto (tgt := 225) hx hb d_M_read_221 (by decide) ?_
                          refine pw_zast (k := 32) hx hb hw 4 (by omega) b_101 rfl (iI_in (by omega) (by omega) (by omega)) ((iI_cl (by omega) (by omega)).trans (by omega)) (y := iI (1)) (by decide) d_M_read_225 (fun F225 H locs eF225 hw => ?_)
                          have m225_101 : F225 (101) = .inl (ty 4, 43, .inl (upd G2 (32) (iI (1)))) := by rw [eF225]; exact va_up_self ..
                          obtain ⟨N32, hk225⟩ := Nm_sign (t := 32) (z' := sg fd (numT tx n)) ⟨b_99, b_100, b_101⟩ ⟨(show F225 (99) = F199 (99) from by rw [eF225]; exact va_up_ne _ _ (by omega)).trans b_99, (show F225 (100) = F199 (100) from by rw [eF225]; exact va_up_ne _ _ (by omega)).trans b_100, m225_101⟩ N32 (by rw [sg_abs]; rfl) (by rw [zB_1 (sg_ng (by omega) (by omega))]; rfl)
                          have hO_at_225 : F225 (98) = .inr (6, [.int (iI (0)), .ref (ad (99)), .ref (ad (100)), .ref (ad (101)), .ref (ad (102)), .int (iI ((n : Int))), .int (iI (pS g)), .ref (ad (103))]) := (show F225 (98) = F199 (98) from by rw [eF225]; exact va_up_ne _ _ (by omega)).trans hO
                          have hRn_at_225 : Rn ty F225 (g) := hRn.kq hk225 (fun c9 h8 h9 => by first | omega | (dsimp only at h9; omega))
                          have N33_at_225 : Nm ty F225 (33) (((denT tx n : Nat) : Int)) := hk225 _ _ (by omega) (by first | omega | (dsimp only; omega)) N33
                          have h102_at_225 : F225 (102) = .inl (ty 0, 1400, .inl (tt)) := (show F225 (102) = F199 (102) from by rw [eF225]; exact va_up_ne _ _ (by omega)).trans h102
                          have h103_at_225 : F225 (103) = .inl (ty 0, 700, .inl (dd)) := (show F225 (103) = F199 (103) from by rw [eF225]; exact va_up_ne _ _ (by omega)).trans h103
                          have b_99_at_225 : F225 (99) = .inl (ty 0, 12900, .inl (P2)) := (show F225 (99) = F199 (99) from by rw [eF225]; exact va_up_ne _ _ (by omega)).trans b_99
                          have b_100_at_225 : F225 (100) = .inl (ty 0, 43, .inl (S2)) := (show F225 (100) = F199 (100) from by rw [eF225]; exact va_up_ne _ _ (by omega)).trans b_100
                          refine lv_aload_n hx hb d_M_read_226 rfl (lv_at hl 0 rfl) ?_
                          refine lv_iload_n hx hb d_M_read_227 rfl (lv_at hl 1 rfl) ?_
                          refine pw_calli hw (va_runV (As := [.int (iI ((uto : Int)))]) (rest := []) ⟨hx, hb, hml, hown, hq⟩ (c_M_lay l D ty ad M F225 H.size hM (0) ((n : Int)) (pS g) hO_at_225 uto (sg fd (numT tx n)) (((denT tx n : Nat) : Int)) (zS g, bS g, 0, tx, pS g) (by omega) (by omega) N32 N33_at_225 (show Rn ty F225 (zS g, bS g, 0, tx, pS g) from hRn_at_225) (by rw [sg_abs]; exact hsn.toMd) (by rw [Int.natAbs_natCast]; exact hsd.toMd)) (cwV 1 hq (gV ml_M_89 im_M_lay se_M_lay in_M m_M_lay) rfl rfl rfl (by decide +kernel) ⟨Nat.le_of_ble_eq_true rfl, Nat.le_of_ble_eq_true rfl⟩) (pw_preV hw (by omega) hO_at_225 rfl) rfl rfl hl.1 rfl (lv_room (Nat.le_of_ble_eq_true rfl)) d_M_read_228 ⟨Nat.le_of_ble_eq_true rfl, Nat.le_of_ble_eq_true rfl⟩) (fun r228 F228 H locs q228 hw => ?_)
                          obtain ⟨er228, hRn, hf228⟩ := q228
                          rw [flz_n (Int.natCast_nonneg _), Int.natAbs_natCast] at hRn
                          have hO_at_228 : F228 (98) = .inr (6, [.int (iI (0)), .ref (ad (99)), .ref (ad (100)), .ref (ad (101)), .ref (ad (102)), .int (iI ((n : Int))), .int (iI (pS g)), .ref (ad (103))]) := (hf228 (98) (by omega) (by omega) (by omega)).trans hO_at_225
                          have h102_at_228 : F228 (102) = .inl (ty 0, 1400, .inl (tt)) := (hf228 (102) (by omega) (by omega) (by omega)).trans h102_at_225
                          have h103_at_228 : F228 (103) = .inl (ty 0, 700, .inl (dd)) := (hf228 (103) (by omega) (by omega) (by omega)).trans h103_at_225
                          refine lv_pop hx hb d_M_read_231 rfl ?_
                          refine lv_aload_n hx hb d_M_read_232 rfl (lv_at hl 0 rfl) ?_
                          refine wz_iconst (n := 0) hx hb d_M_read_233 ?_
                          refine pw_put (ci := 6) (C := R_M) (T := T_M) (N := 8) (ty := .int) (fs' := [.int (iI (0)), .ref (ad (99)), .ref (ad (100)), .ref (ad (101)), .ref (ad (102)), .int (iI (0)), .int (iI (pS g)), .ref (ad (103))]) hx hb hq i_M ft_M ft_M_ok n_M hown hw (by omega) hO_at_228 rfl 5 (by decide) (hq _ fl_M_125) (fun _ h9 => h9) rfl (by decide +kernel) rfl rfl (Nat.le_of_ble_eq_true rfl) rfl d_M_read_234 (fun F234 H locs eF234 hw => ?_)
                          have m234_98 : F234 (98) = .inr (6, [.int (iI (0)), .ref (ad (99)), .ref (ad (100)), .ref (ad (101)), .ref (ad (102)), .int (iI (0)), .int (iI (pS g)), .ref (ad (103))]) := by rw [eF234]; exact va_up_self ..
                          have h102_at_234 : F234 (102) = .inl (ty 0, 1400, .inl (tt)) := (show F234 (102) = F228 (102) from by rw [eF234]; exact va_up_ne _ _ (by omega)).trans h102_at_228
                          have h103_at_234 : F234 (103) = .inl (ty 0, 700, .inl (dd)) := (show F234 (103) = F228 (103) from by rw [eF234]; exact va_up_ne _ _ (by omega)).trans h103_at_228
                          have hRn_at_234 : Rn ty F234 ((s_lay (zS g, bS g, 0, tx, pS g) uto (sg fd (numT tx n)) (denT tx n)).2) := hRn.m3 (show F234 (99) = F228 (99) from by rw [eF234]; exact va_up_ne _ _ (by omega)) (show F234 (100) = F228 (100) from by rw [eF234]; exact va_up_ne _ _ (by omega)) (show F234 (101) = F228 (101) from by rw [eF234]; exact va_up_ne _ _ (by omega))
                          refine wz_iconst (n := 0) hx hb d_M_read_237 ?_
                          rw [← hQ]
                          exact pw_iret hx hb hr hlocks hw (by
                            rw [o_read, cif_pos hRto, ← htx, ← hnS, cif_pos (hwt ▸ hgood), cif_pos ⟨hsn, hsd⟩, show to.toNat = uto by omega, ← hfd]
                            have ht9 := s_lay_t (zS g, bS g, 0, tx, pS g) uto (sg fd (numT tx n)) (denT tx n)
                            refine ⟨rfl, ⟨?_, hRn_at_234, _, _, h102_at_234, ?_, h103_at_234⟩, fun y9 h1 => ((show F234 (y9) = F228 (y9) from by rw [eF234]; exact va_up_ne _ _ (by omega)).trans ((hf228 (y9) (by omega) (by omega) (by omega)).trans (show F225 (y9) = F199 (y9) from by rw [eF225]; exact va_up_ne _ _ (by omega)))).trans (hfr y9 (by omega))⟩
                            · rw [ht9.1, ht9.2.2]; exact m234_98
                            · rw [ht9.1]; exact fun i hi => absurd hi (Nat.not_lt_zero _)) d_M_read_238
                    refine wz_if_eq (tgt := 199) hx hb d_M_read_180 (by decide) (by omega) (by omega) (fun c180 => ?_) (fun c180 => ?_)
                    · have hden : denT tx n = 1 := by unfold denT; rw [← hfd, ← he1, if_neg (by omega)]
                      exact K199  _ _ _ ls (hsn9) (by rw [hden]; exact sm_1) (by omega) (fun y9 h1 => ((hf172 (y9) (by omega) (by omega) (by omega)).trans (hf164 (y9) (by omega) (by omega) (by omega))).trans (hfr y9 (by omega))) (hO_at_172) (hRn_at_172) (N32) (by rw [hden]; exact N33_at_172) (h102_at_172) (h103_at_172) hw (lv_sub hl [1, 2, 3] rfl)
                    · refine lv_aload_n hx hb d_M_read_183 rfl (lv_at hl 1 rfl) ?_
                      refine wz_bipush (n := 33) hx hb d_M_read_184 (by decide) ?_
                      refine lv_iload_n hx hb d_M_read_186 rfl (lv_at hl 4 rfl) ?_
                      refine wz_iconst (n := 1) hx hb d_M_read_187 ?_
                      refine wz_iadd (z := ((e1 + 1 : Nat) : Int)) hx hb d_M_read_188 (by omega) ?_
                      refine lv_iload hx hb d_M_read_189 (lv_at hl 6 rfl) ?_
                      refine pw_calli hw (va_runV (As := [.int (iI (33)), .int (iI (((e1 + 1 : Nat) : Int))), .int (iI ((la : Int)))]) (rest := []) ⟨hx, hb, hml, hown, hq⟩ (c_M_tell l D ty ad M F172 H.size hM (0) (pS g) n tx _ hO_at_172 h102_at_172 htt hn hch 33 (e1 + 1) (la) (by omega) (by omega) (by omega) (fun j h1 h2 => dend_d tx (n - (e1 + 1)) (e1 + 1) j h1 (by omega)) (zS g 0) N0_at_172) (cwV 3 hq (gV ml_M_150 im_M_tell se_M_tell in_M m_M_tell) rfl rfl rfl (by decide +kernel) ⟨Nat.le_of_ble_eq_true rfl, Nat.le_of_ble_eq_true rfl⟩) (pw_preV hw (by omega) hO_at_172 rfl) rfl rfl hl.1 rfl (lv_room (Nat.le_of_ble_eq_true rfl)) d_M_read_191 ⟨Nat.le_of_ble_eq_true rfl, Nat.le_of_ble_eq_true rfl⟩) (fun r191 F191 H locs q191 hw => ?_)
                      obtain ⟨hc191, hk191, hf191⟩ := q191
                      have hO_at_191 : F191 (98) = .inr (6, [.int (iI (0)), .ref (ad (99)), .ref (ad (100)), .ref (ad (101)), .ref (ad (102)), .int (iI ((n : Int))), .int (iI (pS g)), .ref (ad (103))]) := (hf191 (98) (by omega) (by omega) (by omega)).trans hO_at_172
                      have hRn_at_191 : Rn ty F191 (g) := hRn_at_172.kq hk191 (fun c9 h8 h9 => by first | omega | (dsimp only at h9; omega))
                      have N0_at_191 : Nm ty F191 (0) (zS g 0) := hk191 _ _ (by omega) (by first | omega | (dsimp only; omega)) N0_at_172
                      have h102_at_191 : F191 (102) = .inl (ty 0, 1400, .inl (tt)) := (hf191 (102) (by omega) (by omega) (by omega)).trans h102_at_172
                      have h103_at_191 : F191 (103) = .inl (ty 0, 700, .inl (dd)) := (hf191 (103) (by omega) (by omega) (by omega)).trans h103_at_172
                      have N32_at_191 : Nm ty F191 (32) (((numT tx n : Nat) : Int)) := hk191 _ _ (by omega) (by first | omega | (dsimp only; omega)) N32
                      refine lv_if_ne (tgt := 199) hx hb d_M_read_194 (by decide) (fun c194 => ?_) (fun c194 => ?_)
                      · obtain ⟨hsd9, N33⟩ := raise_y hc191 c194
                        have hden : dval tx (e1 + 1) (la - (e1 + 1)) = denT tx n := by unfold denT; rw [← hfd, ← he1, if_pos (by omega), show la = n by omega]
                        rw [hden] at hsd9 N33
                        exact K199  _ _ _ ls (hsn9) (hsd9) (wr_pos hwt hgood hfd he1 (by omega)) (fun y9 h1 => ((hf191 (y9) (by omega) (by omega) (by omega)).trans ((hf172 (y9) (by omega) (by omega) (by omega)).trans (hf164 (y9) (by omega) (by omega) (by omega)))).trans (hfr y9 (by omega))) (hO_at_191) (hRn_at_191) (N32_at_191) (N33) (h102_at_191) (h103_at_191) hw (lv_sub hl [1, 2, 3] rfl)
                      · have hbg := raise_n hc191 c194
                        have hbig : ¬ (sm (numT tx n) ∧ sm (denT tx n)) := fun h9 => hbg (by have h8 := h9.2; unfold denT at h8; rw [← hfd, ← he1, if_pos (by omega)] at h8; rw [show la = n by omega]; exact h8)
                        refine wz_iconst (n := -1) hx hb d_M_read_197 ?_
                        rw [← hQ]
                        exact pw_iret hx hb hr hlocks hw (by
                          rw [o_read, cif_pos hRto, ← htx, ← hnS, cif_pos (hwt ▸ hgood), cif_neg hbig]
                          exact ⟨rfl, ⟨by rw [← hnS]; exact hO_at_191, hRn_at_191, _, _, h102_at_191, by rw [← hnS, ← htx]; exact htt, h103_at_191⟩, fun y9 h1 => ((hf191 (y9) (by omega) (by omega) (by omega)).trans ((hf172 (y9) (by omega) (by omega) (by omega)).trans (hf164 (y9) (by omega) (by omega) (by omega)))).trans (hfr y9 (by omega))⟩) d_M_read_198
                · exact absurd c144 (by omega)
              refine wz_icmp_le (tgt := 139) hx hb d_M_read_106 (by decide) (by omega) (by omega) (by omega) (by omega) (fun c106 => ?_) (fun c106 => ?_)
              · have hbad : wt = (la : Int) := by rw [hwt]; exact wr_bad1 hfd he1 he2 (by omega) (by omega)
                exact K139  _ _ _ ls (hbad) (fun y9 h1 => (rfl).trans (hfr y9 h1)) hO hRn N0 h102 h103 hw hl
              · refine lv_iload hx hb d_M_read_109 (lv_at hl 5 rfl) ?_
                refine lv_aload_n hx hb d_M_read_111 rfl (lv_at hl 0 rfl) ?_
                refine pw_get (ci := 6) (C := R_M) (T := T_M) (N := 8) hx hb hq i_M hown hw (by omega) hO rfl 5 (by decide) (hq _ fl_M_125) (fun _ h9 => h9) rfl d_M_read_112 ?_
                refine wz_icmp_ne (tgt := 139) hx hb d_M_read_115 (by decide) (by omega) (by omega) (by omega) (by omega) (fun c115 => ?_) (fun c115 => ?_)
                · have hbad : wt = (la : Int) := by rw [hwt]; exact wr_bad2 hfd he1 he2 hov hla (by omega)
                  exact K139  _ _ _ ls (hbad) (fun y9 h1 => (rfl).trans (hfr y9 h1)) hO hRn N0 h102 h103 hw hl
                · refine lv_iload hx hb d_M_read_118 (lv_at hl 4 rfl) ?_
                  refine wz_if_eq (tgt := 135) hx hb d_M_read_120 (by decide) (by omega) (by omega) (fun c120 => ?_) (fun c120 => ?_)
                  · have hgood : wt = -1 := by rw [hwt]; exact wr_good1 hfd he1 (by omega) (by omega)
                    exact K135  _ _ _ ls (hgood) (by omega) (by omega) (fun y9 h1 => (rfl).trans (hfr y9 h1)) hO hRn N0 h102 h103 hw hl
                  · refine lv_aload_n hx hb d_M_read_123 rfl (lv_at hl 0 rfl) ?_
                    refine lv_iload_n hx hb d_M_read_124 rfl (lv_at hl 3 rfl) ?_
                    refine wz_iconst (n := 1) hx hb d_M_read_125 ?_
                    refine wz_iadd (z := ((e1 + 1 : Nat) : Int)) hx hb d_M_read_126 (by omega) ?_
                    refine lv_iload hx hb d_M_read_127 (lv_at hl 5 rfl) ?_
                    refine pw_calli hw (va_runV (As := [.int (iI (((e1 + 1 : Nat) : Int))), .int (iI ((la : Int)))]) (rest := []) ⟨hx, hb, hml, hown, hq⟩ (c_M_hasMore l D ty ad M F104 H.size hM (0) (pS g) n tx _ hO h102 htt hn hch (e1 + 1) la (by omega) (by omega)) (cwV 2 hq (gV ml_M_146 im_M_hasMore se_M_hasMore in_M m_M_hasMore) rfl rfl rfl (by decide +kernel) ⟨Nat.le_of_ble_eq_true rfl, Nat.le_of_ble_eq_true rfl⟩) (pw_preV hw (by omega) hO rfl) rfl rfl hl.1 rfl (lv_room (Nat.le_of_ble_eq_true rfl)) d_M_read_129 ⟨Nat.le_of_ble_eq_true rfl, Nat.le_of_ble_eq_true rfl⟩) (fun r129 F129 H locs q129 hw => ?_)
                    obtain ⟨er129, eF129⟩ := q129
                    rw [eF129] at hw
                    clear eF129
                    subst er129
                    have hab := azN_b tx (la - (e1 + 1)) (e1 + 1)
                    refine wz_if_eq (tgt := 139) hx hb d_M_read_132 (by decide) (by omega) (by omega) (fun c132 => ?_) (fun c132 => ?_)
                    · have hbad : wt = (la : Int) := by rw [hwt]; exact wr_bad3 hfd he1 he2 (by omega) (by omega) (by omega) (by omega) c132
                      exact K139  _ _ _ ls (hbad) (fun y9 h1 => (rfl).trans (hfr y9 h1)) hO hRn N0 h102 h103 hw hl
                    · have hgood : wt = -1 := by rw [hwt]; exact wr_good2 hfd he1 he2 (by omega) (by omega) (by omega) (by omega) c132
                      exact K135  _ _ _ ls (hgood) (by omega) (by omega) (fun y9 h1 => (rfl).trans (hfr y9 h1)) hO hRn N0 h102 h103 hw hl
            refine wz_if_eq (tgt := 101) hx hb d_M_read_88 (by decide) (by omega) (by omega) (fun c88 => ?_) (fun c88 => ?_)
            · refine lv_iload_n hx hb d_M_read_101 rfl (lv_at hl 3 rfl) ?_
              refine lv_istore (lv' := [(5, .int (iI ((e1 : Int)))), (0, .ref (ad (98))), (1, .int (iI ((uto : Int)))), (2, .int (iI ((fd : Int)))), (3, .int (iI ((e1 : Int)))), (4, .int (iI ((ov : Int))))]) hx hb d_M_read_102 hl (by decide) rfl (fun ls hl => ?_)
              exact K104 e1 _ _ _ ls (by omega) (by omega) (fun y9 h1 => show F13 (y9) = F (y9) from by rw [eF13]; exact va_up_ne _ _ (by omega)) m13_98 hRn_at_13 N0_at_13 h102_at_13 h103_at_13 hw (lv_sub hl [1, 2, 3, 4, 5, 0] rfl)
            · refine lv_aload_n hx hb d_M_read_91 rfl (lv_at hl 0 rfl) ?_
              refine lv_iload_n hx hb d_M_read_92 rfl (lv_at hl 3 rfl) ?_
              refine wz_iconst (n := 1) hx hb d_M_read_93 ?_
              refine wz_iadd (z := ((e1 + 1 : Nat) : Int)) hx hb d_M_read_94 (by omega) ?_
              refine pw_calli hw (va_runV (As := [.int (iI (((e1 + 1 : Nat) : Int)))]) (rest := []) ⟨hx, hb, hml, hown, hq⟩ (c_M_endOf l D ty ad M F13 H.size hM (0) (pS g) n tx _ m13_98 h102_at_13 htt hn hch (e1 + 1) (by omega)) (cwV 1 hq (gV ml_M_143 im_M_endOf se_M_endOf in_M m_M_endOf) rfl rfl rfl (by decide +kernel) ⟨Nat.le_of_ble_eq_true rfl, Nat.le_of_ble_eq_true rfl⟩) (pw_preV hw (by omega) m13_98 rfl) rfl rfl hl.1 rfl (lv_room (Nat.le_of_ble_eq_true rfl)) d_M_read_95 ⟨Nat.le_of_ble_eq_true rfl, Nat.le_of_ble_eq_true rfl⟩) (fun r95 F95 H locs q95 hw => ?_)
              obtain ⟨er95, eF95⟩ := q95
              rw [eF95] at hw
              clear eF95
              subst er95
              rw [← he2]
              refine lv_goto (tgt := 102) hx hb d_M_read_98 (by decide) ?_
              refine lv_istore (lv' := [(5, .int (iI ((e2 : Int)))), (0, .ref (ad (98))), (1, .int (iI ((uto : Int)))), (2, .int (iI ((fd : Int)))), (3, .int (iI ((e1 : Int)))), (4, .int (iI ((ov : Int))))]) hx hb d_M_read_102 hl (by decide) rfl (fun ls hl => ?_)
              exact K104 e2 _ _ _ ls (by omega) (by omega) (fun y9 h1 => show F13 (y9) = F (y9) from by rw [eF13]; exact va_up_ne _ _ (by omega)) m13_98 hRn_at_13 N0_at_13 h102_at_13 h103_at_13 hw (lv_sub hl [1, 2, 3, 4, 5, 0] rfl)
          refine wz_icmp_le (tgt := 83) hx hb d_M_read_57 (by decide) (by omega) (by omega) (by omega) (by omega) (fun c57 => ?_) (fun c57 => ?_)
          · refine wz_iconst (n := 0) hx hb d_M_read_83 ?_
            refine lv_istore (lv' := [(4, .int (iI (0))), (3, .int (iI ((e1 : Int)))), (0, .ref (ad (98))), (1, .int (iI ((uto : Int)))), (2, .int (iI ((fd : Int))))]) hx hb d_M_read_84 hl (by decide) rfl (fun ls hl => ?_)
            exact K86 0 ls (Or.inr ⟨rfl, by omega⟩) (lv_sub hl [2, 3, 4, 1, 0] rfl)
          · refine lv_iload_n hx hb d_M_read_60 rfl (lv_at hl 0 rfl) ?_
            refine lv_aload_n hx hb d_M_read_61 rfl (lv_at hl 1 rfl) ?_
            refine pw_get (ci := 6) (C := R_M) (T := T_M) (N := 8) hx hb hq i_M hown hw (by omega) m13_98 rfl 5 (by decide) (hq _ fl_M_125) (fun _ h9 => h9) rfl d_M_read_62 ?_
            refine wz_icmp_ge (tgt := 83) hx hb d_M_read_65 (by decide) (by omega) (by omega) (by omega) (by omega) (fun c65 => ?_) (fun c65 => ?_)
            · refine wz_iconst (n := 0) hx hb d_M_read_83 ?_
              refine lv_istore (lv' := [(4, .int (iI (0))), (3, .int (iI ((e1 : Int)))), (0, .ref (ad (98))), (1, .int (iI ((uto : Int)))), (2, .int (iI ((fd : Int))))]) hx hb d_M_read_84 hl (by decide) rfl (fun ls hl => ?_)
              exact K86 0 ls (Or.inr ⟨rfl, by omega⟩) (lv_sub hl [2, 3, 4, 1, 0] rfl)
            · refine lv_aload_n hx hb d_M_read_68 rfl (lv_at hl 1 rfl) ?_
              refine pw_get (ci := 6) (C := R_M) (T := T_M) (N := 8) hx hb hq i_M hown hw (by omega) m13_98 rfl 4 (by decide) (hq _ fl_M_20) (fun _ h9 => h9) rfl d_M_read_69 ?_
              refine lv_iload_n hx hb d_M_read_72 rfl (lv_at hl 0 rfl) ?_
              have hc2 := hch e1 (by omega)
              refine pw_iald (k := e1) hx hb hw 0 (by omega) h102_at_13 rfl (iI_in (by omega) (by omega) (by omega)) ((iI_cl (by omega) (by omega)).trans (by omega)) d_M_read_73 ?_
              refine lv_topi (fun x73 ex73 => ?_)
              obtain rfl : x73 = iI ((tx e1 : Int)) := ex73.trans (htt e1 (by omega))
              refine wz_bipush (n := 47) hx hb d_M_read_74 (by decide) ?_
              refine wz_icmp_ne (tgt := 83) hx hb d_M_read_76 (by decide) (by omega) (by omega) (by omega) (by omega) (fun c76 => ?_) (fun c76 => ?_)
              · refine wz_iconst (n := 0) hx hb d_M_read_83 ?_
                refine lv_istore (lv' := [(4, .int (iI (0))), (3, .int (iI ((e1 : Int)))), (0, .ref (ad (98))), (1, .int (iI ((uto : Int)))), (2, .int (iI ((fd : Int))))]) hx hb d_M_read_84 hl (by decide) rfl (fun ls hl => ?_)
                exact K86 0 ls (Or.inr ⟨rfl, by omega⟩) (lv_sub hl [2, 3, 4, 1, 0] rfl)
              · refine wz_iconst (n := 1) hx hb d_M_read_79 ?_
                refine lv_goto (tgt := 84) hx hb d_M_read_80 (by decide) ?_
                refine lv_istore (lv' := [(4, .int (iI (1))), (3, .int (iI ((e1 : Int)))), (0, .ref (ad (98))), (1, .int (iI ((uto : Int)))), (2, .int (iI ((fd : Int))))]) hx hb d_M_read_84 hl (by decide) rfl (fun ls hl => ?_)
                exact K86 1 ls (Or.inl ⟨rfl, by omega, by omega, by omega⟩) (lv_sub hl [2, 3, 4, 1, 0] rfl)
        have hc0 : 0 < n → tx 0 < 128 := fun h9 => hch 0 h9
        refine wz_if_le (tgt := 47) hx hb d_M_read_29 (by decide) (by omega) (by omega) (fun c29 => ?_) (fun c29 => ?_)
        · refine wz_iconst (n := 0) hx hb d_M_read_47 ?_
          have hfd0 : fd = 0 := by rw [hfd]; unfold fdig; rw [if_neg (by omega)]
          rw [show (0 : Int) = (fd : Int) by omega]
          refine lv_istore_n (lv' := [(2, .int (iI ((fd : Int)))), (0, .ref (ad (98))), (1, .int (iI ((uto : Int))))]) hx hb d_M_read_48 rfl hl (by decide) rfl (fun ls hl => ?_)
          exact K49  ls (lv_sub hl [1, 2, 0] rfl)
        · refine lv_aload_n hx hb d_M_read_32 rfl (lv_at hl 0 rfl) ?_
          refine pw_get (ci := 6) (C := R_M) (T := T_M) (N := 8) hx hb hq i_M hown hw (by omega) m13_98 rfl 4 (by decide) (hq _ fl_M_20) (fun _ h9 => h9) rfl d_M_read_33 ?_
          refine wz_iconst (n := 0) hx hb d_M_read_36 ?_
          have hc1 := hc0 (by omega)
          refine pw_iald (k := 0) hx hb hw 0 (by omega) h102_at_13 rfl (iI_in (by omega) (by omega) (by omega)) ((iI_cl (by omega) (by omega)).trans (by omega)) d_M_read_37 ?_
          refine lv_topi (fun x37 ex37 => ?_)
          obtain rfl : x37 = iI ((tx 0 : Int)) := ex37.trans (htt 0 (by omega))
          refine wz_bipush (n := 45) hx hb d_M_read_38 (by decide) ?_
          refine wz_icmp_ne (tgt := 47) hx hb d_M_read_40 (by decide) (by omega) (by omega) (by omega) (by omega) (fun c40 => ?_) (fun c40 => ?_)
          · refine wz_iconst (n := 0) hx hb d_M_read_47 ?_
            have hfd0 : fd = 0 := by rw [hfd]; unfold fdig; rw [if_neg (by omega)]
            rw [show (0 : Int) = (fd : Int) by omega]
            refine lv_istore_n (lv' := [(2, .int (iI ((fd : Int)))), (0, .ref (ad (98))), (1, .int (iI ((uto : Int))))]) hx hb d_M_read_48 rfl hl (by decide) rfl (fun ls hl => ?_)
            exact K49  ls (lv_sub hl [1, 2, 0] rfl)
          · refine wz_iconst (n := 1) hx hb d_M_read_43 ?_
            refine lv_goto (tgt := 48) hx hb d_M_read_44 (by decide) ?_
            have hfd0 : fd = 1 := by rw [hfd]; unfold fdig; rw [if_pos (by omega)]
            rw [show (1 : Int) = (fd : Int) by omega]
            refine lv_istore_n (lv' := [(2, .int (iI ((fd : Int)))), (0, .ref (ad (98))), (1, .int (iI ((uto : Int))))]) hx hb d_M_read_48 rfl hl (by decide) rfl (fun ls hl => ?_)
            exact K49  ls (lv_sub hl [1, 2, 0] rfl)
      · exact absurd c20 (by omega)
  rw [hH, hlo] at hgo
  exact hgo
