/-! Divisors: greatestCommon: by program -/
set_option maxHeartbeats 4000000 in
set_option maxRecDepth 100000 in
/-- Divisors.greatestCommon(a, b) -/
theorem c_D_greatestCommon (l : Launch) (D : va_G) (ty : Nat → ClassId) (ad : Nat → Nat) (M : Nat) (F : Nat → va_E) (sz : Nat) (o a b va vb : Nat) (hMo : o + 2 < M) (hMa : a + 1 < M) (hMb : b + 1 < M) (hoa : a ≠ o ∧ a ≠ o + 1 ∧ a ≠ o + 2 ∧ a + 1 ≠ o) (hob : b ≠ o ∧ b ≠ o + 1 ∧ b ≠ o + 2 ∧ b + 1 ≠ o) (hab : a ≠ b ∧ a ≠ b + 1 ∧ a + 1 ≠ b) (hva : va < 2147483648 ^ 135) (hvb : vb < 2147483648 ^ 135) (f0 g0 h0 k0 : Int64) (hO_o : F (o) = .inr (3, [.ref (ad (o + 1)), .long (f0), .long (g0), .long (h0), .long (k0)])) (hX : Wv ty ad F a 136 va) (hY : Wv ty ad F b 136 vb) (hS : Wa ty ad F (o + 1) 136) :
    CR l y_D_greatestCommon w_D_greatestCommon ({ frames := 4, cells := 0, slots := 0, locals := 108 } : Room) [.ref (ad (o)), .ref (ad (a)), .ref (ad (b))] D ty ad M F sz (fun u => (u.1 = a ∨ u.1 = b) ∧ Wv ty ad u.2 u.1 136 (Nat.gcd va vb) ∧ Wa ty ad u.2 a 136 ∧ Wa ty ad u.2 b 136 ∧ Wa ty ad u.2 (o + 1) 136 ∧ (∃ f g h k : Int64, u.2 o = .inr (3, [.ref (ad (o + 1)), .long f, .long g, .long h, .long k])) ∧ ∀ y, y ≠ o → y ≠ o + 1 → y ≠ o + 2 → y ≠ a → y ≠ a + 1 → y ≠ b → y ≠ b + 1 → u.2 y = F y) := by
  refine Met.ofW (cc := b_D_greatestCommon) (maxL := 8) (ret := (some (.object "FractionDesk$Whole"))) (by decide) rfl ?_
  intro p e s m args below meth c s₁ B hml hv
  obtain ⟨rfl, hsz, hP, hK, hD0⟩ := hv
  have hx := B.exec
  have hb := B.bytes
  have hr := B.returns
  have hts := atoms_spec (ws := w_D_greatestCommon) B.pre
  have hq : ∀ w ∈ wT, w.before _ s = true := fun w h => hts w (List.mem_cons_of_mem _ h)
  have hown : s.vm.findClass R_D = some m.cls := findClass_of_methodNamed B.named
  have hlocks := B.notSynchronized
  subst hsz
  have hw := pw_start hP hK hD0
  have hl := lv_entry ([.ref (ad (o)), .ref (ad (a)), .ref (ad (b))]) (n := 8) (Nat.le_of_ble_eq_true rfl)
  rw [lg_entry_eq]
  generalize (lg_sl ([.ref (ad (o)), .ref (ad (a)), .ref (ad (b))]) ++ List.replicate (8 - (lg_sl ([.ref (ad (o)), .ref (ad (a)), .ref (ad (b))])).length) Slot.unset).toArray = ls at hl ⊢
  have hl : lv_has ls 8 [(0, .ref (ad (o))), (1, .ref (ad (a))), (2, .ref (ad (b)))] := hl
  change W p l e ({ frames := 4, cells := 0, slots := 0, locals := 108 } : Room) s m ([.ref (ad (o)), .ref (ad (a)), .ref (ad (b))]).toArray below meth c s.heap [] 0 0 (MQ below (va_Qr (fun u => (u.1 = a ∨ u.1 = b) ∧ Wv ty ad u.2 u.1 136 (Nat.gcd va vb) ∧ Wa ty ad u.2 a 136 ∧ Wa ty ad u.2 b 136 ∧ Wa ty ad u.2 (o + 1) 136 ∧ (∃ f g h k : Int64, u.2 o = .inr (3, [.ref (ad (o + 1)), .long f, .long g, .long h, .long k])) ∧ ∀ y, y ≠ o → y ≠ o + 1 → y ≠ o + 2 → y ≠ a → y ≠ a + 1 → y ≠ b → y ≠ b + 1 → u.2 y = F y) (pAtR D classes (tysL ty) ad M (pA ad M s.heap.size)) (pA ad M s.heap.size)) ([.ref (ad (o)), .ref (ad (a)), .ref (ad (b))]).toArray s 0 0 (pA ad M s.heap.size)) (F0 m 0 ls [])
  generalize hQ : MQ below (va_Qr (fun u => (u.1 = a ∨ u.1 = b) ∧ Wv ty ad u.2 u.1 136 (Nat.gcd va vb) ∧ Wa ty ad u.2 a 136 ∧ Wa ty ad u.2 b 136 ∧ Wa ty ad u.2 (o + 1) 136 ∧ (∃ f g h k : Int64, u.2 o = .inr (3, [.ref (ad (o + 1)), .long f, .long g, .long h, .long k])) ∧ ∀ y, y ≠ o → y ≠ o + 1 → y ≠ o + 2 → y ≠ a → y ≠ a + 1 → y ≠ b → y ≠ b + 1 → u.2 y = F y) (pAtR D classes (tysL ty) ad M (pA ad M s.heap.size)) (pA ad M s.heap.size)) ([.ref (ad (o)), .ref (ad (a)), .ref (ad (b))]).toArray s 0 0 (pA ad M s.heap.size) = Q
  obtain ⟨H, hH⟩ : ∃ H, H = s.heap := ⟨_, rfl⟩
  obtain ⟨locs, hlo⟩ : ∃ z : List Loc, z = [] := ⟨_, rfl⟩
  have hw : pw D classes (tysL ty) ad M F (pA ad M s.heap.size) s H locs := by rw [hH, hlo]; exact hw
  have hgo : W p l e ({ frames := 4, cells := 0, slots := 0, locals := 108 } : Room) s m ([.ref (ad (o)), .ref (ad (a)), .ref (ad (b))]).toArray below meth c H locs 0 0 Q (F0 m 0 ls []) := by
    have K39 : ∀ (fuel : Nat) (st0 xi yi vx vy : Nat) (f1 g1 h1 k1 : Int64) (F39 : Nat → va_E) (H : Heap) (locs : List Loc) (ls : Array Slot), 6200 - st0 < fuel → (st0 ≤ 6200) → ((xi = a ∧ yi = b) ∨ (xi = b ∧ yi = a)) → (vy ≤ vx) → (Nat.gcd vx vy = Nat.gcd va vb) → (vx < 2147483648 ^ 135) → (eu_Q (6200 - st0) vx vy) → (∀ y, y ≠ o → y ≠ o + 1 → y ≠ o + 2 → y ≠ a → y ≠ a + 1 → y ≠ b → y ≠ b + 1 → F39 y = F y) → F39 (o) = .inr (3, [.ref (ad (o + 1)), .long (f1), .long (g1), .long (h1), .long (k1)]) → Wv ty ad F39 (xi) 136 (vx) → Wv ty ad F39 (yi) 136 (vy) → Wa ty ad F39 (o + 1) 136 → pw D classes (tysL ty) ad M F39 (pA ad M s.heap.size) s H locs → lv_has ls 8 [(6, .int (iI ((st0 : Int)))), (4, .ref (ad (xi))), (5, .ref (ad (yi))), (0, .ref (ad (o)))] → W p l e ({ frames := 4, cells := 0, slots := 0, locals := 108 } : Room) s m ([.ref (ad (o)), .ref (ad (a)), .ref (ad (b))]).toArray below meth c H locs 0 0 Q (F0 m 39 ls []) := by
      intro fuel
      induction fuel with
      | zero => intro st0 xi yi vx vy f1 g1 h1 k1 F39 H locs ls hfuel hst hxy hle hgc hvx hEu hfr hO_o hX hY hS hw hl; exact absurd hfuel (Nat.not_lt_zero _)
      | succ fuel ih39 =>
        intro st0 xi yi vx vy f1 g1 h1 k1 F39 H locs ls hfuel hst hxy hle hgc hvx hEu hfr hO_o hX hY hS hw hl
        refine lv_iload hx hb d_D_greatestCommon_39 (lv_at hl 0 rfl) ?_
        refine wz_sipush (n := 6200) hx hb d_D_greatestCommon_41 (by decide) ?_
        refine wz_icmp_ge (tgt := 143) hx hb d_D_greatestCommon_44 (by decide) (by omega) (by omega) (by omega) (by omega) (fun c44 => ?_) (fun c44 => ?_)
        · have hv0 : vy = 0 := eu_0 (by rw [show 6200 - st0 = 0 by omega] at hEu; exact hEu) hle
          refine lv_aload hx hb d_D_greatestCommon_143 (lv_at hl 1 rfl) ?_
          rw [← hQ]
          exact pw_aret hx hb hr (Or.inl ⟨_, rfl⟩) hlocks hw (⟨by show xi = a ∨ xi = b; omega, by rw [← hgc, hv0, Nat.gcd_zero_right]; exact hX, pick_a (P := fun z => Wa ty ad _ z 136) hxy (hX).a (hY).a, pick_b (P := fun z => Wa ty ad _ z 136) hxy (hX).a (hY).a, hS, ⟨_, _, _, _, hO_o⟩, hfr⟩) d_D_greatestCommon_145
        · refine lv_aload hx hb d_D_greatestCommon_47 (lv_at hl 2 rfl) ?_
          refine pw_calli hw (va_runV (As := []) (rest := []) ⟨hx, hb, hml, hown, hq⟩ (c_W_isZero l D ty ad M F39 H.size yi 136 vy (by omega) (by omega) hY) (cwV 0 hq (gV ml_D_24 im_W_isZero se_W_isZero in_W m_W_isZero) rfl rfl rfl (by decide +kernel) ⟨Nat.le_of_ble_eq_true rfl, Nat.le_of_ble_eq_true rfl⟩) (pw_preWa hw (by omega) (hY).a) rfl rfl hl.1 rfl (lv_room (Nat.le_of_ble_eq_true rfl)) d_D_greatestCommon_49 ⟨Nat.le_of_ble_eq_true rfl, Nat.le_of_ble_eq_true rfl⟩) (fun r49 F49 H locs q49 hw => ?_)
          obtain ⟨er49, eF49⟩ := q49
          rw [eF49] at hw
          clear eF49
          subst er49
          refine wz_if_ne (tgt := 143) hx hb d_D_greatestCommon_52 (by decide) (by split <;> omega) (by split <;> omega) (fun c52 => ?_) (fun c52 => ?_)
          · have hv0 : vy = 0 := by
              apply Classical.byContradiction
              intro h9
              rw [if_neg h9] at c52
              omega
            refine lv_aload hx hb d_D_greatestCommon_143 (lv_at hl 1 rfl) ?_
            rw [← hQ]
            exact pw_aret hx hb hr (Or.inl ⟨_, rfl⟩) hlocks hw (⟨by show xi = a ∨ xi = b; omega, by rw [← hgc, hv0, Nat.gcd_zero_right]; exact hX, pick_a (P := fun z => Wa ty ad _ z 136) hxy (hX).a (hY).a, pick_b (P := fun z => Wa ty ad _ z 136) hxy (hX).a (hY).a, hS, ⟨_, _, _, _, hO_o⟩, hfr⟩) d_D_greatestCommon_145
          · have hv1 : vy ≠ 0 := by
              intro h9
              rw [if_pos h9] at c52
              omega
            refine lv_aload_n hx hb d_D_greatestCommon_55 rfl (lv_at hl 3 rfl) ?_
            refine lv_aload hx hb d_D_greatestCommon_56 (lv_at hl 1 rfl) ?_
            refine lv_aload hx hb d_D_greatestCommon_58 (lv_at hl 2 rfl) ?_
            refine pw_calli hw (va_runV (As := [.ref (ad (xi)), .ref (ad (yi))]) (rest := []) ⟨hx, hb, hml, hown, hq⟩ (c_D_findLeap l D ty ad M F39 H.size o xi yi 136 136 vx vy (by omega) (by omega) (by omega) (by omega) (by omega) (by omega) (by omega) (by omega) hle f1 g1 h1 k1 hO_o hX hY) (cwV 2 hq (gV ml_D_28 im_D_findLeap se_D_findLeap in_D m_D_findLeap) rfl rfl rfl (by decide +kernel) ⟨Nat.le_of_ble_eq_true rfl, Nat.le_of_ble_eq_true rfl⟩) (pw_preV hw (by omega) hO_o rfl) rfl rfl hl.1 rfl (lv_room (Nat.le_of_ble_eq_true rfl)) d_D_greatestCommon_60 ⟨Nat.le_of_ble_eq_true rfl, Nat.le_of_ble_eq_true rfl⟩) (fun r60 F60 H locs q60 hw => ?_)
            obtain ⟨ff, gg, hh, kk, hO60, hf60, hr60⟩ := q60
            have hX_at_60 : Wv ty ad F60 (xi) 136 (vx) := Wv.mv hX (hf60 (xi) (by omega)) (hf60 (xi + 1) (by omega))
            have hY_at_60 : Wv ty ad F60 (yi) 136 (vy) := Wv.mv hY (hf60 (yi) (by omega)) (hf60 (yi + 1) (by omega))
            have hS_at_60 : Wa ty ad F60 (o + 1) 136 := Wa.mv hS (hf60 (o + 1) (by omega)) (hf60 (o + 1 + 1) (by omega))
            refine lv_if_eq (tgt := 114) hx hb d_D_greatestCommon_63 (by decide) (fun c63 => ?_) (fun c63 => ?_)
            · refine lv_aload hx hb d_D_greatestCommon_114 (lv_at hl 1 rfl) ?_
              refine lv_aload hx hb d_D_greatestCommon_116 (lv_at hl 2 rfl) ?_
              refine lv_aload_n hx hb d_D_greatestCommon_118 rfl (lv_at hl 3 rfl) ?_
              refine pw_get (ci := 3) (C := R_D) (T := T_D) (N := 5) hx hb hq i_D hown hw (by omega) hO60 rfl 0 (by decide) (hq _ fl_D_14) (fun _ h9 => h9) rfl d_D_greatestCommon_119 ?_
              refine pw_callv hw (va_runV (As := [.ref (ad (yi)), .ref (ad (o + 1))]) (rest := []) ⟨hx, hb, hml, hown, hq⟩ (c_W_leaveRest l D ty ad M F60 H.size xi yi (o + 1) 136 136 136 vx vy (by omega) (by omega) (by omega) (by omega) (by omega) (by omega) (by omega) (by omega) (by omega) (by omega) hvx (hX_at_60).ltN hX_at_60 hY_at_60 hS_at_60) (cwV 2 hq (gV ml_D_53 im_W_leaveRest se_W_leaveRest in_W m_W_leaveRest) rfl rfl rfl (by decide +kernel) ⟨Nat.le_of_ble_eq_true rfl, Nat.le_of_ble_eq_true rfl⟩) (pw_preWa hw (by omega) (hX_at_60).a) rfl rfl hl.1 rfl (lv_room (Nat.le_of_ble_eq_true rfl)) d_D_greatestCommon_122 ⟨Nat.le_of_ble_eq_true rfl, Nat.le_of_ble_eq_true rfl⟩) (fun F122 H locs q122 hw => ?_)
              obtain ⟨hX, hS, hf122⟩ := q122
              have hY_at_122 : Wv ty ad F122 (yi) 136 (vy) := Wv.mv hY_at_60 (hf122 (yi) (by omega) (by omega) (by omega) (by omega)) (hf122 (yi + 1) (by omega) (by omega) (by omega) (by omega))
              have hO60_at_122 : F122 (o) = .inr (3, [.ref (ad (o + 1)), .long (iL (ff)), .long (iL (gg)), .long (iL (hh)), .long (iL (kk))]) := (hf122 (o) (by omega) (by omega) (by omega) (by omega)).trans hO60
              refine lv_aload hx hb d_D_greatestCommon_125 (lv_at hl 1 rfl) ?_
              refine lv_astore (lv' := [(7, .ref (ad (xi))), (6, .int (iI ((st0 : Int)))), (4, .ref (ad (xi))), (5, .ref (ad (yi))), (0, .ref (ad (o)))]) hx hb d_D_greatestCommon_127 hl (by decide) rfl (fun ls hl => ?_)
              refine lv_aload hx hb d_D_greatestCommon_129 (lv_at hl 3 rfl) ?_
              refine lv_astore (lv' := [(4, .ref (ad (yi))), (7, .ref (ad (xi))), (6, .int (iI ((st0 : Int)))), (5, .ref (ad (yi))), (0, .ref (ad (o)))]) hx hb d_D_greatestCommon_131 hl (by decide) rfl (fun ls hl => ?_)
              refine lv_aload hx hb d_D_greatestCommon_133 (lv_at hl 1 rfl) ?_
              refine lv_astore (lv' := [(5, .ref (ad (xi))), (4, .ref (ad (yi))), (7, .ref (ad (xi))), (6, .int (iI ((st0 : Int)))), (0, .ref (ad (o)))]) hx hb d_D_greatestCommon_135 hl (by decide) rfl (fun ls hl => ?_)
              refine wz_iinc (z := ((st0 + 1 : Nat) : Int)) (lv' := [(6, .int (iI (((st0 + 1 : Nat) : Int)))), (5, .ref (ad (xi))), (4, .ref (ad (yi))), (7, .ref (ad (xi))), (0, .ref (ad (o)))]) hx hb d_D_greatestCommon_137 hl (k := 3) rfl (by omega) (by decide) rfl (fun ls hl => ?_)
              refine lv_goto (tgt := 39) hx hb d_D_greatestCommon_140 (by decide) ?_
              exact ih39 (st0 + 1) yi xi vy (vx % vy) (iL ff) (iL gg) (iL hh) (iL kk) _ _ _ ls (by omega) (by omega) (by omega) (Nat.le_of_lt (Nat.mod_lt _ (by omega))) (by rw [← hgc, Nat.gcd_comm vx vy, Nat.gcd_rec vy vx, Nat.gcd_comm]) (Nat.lt_of_le_of_lt hle hvx) (eu_s (by rw [show 6200 - (st0 + 1) + 1 = 6200 - st0 by omega]; exact hEu) hle (by omega)) (fun y h0 h1 h2 h3 h4 h5 h6 => by rw [hf122 y (by omega) (by omega) (by omega) (by omega), hf60 y h0]; exact hfr y h0 h1 h2 h3 h4 h5 h6) (hO60_at_122) (hY_at_122) (hX) ((hS).a) hw (lv_sub hl [0, 2, 1, 4] rfl)
            · rcases hr60 with h9 | ⟨-, b1, b2, b3, b4, sg1, sg2, n1, x', y', hE, ex, ey⟩
              · exact absurd h9 c63
              refine lv_aload_n hx hb d_D_greatestCommon_66 rfl (lv_at hl 3 rfl) ?_
              refine pw_get (ci := 3) (C := R_D) (T := T_D) (N := 5) hx hb hq i_D hown hw (by omega) hO60 rfl 0 (by decide) (hq _ fl_D_14) (fun _ h9 => h9) rfl d_D_greatestCommon_67 ?_
              refine lv_aload_n hx hb d_D_greatestCommon_70 rfl (lv_at hl 3 rfl) ?_
              refine pw_get (ci := 3) (C := R_D) (T := T_D) (N := 5) hx hb hq i_D hown hw (by omega) hO60 rfl 1 (by decide) (hq _ fl_D_32) (fun _ h9 => h9) rfl d_D_greatestCommon_71 ?_
              refine lv_aload hx hb d_D_greatestCommon_74 (lv_at hl 1 rfl) ?_
              refine lv_aload_n hx hb d_D_greatestCommon_76 rfl (lv_at hl 3 rfl) ?_
              refine pw_get (ci := 3) (C := R_D) (T := T_D) (N := 5) hx hb hq i_D hown hw (by omega) hO60 rfl 2 (by decide) (hq _ fl_D_36) (fun _ h9 => h9) rfl d_D_greatestCommon_77 ?_
              refine lv_aload hx hb d_D_greatestCommon_80 (lv_at hl 2 rfl) ?_
              refine pw_callv hw (va_runV (As := [.long (iL (ff)), .ref (ad (xi)), .long (iL (gg)), .ref (ad (yi))]) (rest := []) ⟨hx, hb, hml, hown, hq⟩ (c_W_becomeMix l D ty ad M F60 H.size (o + 1) xi yi 136 136 136 vx vy x' ff gg (by omega) (by omega) (by omega) (by omega) (by omega) (by omega) (by omega) (by omega) b1 b2 (by omega) ex hvx (Nat.lt_of_le_of_lt hle hvx) (by omega) hX_at_60 hY_at_60 hS_at_60) (cwV 4 hq (gV ml_D_39 im_W_becomeMix se_W_becomeMix in_W m_W_becomeMix) rfl rfl rfl (by decide +kernel) ⟨Nat.le_of_ble_eq_true rfl, Nat.le_of_ble_eq_true rfl⟩) (pw_preWa hw (by omega) (hS_at_60)) rfl rfl hl.1 rfl (lv_room (Nat.le_of_ble_eq_true rfl)) d_D_greatestCommon_82 ⟨Nat.le_of_ble_eq_true rfl, Nat.le_of_ble_eq_true rfl⟩) (fun F82 H locs q82 hw => ?_)
              obtain ⟨hS, hf82⟩ := q82
              have hX_at_82 : Wv ty ad F82 (xi) 136 (vx) := Wv.mv hX_at_60 (hf82 (xi) (by omega) (by omega)) (hf82 (xi + 1) (by omega) (by omega))
              have hY_at_82 : Wv ty ad F82 (yi) 136 (vy) := Wv.mv hY_at_60 (hf82 (yi) (by omega) (by omega)) (hf82 (yi + 1) (by omega) (by omega))
              have hO60_at_82 : F82 (o) = .inr (3, [.ref (ad (o + 1)), .long (iL (ff)), .long (iL (gg)), .long (iL (hh)), .long (iL (kk))]) := (hf82 (o) (by omega) (by omega)).trans hO60
              refine lv_aload hx hb d_D_greatestCommon_85 (lv_at hl 2 rfl) ?_
              refine lv_aload_n hx hb d_D_greatestCommon_87 rfl (lv_at hl 3 rfl) ?_
              refine pw_get (ci := 3) (C := R_D) (T := T_D) (N := 5) hx hb hq i_D hown hw (by omega) hO60_at_82 rfl 3 (by decide) (hq _ fl_D_43) (fun _ h9 => h9) rfl d_D_greatestCommon_88 ?_
              refine lv_aload hx hb d_D_greatestCommon_91 (lv_at hl 1 rfl) ?_
              refine lv_aload_n hx hb d_D_greatestCommon_93 rfl (lv_at hl 3 rfl) ?_
              refine pw_get (ci := 3) (C := R_D) (T := T_D) (N := 5) hx hb hq i_D hown hw (by omega) hO60_at_82 rfl 4 (by decide) (hq _ fl_D_46) (fun _ h9 => h9) rfl d_D_greatestCommon_94 ?_
              refine lv_aload hx hb d_D_greatestCommon_97 (lv_at hl 2 rfl) ?_
              refine pw_callv hw (va_runV (As := [.long (iL (hh)), .ref (ad (xi)), .long (iL (kk)), .ref (ad (yi))]) (rest := []) ⟨hx, hb, hml, hown, hq⟩ (c_W_becomeMix2 l D ty ad M F82 H.size yi xi 136 136 vx vy y' hh kk (by omega) (by omega) (by omega) (by omega) (by omega) b3 b4 (by omega) ey hvx (Nat.lt_of_le_of_lt hle hvx) (by omega) hX_at_82 hY_at_82) (cwV 4 hq (gV ml_D_39 im_W_becomeMix se_W_becomeMix in_W m_W_becomeMix) rfl rfl rfl (by decide +kernel) ⟨Nat.le_of_ble_eq_true rfl, Nat.le_of_ble_eq_true rfl⟩) (pw_preWa hw (by omega) (hY_at_82).a) rfl rfl hl.1 rfl (lv_room (Nat.le_of_ble_eq_true rfl)) d_D_greatestCommon_99 ⟨Nat.le_of_ble_eq_true rfl, Nat.le_of_ble_eq_true rfl⟩) (fun F99 H locs q99 hw => ?_)
              obtain ⟨hY, hf99⟩ := q99
              have hX_at_99 : Wv ty ad F99 (xi) 136 (vx) := Wv.mv hX_at_82 (hf99 (xi) (by omega) (by omega)) (hf99 (xi + 1) (by omega) (by omega))
              have hO60_at_99 : F99 (o) = .inr (3, [.ref (ad (o + 1)), .long (iL (ff)), .long (iL (gg)), .long (iL (hh)), .long (iL (kk))]) := (hf99 (o) (by omega) (by omega)).trans hO60_at_82
              have hS_at_99 : Wv ty ad F99 (o + 1) 136 (x') := Wv.mv hS (hf99 (o + 1) (by omega) (by omega)) (hf99 (o + 1 + 1) (by omega) (by omega))
              refine lv_aload hx hb d_D_greatestCommon_102 (lv_at hl 1 rfl) ?_
              refine lv_aload_n hx hb d_D_greatestCommon_104 rfl (lv_at hl 3 rfl) ?_
              refine pw_get (ci := 3) (C := R_D) (T := T_D) (N := 5) hx hb hq i_D hown hw (by omega) hO60_at_99 rfl 0 (by decide) (hq _ fl_D_14) (fun _ h9 => h9) rfl d_D_greatestCommon_105 ?_
              refine pw_callv hw (va_runV (As := [.ref (ad (o + 1))]) (rest := []) ⟨hx, hb, hml, hown, hq⟩ (c_W_become l D ty ad M F99 H.size xi (o + 1) 136 136 x' (by omega) (by omega) (by omega) (by omega) (by omega) (hS_at_99).ltN (hX_at_99).a hS_at_99) (cwV 1 hq (gV ml_D_49 im_W_become se_W_become in_W m_W_become) rfl rfl rfl (by decide +kernel) ⟨Nat.le_of_ble_eq_true rfl, Nat.le_of_ble_eq_true rfl⟩) (pw_preWa hw (by omega) (hX_at_99).a) rfl rfl hl.1 rfl (lv_room (Nat.le_of_ble_eq_true rfl)) d_D_greatestCommon_108 ⟨Nat.le_of_ble_eq_true rfl, Nat.le_of_ble_eq_true rfl⟩) (fun F108 H locs q108 hw => ?_)
              obtain ⟨hX, hf108⟩ := q108
              have hO60_at_108 : F108 (o) = .inr (3, [.ref (ad (o + 1)), .long (iL (ff)), .long (iL (gg)), .long (iL (hh)), .long (iL (kk))]) := (hf108 (o) (by omega) (by omega)).trans hO60_at_99
              have hS_at_108 : Wv ty ad F108 (o + 1) 136 (x') := Wv.mv hS_at_99 (hf108 (o + 1) (by omega) (by omega)) (hf108 (o + 1 + 1) (by omega) (by omega))
              have hY_at_108 : Wv ty ad F108 (yi) 136 (y') := Wv.mv hY (hf108 (yi) (by omega) (by omega)) (hf108 (yi + 1) (by omega) (by omega))
              refine lv_goto (tgt := 137) hx hb d_D_greatestCommon_111 (by decide) ?_
              refine wz_iinc (z := ((st0 + 1 : Nat) : Int)) (lv' := [(6, .int (iI (((st0 + 1 : Nat) : Int)))), (4, .ref (ad (xi))), (5, .ref (ad (yi))), (0, .ref (ad (o)))]) hx hb d_D_greatestCommon_137 hl (k := 0) rfl (by omega) (by decide) rfl (fun ls hl => ?_)
              refine lv_goto (tgt := 39) hx hb d_D_greatestCommon_140 (by decide) ?_
              exact ih39 (st0 + 1) xi yi x' y' (iL ff) (iL gg) (iL hh) (iL kk) _ _ _ ls (by omega) (by omega) (hxy) (eu_R.le hle hE) (by rw [eu_R.gcd hE]; exact hgc) (Nat.lt_of_le_of_lt (eu_R.lex hle hE) hvx) (eu_leap hle hE (by rw [show 6200 - (st0 + 1) + 1 = 6200 - st0 by omega]; exact hEu)) (fun y h0 h1 h2 h3 h4 h5 h6 => by rw [hf108 y (by omega) (by omega), hf99 y (by omega) (by omega), hf82 y (by omega) (by omega), hf60 y h0]; exact hfr y h0 h1 h2 h3 h4 h5 h6) (hO60_at_108) (hX) (hY_at_108) ((hS_at_108).a) hw hl
    refine lv_aload_n hx hb d_D_greatestCommon_0 rfl (lv_at hl 1 rfl) ?_
    refine lv_aload_n hx hb d_D_greatestCommon_1 rfl (lv_at hl 2 rfl) ?_
    refine pw_calli hw (va_runS (As := [.ref (ad (a)), .ref (ad (b))]) (rest := []) ⟨hx, hb, hml, hown, hq⟩ (c_W_compare l D ty ad M F H.size a b 136 136 va vb hMa hMb (by omega) (by omega) hX hY) (va_cwS 2 hq (gS ml_D_20 st_W_compare in_W m_W_compare) rfl rfl rfl (by decide +kernel) ⟨Nat.le_of_ble_eq_true rfl, Nat.le_of_ble_eq_true rfl⟩) (pw_preS hw) rfl rfl hl.1 rfl (lv_room (Nat.le_of_ble_eq_true rfl)) d_D_greatestCommon_2 ⟨Nat.le_of_ble_eq_true rfl, Nat.le_of_ble_eq_true rfl⟩) (fun r2 F2 H locs q2 hw => ?_)
    obtain ⟨er2, eF2⟩ := q2
    rw [eF2] at hw
    clear eF2
    subst er2
    refine wz_if_lt (tgt := 12) hx hb d_D_greatestCommon_5 (by decide) (by unfold cmpI; (split <;> (try split) <;> omega)) (by unfold cmpI; (split <;> (try split) <;> omega)) (fun c5 => ?_) (fun c5 => ?_)
    · have hlt9 := cmpI_neg.mp c5
      refine wz_iconst (n := 0) hx hb d_D_greatestCommon_12 ?_
      refine lv_istore_n (lv' := [(3, .int (iI (0))), (0, .ref (ad (o))), (1, .ref (ad (a))), (2, .ref (ad (b)))]) hx hb d_D_greatestCommon_13 rfl hl (by decide) rfl (fun ls hl => ?_)
      refine lv_iload_n hx hb d_D_greatestCommon_14 rfl (lv_at hl 0 rfl) ?_
      refine wz_if_eq (tgt := 22) hx hb d_D_greatestCommon_15 (by decide) (by omega) (by omega) (fun c15 => ?_) (fun c15 => ?_)
      · refine lv_aload_n hx hb d_D_greatestCommon_22 rfl (lv_at hl 3 rfl) ?_
        refine lv_astore (lv' := [(4, .ref (ad (b))), (3, .int (iI (0))), (0, .ref (ad (o))), (1, .ref (ad (a))), (2, .ref (ad (b)))]) hx hb d_D_greatestCommon_23 hl (by decide) rfl (fun ls hl => ?_)
        refine lv_iload_n hx hb d_D_greatestCommon_25 rfl (lv_at hl 1 rfl) ?_
        refine wz_if_eq (tgt := 33) hx hb d_D_greatestCommon_26 (by decide) (by omega) (by omega) (fun c26 => ?_) (fun c26 => ?_)
        · refine lv_aload_n hx hb d_D_greatestCommon_33 rfl (lv_at hl 3 rfl) ?_
          refine lv_astore (lv' := [(5, .ref (ad (a))), (4, .ref (ad (b))), (3, .int (iI (0))), (0, .ref (ad (o))), (1, .ref (ad (a))), (2, .ref (ad (b)))]) hx hb d_D_greatestCommon_34 hl (by decide) rfl (fun ls hl => ?_)
          refine wz_iconst (n := 0) hx hb d_D_greatestCommon_36 ?_
          refine lv_istore (lv' := [(6, .int (iI (0))), (5, .ref (ad (a))), (4, .ref (ad (b))), (3, .int (iI (0))), (0, .ref (ad (o))), (1, .ref (ad (a))), (2, .ref (ad (b)))]) hx hb d_D_greatestCommon_37 hl (by decide) rfl (fun ls hl => ?_)
          exact K39 _ 0 b a vb va f0 g0 h0 k0 _ _ _ ls (Nat.lt_succ_self _) (by omega) (Or.inr ⟨rfl, rfl⟩) (by omega) (Nat.gcd_comm _ _) (hvb) (eu_start (hX).ltN) (fun _ _ _ _ _ _ _ _ => rfl) (hO_o) (hY) (hX) (hS) hw (lv_sub hl [0, 2, 1, 4] rfl)
        · exact absurd c26 (by omega)
      · exact absurd c15 (by omega)
    · have hlt9 : vb ≤ va := by
        have := @cmpI_neg va vb
        omega
      refine wz_iconst (n := 1) hx hb d_D_greatestCommon_8 ?_
      refine lv_goto (tgt := 13) hx hb d_D_greatestCommon_9 (by decide) ?_
      refine lv_istore_n (lv' := [(3, .int (iI (1))), (0, .ref (ad (o))), (1, .ref (ad (a))), (2, .ref (ad (b)))]) hx hb d_D_greatestCommon_13 rfl hl (by decide) rfl (fun ls hl => ?_)
      refine lv_iload_n hx hb d_D_greatestCommon_14 rfl (lv_at hl 0 rfl) ?_
      refine wz_if_eq (tgt := 22) hx hb d_D_greatestCommon_15 (by decide) (by omega) (by omega) (fun c15 => ?_) (fun c15 => ?_)
      · exact absurd c15 (by omega)
      · refine lv_aload_n hx hb d_D_greatestCommon_18 rfl (lv_at hl 2 rfl) ?_
        refine lv_goto (tgt := 23) hx hb d_D_greatestCommon_19 (by decide) ?_
        refine lv_astore (lv' := [(4, .ref (ad (a))), (3, .int (iI (1))), (0, .ref (ad (o))), (1, .ref (ad (a))), (2, .ref (ad (b)))]) hx hb d_D_greatestCommon_23 hl (by decide) rfl (fun ls hl => ?_)
        refine lv_iload_n hx hb d_D_greatestCommon_25 rfl (lv_at hl 1 rfl) ?_
        refine wz_if_eq (tgt := 33) hx hb d_D_greatestCommon_26 (by decide) (by omega) (by omega) (fun c26 => ?_) (fun c26 => ?_)
        · exact absurd c26 (by omega)
        · refine lv_aload_n hx hb d_D_greatestCommon_29 rfl (lv_at hl 4 rfl) ?_
          refine lv_goto (tgt := 34) hx hb d_D_greatestCommon_30 (by decide) ?_
          refine lv_astore (lv' := [(5, .ref (ad (b))), (4, .ref (ad (a))), (3, .int (iI (1))), (0, .ref (ad (o))), (1, .ref (ad (a))), (2, .ref (ad (b)))]) hx hb d_D_greatestCommon_34 hl (by decide) rfl (fun ls hl => ?_)
          refine wz_iconst (n := 0) hx hb d_D_greatestCommon_36 ?_
          refine lv_istore (lv' := [(6, .int (iI (0))), (5, .ref (ad (b))), (4, .ref (ad (a))), (3, .int (iI (1))), (0, .ref (ad (o))), (1, .ref (ad (a))), (2, .ref (ad (b)))]) hx hb d_D_greatestCommon_37 hl (by decide) rfl (fun ls hl => ?_)
          exact K39 _ 0 a b va vb f0 g0 h0 k0 _ _ _ ls (Nat.lt_succ_self _) (by omega) (Or.inl ⟨rfl, rfl⟩) (by omega) (rfl) (hva) (eu_start (hY).ltN) (fun _ _ _ _ _ _ _ _ => rfl) (hO_o) (hX) (hY) (hS) hw (lv_sub hl [0, 2, 1, 4] rfl)
  rw [hH, hlo] at hgo
  exact hgo
